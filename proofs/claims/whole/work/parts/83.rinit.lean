/-! The reference's constructor. -/
section
variable {X : XC} {f f' : XH} {A : Nat → Nat → Nat} {DA : Nat → Nat} {v : SV} {L : SL}
/-- a field that gets a new array: field, length, type, place in the pool -/
abbrev RE : Type := Nat × Nat × Nat × Nat
def q_op (e : RE) : List XO := [(.aload_n 0, 1, 0, [], 0), (if e.2.1 < 128 then (.bipush e.2.1, 2, 0, [], nI e.2.1) else (.sipush e.2.1, 3, 0, [], nI e.2.1)), (.newarray (if e.2.2.1 = 0 then .int else .boolean), 2, e.2.2.1, [], 0), (.putfield e.2.2.2, 3, e.1, [(11, 2)], 0)]
theorem r_al {fr lo mc ms : Nat} {go : XJ} {RQ : Option Value → XH → Prop} {r : Nat} {ls : XL} (l0 : ls 0 = some (.ref r)) {rest : List XO} : ∀ (sp : List RE) (f : XH) (fs : List Value) (pc nc ns : Nat), f r = some (.inl (11, fs)) → fs.length = 46 → (∀ e ∈ sp, e.1 < 46 ∧ e.2.1 ≤ 3200) → (sp.map Prod.fst).Nodup → nc + sp.length ≤ mc → ns + (sp.map (fun e => e.2.1)).sum ≤ ms → (∀ (f' : XH) (fs' : List Value) (D : Nat → Nat) (pc' : Nat), f' r = some (.inl (11, fs')) → fs'.length = 46 → (∀ j, fs'[j]? = if j ∈ sp.map Prod.fst then some (.ref (D j)) else fs[j]?) → (∀ e ∈ sp, f (D e.1) = none ∧ f' (D e.1) = some (.inr (e.2.2.1, e.2.1, fun _ => .int 0))) → (∀ e ∈ sp, ∀ e' ∈ sp, D e.1 = D e'.1 → e.1 = e'.1) → (∀ b, b ≠ r → (∀ e ∈ sp, b ≠ D e.1) → f' b = f b) → pc' = pc + (sp.map (fun e => if e.2.1 < 128 then 8 else 9)).sum → x_run X fr lo mc ms go RQ rest pc' ls [] f' (nc + sp.length) (ns + (sp.map (fun e => e.2.1)).sum)) → x_run X fr lo mc ms go RQ (sp.flatMap q_op ++ rest) pc ls [] f nc ns := by
  intro sp
  induction sp with
  | nil =>
    intro f fs pc nc ns h1 h2 _ _ _ _ K
    exact K f fs (fun _ => 0) pc h1 h2 (fun j => by simp) (fun e he => absurd he List.not_mem_nil) (fun e he => absurd he List.not_mem_nil) (fun b _ _ => rfl) rfl
  | cons e sp ih =>
    intro f fs pc nc ns h1 h2 h3 h4 h5 h6 K
    obtain ⟨k, n, ti, ix⟩ := e
    have hk := h3 (k, n, ti, ix) List.mem_cons_self
    simp only at hk
    rw [List.map_cons, List.nodup_cons] at h4
    simp only [List.map_cons, List.sum_cons, List.length_cons] at h4 h5 h6 K
    have ec : (nI n).toNatClampNeg = n := nI_clamp (by omega)
    have key : ∀ (d : Nat) (pc1 : Nat), pc1 = pc + (if n < 128 then 8 else 9) → f d = none → x_run X fr lo mc ms go RQ (sp.flatMap q_op ++ rest) pc1 ls [] (va_up (va_up f d (some (.inr (ti, n, fun _ => .int 0)))) r (some (.inl (11, fs.set k (.ref d))))) (nc + 1) (ns + n) := by
      intro d pc1 epc hd
      have hrd : r ≠ d := fun z => by rw [z, hd] at h1; cases h1
      refine ih _ (fs.set k (.ref d)) pc1 (nc + 1) (ns + n) (va_up_self _ _ _) (by rw [List.length_set]; exact h2) (fun e he => h3 e (List.mem_cons_of_mem _ he)) h4.2 (by omega) (by omega) (fun f2 fs2 D pc2 g1 g2 g3 g4 g5 g6 g7 => ?_)
      have gD : ∀ e ∈ sp, D e.1 ≠ d ∧ D e.1 ≠ r ∧ f (D e.1) = none := by
        intro e he
        have q := (g4 e he).1
        have y1 : D e.1 ≠ r := fun z => by rw [z, va_up_self] at q; cases q
        rw [va_up_ne _ _ y1] at q
        have y2 : D e.1 ≠ d := fun z => by rw [z, va_up_self] at q; cases q
        rw [va_up_ne _ _ y2] at q
        exact ⟨y2, y1, q⟩
      have kn : ∀ e ∈ sp, e.1 ≠ k := fun e he z => h4.1 (z ▸ List.mem_map_of_mem he)
      have hdf : f2 d = some (.inr (ti, n, fun _ => .int 0)) := by
        rw [g6 d (Ne.symm hrd) (fun e he => Ne.symm (gD e he).1), va_up_ne _ _ (Ne.symm hrd), va_up_self]
      have := K f2 fs2 (fun j => if j = k then d else D j) pc2 g1 g2 (fun j => ?_) (fun e he => ?_) (fun e he e' he' z => ?_) (fun b b1 b2 => ?_) (by omega)
      · rw [show nc + (sp.length + 1) = nc + 1 + sp.length by omega, show ns + (n + (sp.map (fun e => e.2.1)).sum) = ns + n + (sp.map (fun e => e.2.1)).sum by omega] at this
        exact this
      · rw [g3 j]
        by_cases z : j = k
        · subst z
          rw [if_neg h4.1, List.getElem?_set_self (by omega), if_pos (by simp)]
          simp
        · rw [List.getElem?_set_ne (Ne.symm z)]
          simp only [List.mem_cons, z, false_or, if_false]
      · rcases List.mem_cons.mp he with rfl | he
        · simp only [if_true]
          exact ⟨hd, hdf⟩
        · simp only [kn e he, if_false]
          exact ⟨(gD e he).2.2, (g4 e he).2⟩
      · rcases List.mem_cons.mp he with rfl | he
        · rcases List.mem_cons.mp he' with rfl | he'
          · rfl
          · simp only [if_true, kn e' he', if_false] at z
            exact absurd z.symm (gD e' he').1
        · rcases List.mem_cons.mp he' with rfl | he'
          · simp only [if_true, kn e he, if_false] at z
            exact absurd z (gD e he).1
          · simp only [kn e he, kn e' he', if_false] at z
            exact g5 e he e' he' z
      · have bd : b ≠ d := by
          have := b2 (k, n, ti, ix) List.mem_cons_self
          simpa using this
        rw [g6 b b1 (fun e he => by have := b2 e (List.mem_cons_of_mem _ he); simp only [kn e he, if_false] at this; exact this), va_up_ne _ _ b1, va_up_ne _ _ bd]
    rw [List.flatMap_cons, List.append_assoc]
    unfold q_op
    by_cases hn : n < 128
    · simp only [if_pos hn]
      conv => whnf
      refine x_som_i l0 ?_
      conv => whnf
      refine ⟨nI_pos (by omega), by rw [ec]; omega, by omega, by rw [ec]; omega, fun d hd => ?_⟩
      have hrd : r ≠ d := fun z => by rw [z, hd] at h1; cases h1
      refine x_o (x_u hrd h1) ?_
      have hg : ∃ w, fs[k]? = some w := ⟨_, List.getElem?_eq_getElem (by omega)⟩
      obtain ⟨w, hw⟩ := hg
      conv => whnf
      refine x_som_i hw ?_
      rw [ec]
      exact key d _ (by rw [if_pos hn]; show pc + 1 + 2 + 2 + 3 = pc + 8; omega) hd
    · simp only [if_neg hn]
      conv => whnf
      refine x_som_i l0 ?_
      conv => whnf
      refine ⟨nI_pos (by omega), by rw [ec]; omega, by omega, by rw [ec]; omega, fun d hd => ?_⟩
      have hrd : r ≠ d := fun z => by rw [z, hd] at h1; cases h1
      refine x_o (x_u hrd h1) ?_
      have hg : ∃ w, fs[k]? = some w := ⟨_, List.getElem?_eq_getElem (by omega)⟩
      obtain ⟨w, hw⟩ := hg
      conv => whnf
      refine x_som_i hw ?_
      rw [ec]
      exact key d _ (by rw [if_neg hn]; show pc + 1 + 3 + 2 + 3 = pc + 9; omega) hd
end
