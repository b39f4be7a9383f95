/-! The reference's constructor: the picture, the method. -/
section
variable {X : XC} {f f' : XH} {A : Nat → Nat → Nat} {DA : Nat → Nat} {v : SV} {L : SL}
def r_sp : List RE := [(3, 8, 0, 7), (4, 8, 0, 13), (5, 8, 0, 16), (6, 8, 0, 19), (7, 64, 0, 22), (8, 8, 0, 25), (9, 8, 0, 28), (10, 8, 0, 31), (11, 8, 0, 34), (13, 8, 0, 37), (14, 8, 0, 40), (15, 32, 0, 43), (16, 32, 0, 46), (17, 8, 0, 49), (19, 24, 0, 52), (20, 24, 0, 55), (21, 24, 0, 58), (22, 24, 0, 61), (23, 24, 0, 64), (25, 8, 0, 67), (26, 32, 0, 70), (27, 32, 0, 73), (28, 32, 0, 76), (29, 8, 0, 79), (30, 8, 0, 82), (31, 8, 0, 85), (32, 8, 0, 88), (34, 8, 0, 91), (36, 24, 0, 94), (37, 24, 0, 97), (38, 24, 0, 100), (39, 24, 0, 103), (40, 24, 1, 106), (41, 24, 1, 110), (42, 8, 0, 113), (45, 3200, 0, 116)]
def rvk (v : SV) (k : Nat) : SV := fun c i => if c = 60 ∧ i = 0 then 1 else if c = 129 ∨ c = 134 ∨ c = 142 then (if i < k then -1 else 0) else if 100 ≤ c then 0 else v c i
theorem rvk_c {k c : Nat} (h : c < 100) (h6 : c ≠ 60) : rvk v k c = v c := by
  funext i
  unfold rvk
  rw [if_neg (by omega), if_neg (by omega), if_neg (by omega)]
theorem r_sp_k : ∀ j, j < 46 → (j ∈ r_sp.map Prod.fst ↔ ¬ r_len j = 0) := by decide
theorem r_sp_e : ∀ e ∈ r_sp, e.1 < 46 ∧ e.2.1 ≤ 3200 ∧ e.2.1 = r_len e.1 ∧ e.2.2.1 = r_at e.1 := by decide
theorem r_sp_x : ∀ j, j < 46 → ¬ r_len j = 0 → ∃ e ∈ r_sp, e.1 = j := by decide
theorem r_len_b {j : Nat} (h : ¬ r_len j = 0) : j < 46 := by
  rcases Nat.lt_or_ge j 46 with q | q
  · exact q
  · exact absurd (by unfold r_len; rw [List.getD_eq_getElem?_getD, List.getElem?_eq_none (by exact q)]; rfl) h
theorem PS_ref {r : Nat} {D : Nat → Nat} {fs' : List Value} (hP : PS X f A DA v L) (h60 : v 60 0 = 0) (hr : ∀ k i, cc_live v L k i → A k i ≠ r) (hrd : ∀ l, cl_live v L l → DA l ≠ r) (hrk : r ≠ x_k X 0) (g1 : f' r = some (.inl (11, fs'))) (g2 : fs'.length = 46) (g3 : ∀ j, fs'[j]? = if j ∈ r_sp.map Prod.fst then some (.ref (D j)) else (x_df 11)[j]?) (g4 : ∀ e ∈ r_sp, f (D e.1) = none ∧ f' (D e.1) = some (.inr (e.2.2.1, e.2.1, fun _ => .int 0))) (g5 : ∀ e ∈ r_sp, ∀ e' ∈ r_sp, D e.1 = D e'.1 → e.1 = e'.1) (g6 : ∀ b, b ≠ r → (∀ e ∈ r_sp, b ≠ D e.1) → f' b = f b) (hfr : f r ≠ none) : PS X f' (fun k i => if k = 20 ∧ i = 0 then r else if k = 21 then D i else A k i) DA (rvk v 0) L := by
  have hPC := hP.1
  obtain ⟨p1, p2, p3, p4, ⟨g0, p5⟩, p6, p7⟩ := hP.1
  have c1 : ∀ c, c < 100 → c ≠ 60 → rvk v 0 c = v c := fun c h h6 => rvk_c h h6
  have c0 : ∀ c i, 100 ≤ c → rvk v 0 c i = 0 := by
    intro c i hc
    unfold rvk
    rw [if_neg (by omega)]
    by_cases z : c = 129 ∨ c = 134 ∨ c = 142
    · rw [if_pos z, if_neg (by omega)]
    · rw [if_neg z, if_pos hc]
  have c6 : rvk v 0 60 0 = 1 := by unfold rvk; rw [if_pos ⟨rfl, rfl⟩]
  have fsE : fs' = (List.range 46).map (fun j => if r_len j = 0 then .int 0 else .ref (D j)) := by
    apply List.ext_getElem?
    intro j
    rw [g3 j, List.getElem?_map]
    by_cases z : j < 46
    · rw [List.getElem?_range z]
      by_cases y : r_len j = 0
      · rw [if_neg (fun q => (r_sp_k j z).mp q y)]
        have : ∀ j, j < 46 → r_len j = 0 → (x_df 11)[j]? = some (.int 0) := by decide
        rw [this j z y]
        simp [y]
      · rw [if_pos ((r_sp_k j z).mpr y)]
        simp [y]
    · rw [if_neg (fun q => ?_), List.getElem?_eq_none (l := x_df 11) (show (x_df 11).length ≤ j by show 46 ≤ j; omega), List.getElem?_eq_none (l := List.range 46) (by simp; omega)]
      · rfl
      · obtain ⟨e, he, ee⟩ := List.mem_map.mp q
        have := (r_sp_e e he).1
        omega
  have rD : ∀ e ∈ r_sp, D e.1 ≠ r := fun e he z => hfr (z ▸ (g4 e he).1)
  have nD : ∀ b, f b ≠ none → ∀ e ∈ r_sp, b ≠ D e.1 := fun b hb e he z => hb (z ▸ (g4 e he).1)
  have keep : ∀ b, f b ≠ none → b ≠ r → f' b = f b := fun b hb hr => g6 b hr (nD b hb)
  have hdn : ∀ l, cl_live v L l → f (DA l) ≠ none := by
    intro l q z
    obtain ⟨m, -, ⟨-, -, g, e⟩ | ⟨cap, G, e, -⟩⟩ := p2 l q
    · rw [z] at e; cases e
    · rw [z] at e; cases e
  have lk : ∀ k i, cc_live (rvk v 0) L k i → (k < 20 ∧ cc_live v L k i) ∨ (k = 20 ∧ i = 0 ∨ k = 21 ∧ 0 < r_len i) := by
    intro k i hl
    unfold cc_live at hl ⊢
    rw [c1 20 (by omega) (by omega), c1 40 (by omega) (by omega)] at hl
    split at hl
    all_goals first
      | exact Or.inl ⟨by omega, hl⟩
      | exact Or.inr (Or.inl ⟨rfl, hl.2⟩)
      | exact Or.inr (Or.inr ⟨rfl, hl.2⟩)
      | exact hl.elim
  have no20 : ∀ i, ¬ cc_live v L 20 i ∧ ¬ cc_live v L 21 i := by
    intro i
    refine ⟨fun q => ?_, fun q => ?_⟩
    · have q : v 60 0 = 1 ∧ i = 0 := q
      omega
    · have q : v 60 0 = 1 ∧ 0 < r_len i := q
      omega
  have Ao : ∀ k i, k < 20 → (if k = 20 ∧ i = 0 then r else if k = 21 then D i else A k i) = A k i := by
    intro k i hk
    rw [if_neg (by omega), if_neg (by omega)]
  have ex : ∀ i, 0 < r_len i → ∃ e ∈ r_sp, e.1 = i ∧ e.2.1 = r_len i ∧ e.2.2.1 = r_at i := by
    intro i hi
    have hj := r_len_b (j := i) (by omega)
    obtain ⟨e, he, ee⟩ := r_sp_x i hj (by omega)
    have := r_sp_e e he
    rw [ee] at this
    exact ⟨e, he, ee, this.2.2.1, this.2.2.2⟩
  refine ⟨PC.ext (f := va_up f r none) (A := A) (DA := DA) (v := v) (L := L) ?pc (fun k i => k = 20 ∧ i = 0 ∨ k = 21 ∧ 0 < r_len i) 999 (fun k i hl => ?_) (fun k i hl => ?_) (fun k i hk => ?_) (fun k i k' i' h1 h2 z => ?_) (fun b hb => ?_) ?_ (fun k i e he => ?_) (fun l hl => ?_), ?_⟩
  case pc =>
    have ne : ∀ b e, b ≠ r → f b = some e → va_up f r none b = some e := fun b e hb h => (va_up_ne _ _ hb).trans h
    refine ⟨fun k i e he => ne _ _ (hr k i (cc_cell_live he)) (p1 k i e he), fun l hl => al_same (p2 l hl) (va_up_ne _ _ (hr _ _ hl.2)) (va_up_ne _ _ (hrd l hl)), p3, p4, ⟨g0, ne _ _ (Ne.symm hrk) p5⟩, p6, fun k i hl => by rw [va_up_ne _ _ (hr k i hl)]; exact p7 k i hl⟩
  · have h20 : k < 20 := by
      rcases Nat.lt_or_ge k 20 with q | q
      · exact q
      · exfalso
        unfold cc_live at hl
        split at hl <;> first | omega | exact hl.elim
    exact Ao k i h20
  · rcases lk k i hl with ⟨-, q⟩ | q
    · exact Or.inl q
    · exact Or.inr q
  · rcases hk with ⟨rfl, rfl⟩ | ⟨rfl, hi⟩
    · simp only [and_self, if_true]
      exact ⟨va_up_self _ _ _, by rw [g1]; exact fun q => nomatch q⟩
    · obtain ⟨e, he, ee, -, -⟩ := ex i hi
      simp only [Nat.reduceEqDiff, false_and, if_false, if_true]
      rw [← ee]
      exact ⟨(va_up_ne _ _ (rD e he)).trans (g4 e he).1, by rw [(g4 e he).2]; exact fun q => nomatch q⟩
  · rcases h1 with ⟨rfl, rfl⟩ | ⟨rfl, hi⟩
    · rcases h2 with ⟨rfl, rfl⟩ | ⟨rfl, hi'⟩
      · exact ⟨rfl, rfl⟩
      · obtain ⟨e, he, ee, -, -⟩ := ex i' hi'
        simp only [Nat.reduceEqDiff, false_and, if_false, if_true, and_self] at z
        rw [← ee] at z
        exact absurd z.symm (rD e he)
    · obtain ⟨e, he, ee, -, -⟩ := ex i hi
      rcases h2 with ⟨rfl, rfl⟩ | ⟨rfl, hi'⟩
      · simp only [Nat.reduceEqDiff, false_and, if_false, if_true, and_self] at z
        rw [← ee] at z
        exact absurd z (rD e he)
      · obtain ⟨e', he', ee', -, -⟩ := ex i' hi'
        simp only [Nat.reduceEqDiff, false_and, if_false, if_true] at z
        rw [← ee, ← ee'] at z
        exact ⟨rfl, by rw [← ee, ← ee']; exact g5 e he e' he' z⟩
  · by_cases br : b = r
    · rw [br, g1]; exact fun q => nomatch q
    · rw [va_up_ne _ _ br] at hb
      rw [keep b hb br]; exact hb
  · rw [va_up_ne _ _ (Ne.symm hrk)]
    exact keep _ (by rw [p5]; exact fun q => nomatch q) (Ne.symm hrk)
  · rcases lk k i (cc_cell_live he) with ⟨h20, hl⟩ | hk
    · simp only [Ao k i h20]
      rw [keep _ (p7 k i hl) (hr k i hl)]
      refine p1 k i e ?_
      rw [← he]
      have aa : ∀ k, k < 20 → (fun i => if k = 20 ∧ i = 0 then r else if k = 21 then D i else A k i) = A k := fun k hk => funext fun i => Ao k i hk
      unfold cc_cell
      split
      · unfold cc_one
        simp only [c1 1 (by omega) (by omega), c1 0 (by omega) (by omega), c1 4 (by omega) (by omega), c1 5 (by omega) (by omega), c1 6 (by omega) (by omega), c1 2 (by omega) (by omega), c1 3 (by omega) (by omega), c1 7 (by omega) (by omega), c1 20 (by omega) (by omega), c1 40 (by omega) (by omega), Nat.reduceEqDiff, false_and, if_false]
      · simp only [c1 10 (by omega) (by omega), c1 11 (by omega) (by omega), c1 12 (by omega) (by omega), c1 13 (by omega) (by omega), c1 14 (by omega) (by omega), c1 15 (by omega) (by omega), q_t, q_k, Nat.reduceEqDiff, false_and, if_false]
      · simp only [c1 16 (by omega) (by omega), q_t, Nat.reduceEqDiff, false_and, if_false]
      · simp only [c1 17 (by omega) (by omega)]
      · simp only [c1 18 (by omega) (by omega)]
      · unfold cc_tgt
        simp only [c1 20 (by omega) (by omega), c1 21 (by omega) (by omega), c1 22 (by omega) (by omega), c1 23 (by omega) (by omega), c1 24 (by omega) (by omega), c1 25 (by omega) (by omega), c1 27 (by omega) (by omega), c1 28 (by omega) (by omega), c1 29 (by omega) (by omega), c1 30 (by omega) (by omega), c1 31 (by omega) (by omega), c1 32 (by omega) (by omega), c1 33 (by omega) (by omega), c1 34 (by omega) (by omega), c1 35 (by omega) (by omega), c1 36 (by omega) (by omega), c1 37 (by omega) (by omega), c1 38 (by omega) (by omega), c1 39 (by omega) (by omega), Nat.reduceEqDiff, false_and, if_false]
      · simp only [c1 20 (by omega) (by omega), c1 26 (by omega) (by omega)]
      · simp only [c1 40 (by omega) (by omega), c1 41 (by omega) (by omega), c1 42 (by omega) (by omega), c1 43 (by omega) (by omega), Nat.reduceEqDiff, false_and, if_false]
      · simp only [c1 50 (by omega) (by omega), c1 51 (by omega) (by omega), c1 52 (by omega) (by omega), c1 53 (by omega) (by omega), c1 54 (by omega) (by omega), c1 55 (by omega) (by omega), Nat.reduceEqDiff, false_and, if_false]
      · omega
      · omega
      · rfl
    · rcases hk with ⟨rfl, rfl⟩ | ⟨rfl, hi⟩
      · have y : cc_cell (fun k i => if k = 20 ∧ i = 0 then r else if k = 21 then D i else A k i) (rvk v 0) L 20 0 = some (.inl (11, fs')) := by
          unfold cc_cell
          simp only
          rw [if_pos ⟨c6, by trivial⟩, fsE]
          unfold r_fs
          simp only [c0 100 0 (by omega), c0 101 0 (by omega), c0 102 0 (by omega), c0 112 0 (by omega), c0 118 0 (by omega), c0 124 0 (by omega), c0 133 0 (by omega), c0 135 0 (by omega), c0 143 0 (by omega), c0 144 0 (by omega)]
          rfl
        rw [y] at he
        cases he
        simpa using g1
      · obtain ⟨e1, he1, ee, e2, e3⟩ := ex i hi
        have y : cc_cell (fun k i => if k = 20 ∧ i = 0 then r else if k = 21 then D i else A k i) (rvk v 0) L 21 i = some (.inr (r_at i, r_len i, fun _ => .int 0)) := by
          unfold cc_cell
          simp only
          rw [if_pos ⟨c6, hi⟩]
          congr 4
          funext j
          rw [c0 (100 + i) j (by omega)]
          rfl
        rw [y] at he
        cases he
        simp only [Nat.reduceEqDiff, false_and, if_false, if_true]
        rw [← ee, (g4 e1 he1).2, ee, e2, e3]
  · have hlo : cl_live v L l := by
      rcases lk _ _ hl.2 with ⟨-, q⟩ | q
      · exact ⟨hl.1, q⟩
      · have := cl_obj_k hl.1
        omega
    have h20 : (cl_obj l).1 < 20 := by have := cl_obj_k hl.1; omega
    have el20 : cl_el l < 20 := by unfold cl_el; split <;> (try split) <;> decide
    refine ⟨?_, Or.inl ⟨hlo, rfl⟩⟩
    rw [Ao _ _ h20]
    refine al_eqg (al_same (p2 l hlo) (keep _ (p7 _ _ hlo.2) (hr _ _ hlo.2)) (keep _ (hdn l hlo) (hrd l hlo))) rfl (fun j hj => (Ao _ _ el20).symm)
  · intro c i
    unfold rvk
    split
    · constructor <;> decide
    · split
      · split <;> (constructor <;> decide)
      · split
        · constructor <;> decide
        · exact hP.2 c i
end
