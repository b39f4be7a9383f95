/-! The class's submit. -/
section
variable {X : XC} {f f' : XH} {A : Nat → Nat → Nat} {DA : Nat → Nat} {v w : SV} {L : SL} {own : Int → Nat}
theorem a_smN {y : Nat} {av : List AV} {fr lo mc ms : Nat} {Q : AQ} (h : (∀ c i, iS (v c i)) → AHoldsN X y av v L fr lo mc ms Q) : AHoldsN X y av v L fr lo mc ms Q := fun f A DA hP => h hP.2 f A DA hP
theorem PS_ts {a d' k t : Nat} {m b : Int} (hP : PS X f A DA v L) (hW : WF v L) (hk : (L 1).length = k) (hm : iS m) (hb : iS b) (ht : t < 100) (fa : f a = none) (ga : f' a = some (.inl (9, [.ref (A 5 t), .int (iI m), .int (iI b), .int 1, .int 0, .int (-1)]))) (hd : d' = DA 1 ∧ (∃ cap G, f d' = some (.inr (5, cap, G))) ∨ f d' = none) (hal : al_ok X f' (A 0 10) d' (k + 1) (va_up (fun j => A 11 ((L 1).getD j 0)) k a)) (fr : ∀ b, b ≠ a → b ≠ A 0 10 → b ≠ d' → f' b = f b) : PS X f' (fun q i => if q = 11 ∧ i = k then a else A q i) (fun l => if l = 1 then d' else DA l) (tsV v k t m b) (tsL L k) := by
  have hS := hP.2
  have hPC := hP.1
  obtain ⟨p1, p2, p3, p4, ⟨g0, p5⟩, p6, p7⟩ := hP.1
  have e : ∀ c, (c < 50 ∨ 55 < c) → tsV v k t m b c = v c := fun c hc => funext fun i => if_neg (by omega)
  have e2 : ∀ c i, i ≠ k → tsV v k t m b c i = v c i := fun c i hi => if_neg (by omega)
  have en : ∀ c, 50 ≤ c → c ≤ 55 → tsV v k t m b c k = tsN t m b c := fun c h1 h2 => if_pos ⟨rfl, h1, h2⟩
  have g1 : (tsL L k 1).length = k + 1 := by
    show (upL L 1 (L 1 ++ [k]) 1).length = k + 1
    rw [upL_s, List.length_append, hk]; rfl
  have gl : ∀ l, l ≠ 1 → tsL L k l = L l := fun l hl => upL_n hl
  have z10 : cc_live v L 0 10 := Nat.le_refl 10
  have hd0 : d' ≠ x_k X 0 := by
    intro z
    rcases hd with ⟨-, cap, G, e⟩ | e
    · rw [z, p5] at e; cases e
    · rw [z, p5] at e; cases e
  have nd : ∀ k i, cc_live v L k i → A k i ≠ d' := by
    intro k i q z
    rcases hd with ⟨e, -⟩ | e
    · exact (p4 1 ll1).1 k i q (z.trans e)
    · exact p7 k i q (z ▸ e)
  have na : ∀ k i, cc_live v L k i → A k i ≠ a := fun k i q z => p7 k i q (z ▸ fa)
  have hdn : ∀ l, cl_live v L l → f (DA l) ≠ none := by
    intro l q z
    obtain ⟨m, -, ⟨-, -, g, e⟩ | ⟨cap, G, e, -⟩⟩ := p2 l q
    · rw [z] at e; cases e
    · rw [z] at e; cases e
  have hfd : f' d' ≠ none := by
    obtain ⟨m, -, ⟨-, -, g, e⟩ | ⟨cap, G, e, -⟩⟩ := hal
    · rw [e]; exact fun q => nomatch q
    · rw [e]; exact fun q => nomatch q
  have hfo : f' (A 0 10) ≠ none := by
    obtain ⟨m, e, -⟩ := hal
    rw [e]; exact fun q => nomatch q
  have had : a ≠ d' := by
    intro z
    obtain ⟨m, -, ⟨-, -, g, e⟩ | ⟨cap, G, e, -⟩⟩ := hal
    · rw [← z, ga] at e; cases e
    · rw [← z, ga] at e; cases e
  have keep : ∀ q i, cc_live v L q i → ¬ (q = 0 ∧ i = 10) → f' (A q i) = f (A q i) := fun q i hl hn => fr _ (na q i hl) (fun z => hn (by have := p3 _ _ _ _ hl z10 z; exact this)) (nd q i hl)
  refine ⟨PC.ext hPC (fun q i => q = 11 ∧ i = k) 1 (fun q i hl => ?_) (fun q i hl => ?_) (fun q i hq => ?_) (fun q i q' i' h1 h2 _ => ?_) (fun b hb => ?_) ?_ (fun q i x hx => ?_) (fun l hl => ?_), ?_⟩
  · refine if_neg ?_
    rintro ⟨z1, z2⟩
    subst z1
    have hl : i < (L 1).length := hl
    omega
  · unfold cc_live at *
    rw [e 20 (by omega), e 40 (by omega), e 60 (by omega)] at hl
    split at hl
    all_goals first
      | exact Or.inl hl
      | skip
    rw [g1] at hl
    by_cases z : i = k
    · exact Or.inr ⟨rfl, z⟩
    · left
      show i < (L 1).length
      omega
  · obtain ⟨rfl, rfl⟩ := hq
    simp only [and_self, if_true]
    exact ⟨fa, by rw [ga]; exact fun q => nomatch q⟩
  · obtain ⟨rfl, rfl⟩ := h1
    obtain ⟨rfl, rfl⟩ := h2
    exact ⟨rfl, rfl⟩
  · by_cases b1 : b = a
    · exact absurd fa (b1 ▸ hb)
    · by_cases b2 : b = A 0 10
      · rw [b2]; exact hfo
      · by_cases b3 : b = d'
        · rw [b3]; exact hfd
        · rw [fr b b1 b2 b3]; exact hb
  · exact fr _ (fun z => by rw [z, fa] at p5; cases p5) (fun z => p6 0 10 z10 z.symm) (Ne.symm hd0)
  · by_cases z : q = 11 ∧ i = k
    · obtain ⟨rfl, rfl⟩ := z
      have y : cc_cell (fun q i' => if q = 11 ∧ i' = i then a else A q i') (tsV v i t m b) (tsL L i) 11 i = some (.inl (9, [.ref (A 5 t), .int (iI m), .int (iI b), .int 1, .int 0, .int (-1)])) := by
        unfold cc_cell
        simp only
        rw [if_pos (by omega), en 50 (by omega) (by omega), en 51 (by omega) (by omega), en 52 (by omega) (by omega), en 53 (by omega) (by omega), en 54 (by omega) (by omega), en 55 (by omega) (by omega)]
        simp [tsN]
        (repeat' apply And.intro) <;> rfl
      rw [y] at hx
      cases hx
      simpa using ga
    · have ec : cc_cell (fun q i => if q = 11 ∧ i = k then a else A q i) (tsV v k t m b) (tsL L k) q i = cc_cell A v L q i := by
        unfold cc_cell
        split
        · unfold cc_one
          rw [e 1 (by omega), e 0 (by omega), e 4 (by omega), e 5 (by omega), e 6 (by omega), e 2 (by omega), e 3 (by omega), e 7 (by omega), e 20 (by omega), e 40 (by omega)]
          simp only [Nat.reduceEqDiff, false_and, if_false]
        · rw [e 10 (by omega), e 11 (by omega), e 12 (by omega), e 13 (by omega), e 14 (by omega), e 15 (by omega)]
          split
          · rename_i h8
            have q15 := (hW.1 i h8).2.1
            unfold q_t q_k
            simp only [Nat.reduceEqDiff, false_and, if_false, true_and]
            by_cases y : v 15 i < 0
            · rw [if_pos y, if_pos y]
            · rw [if_neg (show ¬ (v 15 i).toNat = k by omega)]
          · rfl
        · rw [e 16 (by omega)]
          unfold q_t
          simp only [Nat.reduceEqDiff, false_and, if_false]
        · rw [e 17 (by omega)]
        · rw [e 18 (by omega)]
        · unfold cc_tgt
          rw [e 20 (by omega), e 21 (by omega), e 22 (by omega), e 23 (by omega), e 24 (by omega), e 25 (by omega), e 27 (by omega), e 28 (by omega), e 29 (by omega), e 30 (by omega), e 31 (by omega), e 32 (by omega), e 33 (by omega), e 34 (by omega), e 35 (by omega), e 36 (by omega), e 37 (by omega), e 38 (by omega), e 39 (by omega)]
          simp only [Nat.reduceEqDiff, false_and, if_false]
        · rw [e 20 (by omega), e 26 (by omega)]
        · rw [e 40 (by omega), e 41 (by omega), e 42 (by omega), e 43 (by omega)]
          simp only [Nat.reduceEqDiff, false_and, if_false]
        · have ik : i ≠ k := fun y => z ⟨rfl, y⟩
          rw [g1, e2 50 i ik, e2 51 i ik, e2 52 i ik, e2 53 i ik, e2 54 i ik, e2 55 i ik]
          by_cases y : i < k
          · rw [if_pos (by omega), if_pos (by omega)]
            simp only [Nat.reduceEqDiff, false_and, if_false]
          · rw [if_neg (by omega), if_neg (by omega)]
        · rw [e 60 (by omega)]
          unfold r_fs
          rw [e 100 (by omega), e 101 (by omega), e 102 (by omega), e 112 (by omega), e 118 (by omega), e 124 (by omega), e 133 (by omega), e 135 (by omega), e 143 (by omega), e 144 (by omega)]
          simp only [Nat.reduceEqDiff, false_and, if_false]
        · rw [e 60 (by omega), e (100 + i) (by omega)]
        · rfl
      rw [ec] at hx
      have hl := cc_cell_live hx
      simp only [z, if_false]
      rw [keep q i hl ?_]
      · exact p1 q i x hx
      · rintro ⟨rfl, rfl⟩
        cases hx
  · have hlo : cl_live v L l := by
      refine ⟨hl.1, ?_⟩
      have h2 := hl.2
      have h3 := cl_obj_k hl.1
      unfold cc_live at *
      rw [e 20 (by omega), e 40 (by omega), e 60 (by omega)] at h2
      split at h2
      all_goals first
        | exact h2
        | (exfalso; omega)
    have ol : (if (cl_obj l).1 = 11 ∧ (cl_obj l).2 = k then a else A (cl_obj l).1 (cl_obj l).2) = A (cl_obj l).1 (cl_obj l).2 := if_neg (by have := cl_obj_k hl.1; omega)
    by_cases z : l = 1
    · subst z
      refine ⟨?_, ?_⟩
      · rw [g1]
        simp only [if_true]
        refine al_eqg (g := va_up (fun j => A 11 ((L 1).getD j 0)) k a) ?_ rfl (fun j hj => ?_)
        · have : al_ok X f' (A 0 10) d' (k + 1) (va_up (fun j => A 11 ((L 1).getD j 0)) k a) := hal
          exact this
        · show _ = if (11 : Nat) = 11 ∧ (tsL L k 1).getD j 0 = k then a else A 11 ((tsL L k 1).getD j 0)
          have et : tsL L k 1 = L 1 ++ [k] := upL_s
          rw [et, List.getD_eq_getElem?_getD]
          by_cases y : j = k
          · subst y
            rw [va_up_self, List.getElem?_append_right (by omega), hk]
            simp
          · have hj2 : j < (L 1).length := by omega
            rw [va_up_ne _ _ y, List.getElem?_append_left hj2, ← List.getD_eq_getElem?_getD]
            have q := (hW.2.2.2.2.2.1.2 j hj2).1
            rw [q, if_neg (by omega)]
      · rcases hd with ⟨y, -⟩ | y
        · exact Or.inl ⟨hlo, by simp only [if_true]; exact y⟩
        · refine Or.inr (Or.inr ⟨rfl, by simp only [if_true]; exact y, fun q i hq => ?_⟩)
          obtain ⟨rfl, rfl⟩ := hq
          simp only [and_self, if_true]
          exact had
    · have en1 : ¬ ((cl_obj l).1 = 0 ∧ (cl_obj l).2 = 10) := by
        rintro ⟨y1, y2⟩
        exact z (cl_obj_inj hl.1 (Or.inr (Or.inl rfl)) (Prod.ext y1 y2))
      have dn : DA l ≠ d' := by
        intro y
        rcases hd with ⟨x, -⟩ | x
        · exact hd0 (x.trans ((p4 1 ll1).2 l hlo z (y.trans x)))
        · exact hdn l hlo (y ▸ x)
      refine ⟨?_, Or.inl ⟨hlo, if_neg z⟩⟩
      rw [ol, gl l z]
      simp only [if_neg z]
      refine al_eqg (al_same (p2 l hlo) (keep _ _ hlo.2 en1) (fr _ (fun y => hdn l hlo (y ▸ fa)) (fun y => (p4 l hlo).1 0 10 z10 y.symm) dn)) rfl (fun j hj => ?_)
      refine (if_neg ?_).symm
      rintro ⟨y, -⟩
      have : cl_el l ≠ 11 := by
        unfold cl_el
        rw [if_neg z]
        split <;> decide
      exact this y
  · intro c i
    by_cases z : i = k ∧ 50 ≤ c ∧ c ≤ 55
    · obtain ⟨rfl, z1, z2⟩ := z
      rw [en c z1 z2]
      unfold tsN
      repeat' split
      all_goals first
        | exact hm
        | exact hb
        | (constructor <;> omega)
    · have : tsV v k t m b c i = v c i := if_neg z
      rw [this]
      exact hS c i
end
