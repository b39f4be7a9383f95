/-! The end: a pool's instances, from the lowest on. -/
section
variable {v v' w w' : SV} {L L' : SL} {own : Int → Nat}
noncomputable def tlB (w : SV) (c : Nat) : Nat → Int
  | 0 => -1
  | n + 1 => cif (0 < w 115 (4 * c + n) ∧ (tlB w c n < 0 ∨ w 115 (4 * c + n) < w 115 (tlB w c n).toNat)) ((4 * c + n : Nat) : Int) (tlB w c n)
theorem tlB_s (w : SV) (c : Nat) : ∀ n, (tlB w c n = -1 ∧ ∀ k, k < n → ¬ 0 < w 115 (4 * c + k)) ∨ ∃ k, k < n ∧ tlB w c n = ((4 * c + k : Nat) : Int) ∧ 0 < w 115 (4 * c + k) ∧ ∀ k', k' < n → 0 < w 115 (4 * c + k') → w 115 (4 * c + k) ≤ w 115 (4 * c + k') := by
  intro n
  induction n with
  | zero => exact Or.inl ⟨rfl, fun k hk => by omega⟩
  | succ n ih =>
    rw [tlB]
    by_cases z : 0 < w 115 (4 * c + n) ∧ (tlB w c n < 0 ∨ w 115 (4 * c + n) < w 115 (tlB w c n).toNat)
    · rw [cif_t z]
      refine Or.inr ⟨n, by omega, rfl, z.1, fun k' hk' hf => ?_⟩
      by_cases e : k' = n
      · rw [e]; omega
      · rcases ih with ⟨i1, i2⟩ | ⟨k, k1, k2, k3, k4⟩
        · exact absurd hf (i2 k' (by omega))
        · have := k4 k' (by omega) hf
          rw [k2, Int.toNat_natCast] at z
          omega
    · rw [cif_f z]
      rcases ih with ⟨i1, i2⟩ | ⟨k, k1, k2, k3, k4⟩
      · refine Or.inl ⟨i1, fun k hk hf => ?_⟩
        by_cases e : k = n
        · subst e; exact z ⟨hf, Or.inl (by omega)⟩
        · exact i2 k (by omega) hf
      · refine Or.inr ⟨k, by omega, k2, k3, fun k' hk' hf => ?_⟩
        by_cases e : k' = n
        · subst e
          rcases Int.lt_or_le (w 115 (4 * c + k')) (w 115 (4 * c + k)) with y | y
          · exact absurd ⟨hf, Or.inr (by rw [k2, Int.toNat_natCast]; exact y)⟩ z
          · exact y
        · exact k4 k' (by omega) hf
theorem lowIx_min (v : SV) (t : Nat) : ∀ n j, j ≤ n → v 26 (t + 32 * lowIx v t n) ≤ v 26 (t + 32 * j) := by
  intro n
  induction n with
  | zero => intro j hj; rw [show j = 0 by omega]; exact Int.le_refl _
  | succ n ih =>
    intro j hj
    rw [lowIx]
    by_cases z : v 26 (t + 32 * (n + 1)) < v 26 (t + 32 * lowIx v t n)
    · rw [cif_t z]
      by_cases e : j = n + 1
      · rw [e]; exact Int.le_refl _
      · have := ih j (by omega); omega
    · rw [cif_f z]
      by_cases e : j = n + 1
      · rw [e]; omega
      · exact ih j (by omega)
/-- a pool without methods: its free instances are those of its cells -/
def PX (v w : SV) (c : Nat) : Prop := (0 ≤ v 24 c ∧ v 24 c ≤ 4) ∧ (∀ j : Nat, (j : Int) < v 24 c → ∃ k, k < 4 ∧ w 115 (4 * c + k) = v 26 (c + 32 * j) + 1 ∧ 0 < w 115 (4 * c + k)) ∧ (∀ k, k < 4 → 0 < w 115 (4 * c + k) → ∃ j : Nat, (j : Int) < v 24 c ∧ v 26 (c + 32 * j) + 1 = w 115 (4 * c + k)) ∧ (∀ j j' : Nat, (j : Int) < v 24 c → (j' : Int) < v 24 c → v 26 (c + 32 * j) = v 26 (c + 32 * j') → j = j') ∧ (∀ k k', k < 4 → k' < 4 → 0 < w 115 (4 * c + k) → w 115 (4 * c + k) = w 115 (4 * c + k') → k = k') ∧ ∀ k, k < 4 → 0 ≤ w 115 (4 * c + k)
theorem PX_of (h : RS own v L w) {c : Nat} (hc : v 20 c = 1) (hq : ∀ x, ¬ usd v x) : PX v w c := by
  obtain ⟨c8, p1, p2, p3, p4, p5, p6, p7, p8, p9, p10, p11⟩ := h.2.1.2.2.2.2.2.1 c hc
  refine ⟨WFt_p h.1.2.2.1 hc, fun j hj => ?_, fun k hk h0 => p8 k hk h0 (hq _), fun j j' hj hj' he => ?_, p6, p1⟩
  · obtain ⟨k, k1, k0, k2, k3, k4⟩ := p7 j hj
    exact ⟨k, k1, k2, k0⟩
  · obtain ⟨k, k1, k0, k2, k3, k4⟩ := p7 j hj
    rcases Nat.lt_trichotomy j j' with y | y | y
    · have := p9 j j' y hj' k k k1 k1 k2 (by rw [k2, he]); omega
    · exact y
    · have := p9 j' j y hj k k k1 k1 (by rw [k2, he]) k2; omega
theorem PX_step {c : Nat} (h : PX v w c) (hf : 0 < v 24 c) : ∃ k, k < 4 ∧ tlB w c 4 = ((4 * c + k : Nat) : Int) ∧ w 115 (4 * c + k) = v 26 (c + 32 * lowAt v c) + 1 ∧ PX (m_low v c) (up2 w 115 (4 * c + k) 0) c ∧ m_low v c 24 c = v 24 c - 1 := by
  obtain ⟨p1, p2, p3, p4, p5, p6⟩ := h
  have hm : lowAt v c ≤ (v 24 c).toNat - 1 := lowIx_le v c _
  have hmin : ∀ j : Nat, (j : Int) < v 24 c → v 26 (c + 32 * lowAt v c) ≤ v 26 (c + 32 * j) := fun j hj => lowIx_min v c _ j (by omega)
  have e24 : m_low v c 24 c = v 24 c - 1 := by
    unfold m_low
    rw [up2_c (by omega), up2_s]
  have e26 : ∀ j, m_low v c 26 j = if j = c + 32 * lowAt v c then v 26 (c + 32 * (v 24 c - 1).toNat) else v 26 j := by
    intro j
    unfold m_low
    by_cases y : j = c + 32 * lowAt v c
    · rw [y, up2_s, if_pos rfl]
    · rw [up2_i y, if_neg y, up2_c (by omega)]
  generalize m_low v c = V at *
  generalize lowAt v c = m at *
  obtain ⟨k, k1, k2, k3⟩ := p2 m (by omega)
  have w' : ∀ j, up2 w 115 (4 * c + k) 0 115 j = if j = 4 * c + k then 0 else w 115 j := by intro j; unfold up2; simp
  have tl : tlB w c 4 = ((4 * c + k : Nat) : Int) := by
    rcases tlB_s w c 4 with ⟨_, i2⟩ | ⟨q, q1, q2, q3, q4⟩
    · exact absurd k3 (i2 k k1)
    · have a := q4 k k1 k3
      obtain ⟨j, j1, j2⟩ := p3 q q1 q3
      have b := hmin j j1
      have : q = k := p5 q k q1 k1 q3 (by omega)
      rw [q2, this]
  refine ⟨k, k1, tl, k2, ⟨by omega, fun j hj => ?_, fun q hq h0 => ?_, fun j j' hj hj' he => ?_, fun q q' hq hq' h0 he => ?_, fun q hq => ?_⟩, e24⟩
  · rw [e24] at hj
    rw [e26]
    by_cases y : c + 32 * j = c + 32 * m
    · rw [if_pos y]
      obtain ⟨q, q1, q2, q3⟩ := p2 (v 24 c - 1).toNat (by omega)
      refine ⟨q, q1, ?_, ?_⟩
      · rw [w', if_neg]
        · exact q2
        · intro z
          rw [z, k2] at q2
          have := p4 m (v 24 c - 1).toNat (by omega) (by omega) (by omega)
          omega
      · rw [w', if_neg]
        · exact q3
        · intro z
          rw [z, k2] at q2
          have := p4 m (v 24 c - 1).toNat (by omega) (by omega) (by omega)
          omega
    · rw [if_neg y]
      obtain ⟨q, q1, q2, q3⟩ := p2 j (by omega)
      have ne : ¬ 4 * c + q = 4 * c + k := by
        intro z
        rw [z, k2] at q2
        have := p4 m j (by omega) (by omega) (by omega)
        omega
      exact ⟨q, q1, by rw [w', if_neg ne]; exact q2, by rw [w', if_neg ne]; exact q3⟩
  · rw [w'] at h0 ⊢
    by_cases y : 4 * c + q = 4 * c + k
    · rw [if_pos y] at h0; omega
    · rw [if_neg y] at h0 ⊢
      obtain ⟨j, j1, j2⟩ := p3 q hq h0
      have jm : j ≠ m := fun z => by
        rw [z] at j2
        have := p5 q k hq k1 h0 (by omega)
        omega
      by_cases yl : j = (v 24 c - 1).toNat
      · refine ⟨m, by omega, ?_⟩
        rw [e26, if_pos rfl, ← yl]
        exact j2
      · refine ⟨j, by omega, ?_⟩
        rw [e26, if_neg (by omega)]
        exact j2
  · rw [e24] at hj hj'
    rw [e26, e26] at he
    by_cases y : c + 32 * j = c + 32 * m <;> by_cases y' : c + 32 * j' = c + 32 * m
    · omega
    · rw [if_pos y, if_neg y'] at he
      have := p4 (v 24 c - 1).toNat j' (by omega) (by omega) he
      omega
    · rw [if_neg y, if_pos y'] at he
      have := p4 j (v 24 c - 1).toNat (by omega) (by omega) he
      omega
    · rw [if_neg y, if_neg y'] at he
      exact p4 j j' (by omega) (by omega) he
  · rw [w'] at h0
    rw [w', w'] at he
    by_cases y : 4 * c + q = 4 * c + k
    · rw [if_pos y] at h0; omega
    · rw [if_neg y] at h0 he
      by_cases y' : 4 * c + q' = 4 * c + k
      · rw [if_pos y'] at he; omega
      · rw [if_neg y'] at he
        exact p5 q q' hq hq' h0 he
  · rw [w']
    split
    · omega
    · exact p6 q hq
theorem PX_none {c : Nat} (h : PX v w c) (hf : v 24 c = 0) : tlB w c 4 = -1 ∧ ∀ k, k < 4 → w 115 (4 * c + k) = 0 := by
  obtain ⟨p1, p2, p3, p4, p5, p6⟩ := h
  have z : ∀ k, k < 4 → w 115 (4 * c + k) = 0 := fun k hk => by
    have := p6 k hk
    rcases Int.lt_or_le 0 (w 115 (4 * c + k)) with y | y
    · obtain ⟨j, j1, _⟩ := p3 k hk y
      omega
    · omega
  refine ⟨?_, z⟩
  rcases tlB_s w c 4 with ⟨i1, _⟩ | ⟨q, q1, q2, q3, q4⟩
  · exact i1
  · have := z q q1; omega
theorem tlB_b (w : SV) (c n : Nat) : -1 ≤ tlB w c n ∧ tlB w c n < 4 * c + n := by
  rcases tlB_s w c n with z | ⟨k, k1, k2, _⟩
  · rw [z.1]; omega
  · rw [k2]; omega
end
section
variable {X : XC} {v : SV} {L : SL}
theorem d_takeLeast {c : Nat} (h60 : v 60 0 = 1) (hc8 : c < 8) : AHolds X y_R_takeLeast [aR 20 0, aI c] v L 0 0 0 0 (fun r v' L' => r = some (aI (cif (tlB v c 4 < 0) (-1) (v 115 (tlB v c 4).toNat - 1))) ∧ v' = cif (tlB v c 4 < 0) v (up2 v 115 (tlB v c 4).toNat 0) ∧ L = L') := by
  refine a_sm fun hS => ?_
  refine a_met ok_R_takeLeast (by decide +kernel) (Nat.le_of_ble_eq_true rfl) fun go st => ?_
  have loop : ∀ (m n : Nat) (z : Int) (ls : ALc), n + m = 4 → z = 4 * (c : Int) + n → ls 0 = some (aR 20 0) → ls 1 = some (aI c) → ls 2 = some (aI (tlB v c n)) → ls 3 = some (aI z) → go 6 ls [] v L 0 0 := by
    intro m
    induction m with
    | zero =>
      intro n z ls hn hz l0 l1 l2 l3
      have e4 : n = 4 := by omega
      subst e4
      have tb := tlB_b v c 4
      refine st 6 _ _ _ _ _ _ _ rfl ?_
      repeat' first | (refine a_si ?sd ?_; case sd => (first | (first | assumption | exact hS _ _ | omega | (constructor <;> omega) | (show _ = (1 : Int) ∨ _ = (2 : Int) ∨ _ = (3 : Int); omega)) | (refine ⟨?_, ?_⟩ <;> (first | assumption | exact hS _ _ | omega | (constructor <;> omega) | (show _ = (1 : Int) ∨ _ = (2 : Int) ∨ _ = (3 : Int); omega))) | (refine ⟨?_, ?_, ?_⟩ <;> (first | assumption | exact hS _ _ | omega | (constructor <;> omega) | (show _ = (1 : Int) ∨ _ = (2 : Int) ∨ _ = (3 : Int); omega))) | (refine ⟨?_, ?_, ?_, ?_⟩ <;> (first | assumption | exact hS _ _ | omega | (constructor <;> omega) | (show _ = (1 : Int) ∨ _ = (2 : Int) ∨ _ = (3 : Int); omega))) | (refine ⟨⟨?_, ?_⟩, ?_, ?_⟩ <;> (first | assumption | exact hS _ _ | omega | (constructor <;> omega) | (show _ = (1 : Int) ∨ _ = (2 : Int) ∨ _ = (3 : Int); omega))) | decide | (simp only [r_note, up2, Int.toNat_natCast, a_live5, not_true_eq_false, not_false_eq_true, Nat.reduceEqDiff, false_and, true_and, and_true, and_false, and_self, if_true, if_false, ↓reduceIte, reduceCtorEq]; first | (first | assumption | exact hS _ _ | omega | (constructor <;> omega) | (show _ = (1 : Int) ∨ _ = (2 : Int) ∨ _ = (3 : Int); omega)) | (refine ⟨?_, ?_⟩ <;> (first | assumption | exact hS _ _ | omega | (constructor <;> omega) | (show _ = (1 : Int) ∨ _ = (2 : Int) ∨ _ = (3 : Int); omega))) | (refine ⟨?_, ?_, ?_⟩ <;> (first | assumption | exact hS _ _ | omega | (constructor <;> omega) | (show _ = (1 : Int) ∨ _ = (2 : Int) ∨ _ = (3 : Int); omega))) | (refine ⟨?_, ?_, ?_, ?_⟩ <;> (first | assumption | exact hS _ _ | omega | (constructor <;> omega) | (show _ = (1 : Int) ∨ _ = (2 : Int) ∨ _ = (3 : Int); omega))) | (refine ⟨⟨?_, ?_⟩, ?_, ?_⟩ <;> (first | assumption | exact hS _ _ | omega | (constructor <;> omega) | (show _ = (1 : Int) ∨ _ = (2 : Int) ∨ _ = (3 : Int); omega))) | decide))) | (refine And.intro ?_ ?_ <;> (intro hc; (try simp only [r_note, up2, Int.toNat_natCast, a_live5, not_true_eq_false, not_false_eq_true, Nat.reduceEqDiff, false_and, true_and, and_true, and_false, and_self, if_true, if_false, ↓reduceIte, reduceCtorEq] at hc); try (exfalso; first | assumption | omega))) | (refine x_som_i l0 ?_) | (refine x_som_i l1 ?_) | (refine x_som_i l2 ?_) | (refine x_som_i l3 ?_) | (refine x_som_i l4 ?_) | (refine x_som_i l5 ?_) | (refine x_som_i l6 ?_) | (refine x_som_i l7 ?_) | (refine x_som_i l8 ?_) | (refine x_som_i l9 ?_) | (refine a_wo ?sd ?_; case sd => (first | exact hS _ _ | assumption | (constructor <;> omega) | (simp only [r_note, up2, Int.toNat_natCast, a_live5, not_true_eq_false, not_false_eq_true, Nat.reduceEqDiff, false_and, true_and, and_true, and_false, and_self, if_true, if_false, ↓reduceIte, reduceCtorEq]; first | exact hS _ _ | assumption | (constructor <;> omega)))) | (refine st 0 _ _ _ _ _ _ _ rfl ?_) | (refine st 43 _ _ _ _ _ _ _ rfl ?_) | (refine st 45 _ _ _ _ _ _ _ rfl ?_) | (refine st 51 _ _ _ _ _ _ _ rfl ?_) | (refine st 57 _ _ _ _ _ _ _ rfl ?_)
      · exact ⟨by rw [cif_f (by omega)], by rw [cif_f (by omega)], rfl⟩
      · exact ⟨by rw [cif_t (by omega)], by rw [cif_t (by omega)], rfl⟩
    | succ m ih =>
      intro n z ls hn hz l0 l1 l2 l3
      have en : z.toNat = 4 * c + n := by omega
      have ez : z = ((4 * c + n : Nat) : Int) := by omega
      have tb := tlB_b v c n
      have ef : tlB v c (n + 1) = cif (0 < v 115 (4 * c + n) ∧ (tlB v c n < 0 ∨ v 115 (4 * c + n) < v 115 (tlB v c n).toNat)) ((4 * c + n : Nat) : Int) (tlB v c n) := rfl
      rw [← ez] at ef
      refine st 6 _ _ _ _ _ _ _ rfl ?_
      repeat' first | (refine a_si ?sd ?_; case sd => (first | (first | assumption | exact hS _ _ | omega | (constructor <;> omega) | (show _ = (1 : Int) ∨ _ = (2 : Int) ∨ _ = (3 : Int); omega)) | (refine ⟨?_, ?_⟩ <;> (first | assumption | exact hS _ _ | omega | (constructor <;> omega) | (show _ = (1 : Int) ∨ _ = (2 : Int) ∨ _ = (3 : Int); omega))) | (refine ⟨?_, ?_, ?_⟩ <;> (first | assumption | exact hS _ _ | omega | (constructor <;> omega) | (show _ = (1 : Int) ∨ _ = (2 : Int) ∨ _ = (3 : Int); omega))) | (refine ⟨?_, ?_, ?_, ?_⟩ <;> (first | assumption | exact hS _ _ | omega | (constructor <;> omega) | (show _ = (1 : Int) ∨ _ = (2 : Int) ∨ _ = (3 : Int); omega))) | (refine ⟨⟨?_, ?_⟩, ?_, ?_⟩ <;> (first | assumption | exact hS _ _ | omega | (constructor <;> omega) | (show _ = (1 : Int) ∨ _ = (2 : Int) ∨ _ = (3 : Int); omega))) | decide | (simp only [r_note, up2, Int.toNat_natCast, a_live5, not_true_eq_false, not_false_eq_true, Nat.reduceEqDiff, false_and, true_and, and_true, and_false, and_self, if_true, if_false, ↓reduceIte, reduceCtorEq]; first | (first | assumption | exact hS _ _ | omega | (constructor <;> omega) | (show _ = (1 : Int) ∨ _ = (2 : Int) ∨ _ = (3 : Int); omega)) | (refine ⟨?_, ?_⟩ <;> (first | assumption | exact hS _ _ | omega | (constructor <;> omega) | (show _ = (1 : Int) ∨ _ = (2 : Int) ∨ _ = (3 : Int); omega))) | (refine ⟨?_, ?_, ?_⟩ <;> (first | assumption | exact hS _ _ | omega | (constructor <;> omega) | (show _ = (1 : Int) ∨ _ = (2 : Int) ∨ _ = (3 : Int); omega))) | (refine ⟨?_, ?_, ?_, ?_⟩ <;> (first | assumption | exact hS _ _ | omega | (constructor <;> omega) | (show _ = (1 : Int) ∨ _ = (2 : Int) ∨ _ = (3 : Int); omega))) | (refine ⟨⟨?_, ?_⟩, ?_, ?_⟩ <;> (first | assumption | exact hS _ _ | omega | (constructor <;> omega) | (show _ = (1 : Int) ∨ _ = (2 : Int) ∨ _ = (3 : Int); omega))) | decide))) | (refine And.intro ?_ ?_ <;> (intro hc; (try simp only [r_note, up2, Int.toNat_natCast, a_live5, not_true_eq_false, not_false_eq_true, Nat.reduceEqDiff, false_and, true_and, and_true, and_false, and_self, if_true, if_false, ↓reduceIte, reduceCtorEq] at hc); try (exfalso; first | assumption | omega))) | (refine x_som_i l0 ?_) | (refine x_som_i l1 ?_) | (refine x_som_i l2 ?_) | (refine x_som_i l3 ?_) | (refine x_som_i l4 ?_) | (refine x_som_i l5 ?_) | (refine x_som_i l6 ?_) | (refine x_som_i l7 ?_) | (refine x_som_i l8 ?_) | (refine x_som_i l9 ?_) | (refine a_wo ?sd ?_; case sd => (first | exact hS _ _ | assumption | (constructor <;> omega) | (simp only [r_note, up2, Int.toNat_natCast, a_live5, not_true_eq_false, not_false_eq_true, Nat.reduceEqDiff, false_and, true_and, and_true, and_false, and_self, if_true, if_false, ↓reduceIte, reduceCtorEq]; first | exact hS _ _ | assumption | (constructor <;> omega)))) | (refine st 0 _ _ _ _ _ _ _ rfl ?_) | (refine st 43 _ _ _ _ _ _ _ rfl ?_) | (refine st 45 _ _ _ _ _ _ _ rfl ?_) | (refine st 51 _ _ _ _ _ _ _ rfl ?_) | (refine st 57 _ _ _ _ _ _ _ rfl ?_)
      all_goals rw [← en] at ef
      all_goals first
        | (rw [cif_f (show ¬ (0 < v 115 z.toNat ∧ (tlB v c n < 0 ∨ v 115 z.toNat < v 115 (tlB v c n).toNat)) by omega)] at ef; exact ih (n + 1) _ _ (by omega) (by omega) l0 l1 (by rw [ef]; exact l2) rfl)
        | (rw [cif_t (show 0 < v 115 z.toNat ∧ (tlB v c n < 0 ∨ v 115 z.toNat < v 115 (tlB v c n).toNat) by omega)] at ef; exact ih (n + 1) _ _ (by omega) (by omega) l0 l1 (by rw [ef]; rfl) rfl)
  repeat' first | (refine a_si ?sd ?_; case sd => (first | (first | assumption | exact hS _ _ | omega | (constructor <;> omega) | (show _ = (1 : Int) ∨ _ = (2 : Int) ∨ _ = (3 : Int); omega)) | (refine ⟨?_, ?_⟩ <;> (first | assumption | exact hS _ _ | omega | (constructor <;> omega) | (show _ = (1 : Int) ∨ _ = (2 : Int) ∨ _ = (3 : Int); omega))) | (refine ⟨?_, ?_, ?_⟩ <;> (first | assumption | exact hS _ _ | omega | (constructor <;> omega) | (show _ = (1 : Int) ∨ _ = (2 : Int) ∨ _ = (3 : Int); omega))) | (refine ⟨?_, ?_, ?_, ?_⟩ <;> (first | assumption | exact hS _ _ | omega | (constructor <;> omega) | (show _ = (1 : Int) ∨ _ = (2 : Int) ∨ _ = (3 : Int); omega))) | (refine ⟨⟨?_, ?_⟩, ?_, ?_⟩ <;> (first | assumption | exact hS _ _ | omega | (constructor <;> omega) | (show _ = (1 : Int) ∨ _ = (2 : Int) ∨ _ = (3 : Int); omega))) | decide | (simp only [r_note, up2, Int.toNat_natCast, a_live5, not_true_eq_false, not_false_eq_true, Nat.reduceEqDiff, false_and, true_and, and_true, and_false, and_self, if_true, if_false, ↓reduceIte, reduceCtorEq]; first | (first | assumption | exact hS _ _ | omega | (constructor <;> omega) | (show _ = (1 : Int) ∨ _ = (2 : Int) ∨ _ = (3 : Int); omega)) | (refine ⟨?_, ?_⟩ <;> (first | assumption | exact hS _ _ | omega | (constructor <;> omega) | (show _ = (1 : Int) ∨ _ = (2 : Int) ∨ _ = (3 : Int); omega))) | (refine ⟨?_, ?_, ?_⟩ <;> (first | assumption | exact hS _ _ | omega | (constructor <;> omega) | (show _ = (1 : Int) ∨ _ = (2 : Int) ∨ _ = (3 : Int); omega))) | (refine ⟨?_, ?_, ?_, ?_⟩ <;> (first | assumption | exact hS _ _ | omega | (constructor <;> omega) | (show _ = (1 : Int) ∨ _ = (2 : Int) ∨ _ = (3 : Int); omega))) | (refine ⟨⟨?_, ?_⟩, ?_, ?_⟩ <;> (first | assumption | exact hS _ _ | omega | (constructor <;> omega) | (show _ = (1 : Int) ∨ _ = (2 : Int) ∨ _ = (3 : Int); omega))) | decide))) | (refine And.intro ?_ ?_ <;> (intro hc; (try simp only [r_note, up2, Int.toNat_natCast, a_live5, not_true_eq_false, not_false_eq_true, Nat.reduceEqDiff, false_and, true_and, and_true, and_false, and_self, if_true, if_false, ↓reduceIte, reduceCtorEq] at hc); try (exfalso; first | assumption | omega))) | (refine x_som_i l0 ?_) | (refine x_som_i l1 ?_) | (refine x_som_i l2 ?_) | (refine x_som_i l3 ?_) | (refine x_som_i l4 ?_) | (refine x_som_i l5 ?_) | (refine x_som_i l6 ?_) | (refine x_som_i l7 ?_) | (refine x_som_i l8 ?_) | (refine x_som_i l9 ?_) | (refine a_wo ?sd ?_; case sd => (first | exact hS _ _ | assumption | (constructor <;> omega) | (simp only [r_note, up2, Int.toNat_natCast, a_live5, not_true_eq_false, not_false_eq_true, Nat.reduceEqDiff, false_and, true_and, and_true, and_false, and_self, if_true, if_false, ↓reduceIte, reduceCtorEq]; first | exact hS _ _ | assumption | (constructor <;> omega)))) | (refine st 0 _ _ _ _ _ _ _ rfl ?_) | (refine st 43 _ _ _ _ _ _ _ rfl ?_) | (refine st 45 _ _ _ _ _ _ _ rfl ?_) | (refine st 51 _ _ _ _ _ _ _ rfl ?_) | (refine st 57 _ _ _ _ _ _ _ rfl ?_)
  exact loop 4 0 _ _ rfl (by omega) rfl rfl rfl rfl
end
