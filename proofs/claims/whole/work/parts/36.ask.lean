/-! What the reference asks, and what the class's values say of it. -/
section
variable {v v' w w' : SV} {L L' : SL} {own : Int → Nat}
-- methods
def row1 (w : SV) (t : Nat) (l : Int) (c k : Nat) : Int := if (k : Int) < w 125 c ∧ w 126 (4 * c + k) = t ∧ l ≤ w 128 (4 * c + k) then 1 else 0
def rowN (w : SV) (t : Nat) (l : Int) (c : Nat) : Int := sm 4 (row1 w t l c)
theorem row_e (h : RA own v L w) {c k : Nat} (hc : c < 8) (hk : k < 4) (t : Nat) (l : Int) : row1 w t l c k = mt1 v t l (c + 8 * k) := by
  obtain ⟨p1, p2, _⟩ := h.2.2.2.2.2.2.2.1.1 c hc
  unfold row1 mt1
  have e1 : (c + 8 * k) % 8 = c := by omega
  have e2 : (c + 8 * k) / 8 = k := by omega
  rw [e1, e2, p1]
  by_cases z : (k : Int) < v 10 c
  · obtain ⟨_, q2, _, q4, _⟩ := p2 k hk z
    rw [q2, q4]
  · rw [if_neg (fun y => z y.1), if_neg (fun y => z y.1)]
theorem all_e (h : RA own v L w) (t : Nat) (l : Int) : sm 8 (rowN w t l) = mts v t l := by
  unfold mts
  have e : ∀ c, c < 8 → rowN w t l c = mt1 v t l c + mt1 v t l (c + 8) + mt1 v t l (c + 16) + mt1 v t l (c + 24) := by
    intro c hc
    unfold rowN
    simp only [sm, row_e h hc (show 0 < 4 by omega), row_e h hc (show 1 < 4 by omega), row_e h hc (show 2 < 4 by omega), row_e h hc (show 3 < 4 by omega)]
    simp
  rw [sm_eq 8 e]
  simp only [sm]
  simp only [Nat.zero_add, Nat.reduceAdd]
  omega
theorem row_m (h : RA own v L w) (hW : WF v L) {c : Nat} (hc : c < 8) (t : Nat) : 0 < rowN w t 0 c ↔ hasM v c t := by
  have hr := (hW.1 c hc).1.1
  obtain ⟨p1, p2, _⟩ := h.2.2.2.2.2.2.2.1.1 c hc
  have nn : ∀ k, k < 4 → 0 ≤ row1 w t 0 c k := fun k _ => by unfold row1; split <;> omega
  constructor
  · intro h1
    rcases Classical.em (hasM v c t) with z | z
    · exact z
    · exfalso
      have : rowN w t 0 c = 0 := by
        unfold rowN
        rw [sm_eq (g := fun _ => 0) 4 (fun k hk => ?_)]
        · rfl
        · rw [row_e h hc hk]
          unfold mt1
          refine if_neg (fun y => z ⟨k, ?_, y.2.1⟩)
          have := y.1
          rw [show (c + 8 * k) / 8 = k by omega, show (c + 8 * k) % 8 = c by omega] at this
          exact this
      omega
  · rintro ⟨j, j1, j2⟩
    have j4 : j < 4 := by omega
    have h1 := sm_le (f := row1 w t 0 c) (a := j) 4 nn j4
    have : row1 w t 0 c j = 1 := by
      rw [row_e h hc j4]
      unfold mt1
      rw [show (c + 8 * j) / 8 = j by omega, show (c + 8 * j) % 8 = c by omega]
      exact if_pos ⟨j1, j2, (p2 j j4 j1).2.2.2.2.1⟩
    unfold rowN
    omega
theorem row_w (h : RA own v L w) (hW : WF v L) {c : Nat} (hc : c < 8) {t : Nat} (ht : v 22 t = 2) : 0 < rowN w t 1 c ↔ hasW v c t := by
  have hr := (hW.1 c hc).1.1
  obtain ⟨p1, p2, _⟩ := h.2.2.2.2.2.2.2.1.1 c hc
  have nn : ∀ k, k < 4 → 0 ≤ row1 w t 1 c k := fun k _ => by unfold row1; split <;> omega
  constructor
  · intro h1
    rcases Classical.em (hasW v c t) with z | z
    · exact z
    · exfalso
      have : rowN w t 1 c = 0 := by
        unfold rowN
        rw [sm_eq (g := fun _ => 0) 4 (fun k hk => ?_)]
        · rfl
        · rw [row_e h hc hk]
          unfold mt1
          rw [show (c + 8 * k) / 8 = k by omega, show (c + 8 * k) % 8 = c by omega]
          refine if_neg (fun y => z ⟨k, y.1, y.2.1, ?_⟩)
          have := (p2 k hk y.1).2.2.2.2.2
          rw [y.2.1, Int.toNat_natCast, ht] at this
          omega
      omega
  · rintro ⟨j, j1, j2, j3⟩
    have j4 : j < 4 := by omega
    have h1 := sm_le (f := row1 w t 1 c) (a := j) 4 nn j4
    have : row1 w t 1 c j = 1 := by
      rw [row_e h hc j4]
      unfold mt1
      rw [show (c + 8 * j) / 8 = j by omega, show (c + 8 * j) % 8 = c by omega]
      exact if_pos ⟨j1, j2, by omega⟩
    unfold rowN
    omega
def r_used (w : SV) (x : Int) : Prop := ∃ c k : Nat, c < 8 ∧ k < 4 ∧ (k : Int) < w 125 c ∧ w 127 (4 * c + k) = x
theorem used_e (h : RA own v L w) (hW : WF v L) (x : Int) : r_used w x ↔ usd v x := by
  constructor
  · rintro ⟨c, k, hc, hk, h1, h2⟩
    obtain ⟨p1, p2, _⟩ := h.2.2.2.2.2.2.2.1.1 c hc
    rw [p1] at h1
    refine ⟨c + 8 * k, ⟨by omega, ?_⟩, ?_⟩
    · rw [show (c + 8 * k) / 8 = k by omega, show (c + 8 * k) % 8 = c by omega]
      exact h1
    · rw [← (p2 k hk h1).2.2.1]; exact h2
  · rintro ⟨k, ⟨h1, h2⟩, h3⟩
    obtain ⟨p1, p2, _⟩ := h.2.2.2.2.2.2.2.1.1 (k % 8) (by omega)
    have e : k % 8 + 8 * (k / 8) = k := by omega
    have hk4 : k / 8 < 4 := by omega
    refine ⟨k % 8, k / 8, by omega, hk4, by rw [p1]; exact h2, ?_⟩
    rw [(p2 (k / 8) hk4 h2).2.2.1, e]
    exact h3
-- the free cell of a pool
noncomputable def fcB (w : SV) (c : Nat) : Nat → Int
  | 0 => -1
  | n + 1 => cif (0 < w 115 (4 * c + n) ∧ ¬ r_used w (w 115 (4 * c + n) - 1) ∧ (fcB w c n < 0 ∨ w 116 (fcB w c n).toNat < w 116 (4 * c + n))) ((4 * c + n : Nat) : Int) (fcB w c n)
theorem fcB_s (w : SV) (c : Nat) : ∀ n, (fcB w c n = -1 ∧ ∀ k, k < n → ¬ (0 < w 115 (4 * c + k) ∧ ¬ r_used w (w 115 (4 * c + k) - 1))) ∨ ∃ k, k < n ∧ fcB w c n = ((4 * c + k : Nat) : Int) ∧ (0 < w 115 (4 * c + k) ∧ ¬ r_used w (w 115 (4 * c + k) - 1)) ∧ ∀ k', k' < n → (0 < w 115 (4 * c + k') ∧ ¬ r_used w (w 115 (4 * c + k') - 1)) → w 116 (4 * c + k') ≤ w 116 (4 * c + k) := by
  intro n
  induction n with
  | zero => exact Or.inl ⟨rfl, fun k hk => by omega⟩
  | succ n ih =>
    rw [fcB]
    by_cases z : 0 < w 115 (4 * c + n) ∧ ¬ r_used w (w 115 (4 * c + n) - 1) ∧ (fcB w c n < 0 ∨ w 116 (fcB w c n).toNat < w 116 (4 * c + n))
    · rw [cif_t z]
      refine Or.inr ⟨n, by omega, rfl, ⟨z.1, z.2.1⟩, fun k' hk' hf => ?_⟩
      by_cases e : k' = n
      · rw [e]; omega
      · rcases ih with ⟨i1, i2⟩ | ⟨k, k1, k2, k3, k4⟩
        · exact absurd hf (i2 k' (by omega))
        · have := k4 k' (by omega) hf
          rw [k2, Int.toNat_natCast] at z
          omega
    · rw [cif_f z]
      rcases ih with ⟨i1, i2⟩ | ⟨k, k1, k2, k3, k4⟩
      · refine Or.inl ⟨i1, fun k hk hf => ?_⟩
        by_cases e : k = n
        · subst e; exact z ⟨hf.1, hf.2, Or.inl (by omega)⟩
        · exact i2 k (by omega) hf
      · refine Or.inr ⟨k, by omega, k2, k3, fun k' hk' hf => ?_⟩
        by_cases e : k' = n
        · subst e
          rcases Int.lt_or_le (w 116 (4 * c + k)) (w 116 (4 * c + k')) with y | y
          · exact absurd ⟨hf.1, hf.2, Or.inr (by rw [k2, Int.toNat_natCast]; exact y)⟩ z
          · exact y
        · exact k4 k' (by omega) hf
theorem fc_none (hW : WF v L) (h : RA own v L w) {t : Nat} (ht : v 20 t = 1) (hf : v 24 t = 0) : fcB w t 4 = -1 := by
  obtain ⟨t8, p1, p2, p3, p4, p5, p6, p7, p8, p9, p10, p11⟩ := h.2.2.2.2.2.1 t ht
  rcases fcB_s w t 4 with z | ⟨k, k1, k2, k3, k4⟩
  · exact z.1
  · rw [used_e h hW] at k3
    obtain ⟨j, j1, _⟩ := p8 k k1 k3.1 k3.2
    omega
theorem fc_some (hW : WF v L) (h : RA own v L w) {t : Nat} (ht : v 20 t = 1) (hf : 0 < v 24 t) : 0 ≤ fcB w t 4 ∧ w 115 (fcB w t 4).toNat - 1 = v 26 (t + 32 * (v 24 t - 1).toNat) ∧ (fcB w t 4).toNat < 4 * t + 4 := by
  obtain ⟨t8, p1, p2, p3, p4, p5, p6, p7, p8, p9, p10, p11⟩ := h.2.2.2.2.2.1 t ht
  obtain ⟨q, q1, q0, q2, q3, q4⟩ := p7 (v 24 t - 1).toNat (by omega)
  have qf : 0 < w 115 (4 * t + q) ∧ ¬ r_used w (w 115 (4 * t + q) - 1) := ⟨q0, by rw [used_e h hW, q2, show v 26 (t + 32 * (v 24 t - 1).toNat) + 1 - 1 = v 26 (t + 32 * (v 24 t - 1).toNat) by omega]; exact q4⟩
  rcases fcB_s w t 4 with z | ⟨k, k1, k2, k3, k4⟩
  · exact absurd qf (z.2 q q1)
  · have h1 := k4 q q1 qf
    have k3' := k3.2
    rw [used_e h hW] at k3'
    obtain ⟨j, j1, j2⟩ := p8 k k1 k3.1 k3'
    rw [k2, Int.toNat_natCast]
    by_cases e : j = (v 24 t - 1).toNat
    · rw [e] at j2
      exact ⟨by omega, by omega, by omega⟩
    · have := p9 j (v 24 t - 1).toNat (by omega) (by omega) k q k1 q1 j2.symm q2
      omega
/-- the first empty cell of a pool, looked for from above: n cells looked at -/
noncomputable def zcB (w : SV) (c : Nat) : Nat → Nat
  | 0 => 4 * c
  | n + 1 => cif (w 115 (4 * c + 3 - n) = 0) (4 * c + 3 - n) (zcB w c n)
theorem zcB_s (w : SV) (c : Nat) : ∀ n, n ≤ 4 → (∃ k, 4 - n ≤ k ∧ k < 4 ∧ w 115 (4 * c + k) = 0) → ∃ k, k < 4 ∧ zcB w c n = 4 * c + k ∧ w 115 (4 * c + k) = 0 := by
  intro n
  induction n with
  | zero => rintro _ ⟨k, h1, h2, _⟩; omega
  | succ n ih =>
    rintro hn ⟨k, h1, h2, h3⟩
    rw [zcB]
    have e : 4 * c + 3 - n = 4 * c + (3 - n) := by omega
    rw [e]
    by_cases z : w 115 (4 * c + (3 - n)) = 0
    · rw [cif_t z]
      exact ⟨3 - n, by omega, rfl, z⟩
    · rw [cif_f z]
      refine ih (by omega) ⟨k, ?_, h2, h3⟩
      by_cases y : k = 3 - n
      · subst y; exact absurd h3 z
      · omega
def pooled (w : SV) (c : Nat) : Int := sm 4 (fun k => if 0 < w 115 (4 * c + k) then 1 else 0)
theorem pooled_e (h : RA own v L w) {t : Nat} (ht : v 20 t = 1) : pooled w t = v 25 t := ((h.2.2.2.2.2.1 t ht).2.2.1).symm
theorem zc_e (h : RA own v L w) {t : Nat} (ht : v 20 t = 1) (h25 : v 25 t < v 23 t) : ∃ k, k < 4 ∧ zcB w t 4 = 4 * t + k ∧ w 115 (4 * t + k) = 0 := by
  obtain ⟨t8, p1, p2, p3, _⟩ := h.2.2.2.2.2.1 t ht
  have s23 : v 23 t ≤ 4 := by
    rcases h.2.1 t t8 with ⟨_, z | z | z, _⟩ | z
    · exact z.2.2.2.2.2.2.2.2
    · have := z.1; omega
    · have := z.1; omega
    · have := z.2.1; omega
  refine zcB_s w t 4 (Nat.le_refl 4) ?_
  rcases Classical.em (∃ k, 4 - 4 ≤ k ∧ k < 4 ∧ w 115 (4 * t + k) = 0) with z | z
  · exact z
  · exfalso
    have nz : ∀ k, k < 4 → 0 < w 115 (4 * t + k) := by
      intro k hk
      have := p1 k hk
      rcases Int.lt_or_le 0 (w 115 (4 * t + k)) with y | y
      · exact y
      · exact absurd ⟨k, by omega, hk, by omega⟩ z
    simp only [sm] at p2
    rw [if_pos (nz 0 (by omega)), if_pos (nz 1 (by omega)), if_pos (nz 2 (by omega)), if_pos (nz 3 (by omega))] at p2
    omega
-- the first of a line
noncomputable def fiB (w : SV) (t : Nat) : Nat → Int
  | 0 => -1
  | n + 1 => cif (w 129 n = t ∧ (fiB w t n < 0 ∨ w 132 n < w 132 (fiB w t n).toNat)) (n : Int) (fiB w t n)
theorem fiB_s (w : SV) (t : Nat) : ∀ n, (fiB w t n = -1 ∧ ∀ k, k < n → ¬ w 129 k = t) ∨ ∃ k, k < n ∧ fiB w t n = (k : Int) ∧ w 129 k = t ∧ ∀ k', k' < n → w 129 k' = t → w 132 k ≤ w 132 k' := by
  intro n
  induction n with
  | zero => exact Or.inl ⟨rfl, fun k hk => by omega⟩
  | succ n ih =>
    rw [fiB]
    by_cases z : w 129 n = t ∧ (fiB w t n < 0 ∨ w 132 n < w 132 (fiB w t n).toNat)
    · rw [cif_t z]
      refine Or.inr ⟨n, by omega, rfl, z.1, fun k' hk' hf => ?_⟩
      by_cases e : k' = n
      · rw [e]; omega
      · rcases ih with ⟨i1, i2⟩ | ⟨k, k1, k2, k3, k4⟩
        · exact absurd hf (i2 k' (by omega))
        · have := k4 k' (by omega) hf
          rw [k2, Int.toNat_natCast] at z
          omega
    · rw [cif_f z]
      rcases ih with ⟨i1, i2⟩ | ⟨k, k1, k2, k3, k4⟩
      · refine Or.inl ⟨i1, fun k hk hf => ?_⟩
        by_cases e : k = n
        · subst e; exact z ⟨hf, Or.inl (by omega)⟩
        · exact i2 k (by omega) hf
      · refine Or.inr ⟨k, by omega, k2, k3, fun k' hk' hf => ?_⟩
        by_cases e : k' = n
        · subst e
          rcases Int.lt_or_le (w 132 k') (w 132 k) with y | y
          · exact absurd ⟨hf, Or.inr (by rw [k2, Int.toNat_natCast]; exact y)⟩ z
          · exact y
        · exact k4 k' (by omega) hf
theorem fi_e (hW : WF v L) (h : RA own v L w) {t : Nat} (ht : a_live5 v t) : fiB w t 8 = if (L (100 + t)).length = 0 then -1 else (fC L t : Int) := by
  obtain ⟨hc1, hc2⟩ := h.2.2.2.2.2.2.2.1
  obtain ⟨n1, n2⟩ := hW.2.1 t ht
  have e129 : ∀ k, k < 8 → w 129 k = v 11 k := fun k hk => (hc1 k hk).2.2.1
  rcases fiB_s w t 8 with ⟨z1, z2⟩ | ⟨k, k1, k2, k3, k4⟩
  · rw [z1, if_pos]
    rcases Nat.eq_zero_or_pos (L (100 + t)).length with y | y
    · exact y
    · exfalso
      have hm := (n2 _).mp (hd_mem (l := L (100 + t)) (by omega))
      exact z2 _ hm.1 (by rw [e129 _ hm.1]; exact hm.2)
  · rw [e129 k k1] at k3
    have km := (n2 k).mpr ⟨k1, k3⟩
    have hne : ¬ (L (100 + t)).length = 0 := fun y => by
      rw [List.length_eq_zero_iff] at y
      rw [y] at km
      simp at km
    rw [if_neg hne, k2]
    have hp := hc2 t ht
    unfold fC
    cases hl : L (100 + t) with
    | nil => rw [hl] at hne; exact absurd rfl hne
    | cons a l =>
      rw [hl] at km hp
      have am := (n2 a).mp (by rw [hl]; simp)
      show (k : Int) = (a : Nat)
      rcases List.mem_cons.mp km with y | y
      · rw [y]
      · have h1 := (List.pairwise_cons.mp hp).1 k y
        have h2 := k4 a am.1 (by rw [e129 a am.1]; exact am.2)
        omega
end
