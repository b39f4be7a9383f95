/-! Results, lines, calls: the relation is kept. -/
section
variable {v v' w w' : SV} {L L' : SL} {own : Int → Nat}
theorem Rd_c (h : Rd v w) (e : ∀ c, c ∈ ([3, 4, 5] : List Nat) → v' c = v c) (f : ∀ c, c ∈ ([124, 133] : List Nat) → w' c = w c) : Rd v' w' := by
  unfold Rd at *
  rw [e 3 (by simp), e 4 (by simp), e 5 (by simp), f 124 (by simp), f 133 (by simp)]
  exact h
theorem RS_gets (h : RS own v L w) {i : Nat} (hi : i < 8) (hl : v 11 i < 0) {r : Int} (hr : -1 ≤ r ∧ r ≤ 20) : RS own (m_gets v i r) L (r_give w i r) ∧ pot (m_gets v i r) L (r_give w i r) ≤ pot v L w := by
  have e : ∀ c, (c ≠ 14 ∧ c ≠ 15 ∧ c ≠ 53 ∧ c ≠ 55) → m_gets v i r c = v c := fun c hc => m_gets_f hc
  have f : ∀ c, (c ≠ 134 ∧ c ≠ 136 ∧ c ≠ 139 ∧ c ≠ 142) → r_give w i r c = w c := fun c hc => r_give_c hc
  obtain ⟨hW, hA, hR, hD⟩ := h
  refine ⟨⟨WF_gets hW hi hl r, RA_gets hA hi r hr, (Rl_c hR (fun c hc => e c (by simp only [List.mem_cons, List.not_mem_nil, or_false] at hc; omega)) (fun c hc => f c (by simp only [List.mem_cons, List.not_mem_nil, or_false] at hc; omega))), Rd_c hD (fun c hc => e c (by simp only [List.mem_cons, List.not_mem_nil, or_false] at hc; omega)) (fun c hc => f c (by simp only [List.mem_cons, List.not_mem_nil, or_false] at hc; omega))⟩, ?_⟩
  unfold pot
  rw [f 133 (by omega), e 4 (by omega), pt1_f (e 20 (by omega)) (e 25 (by omega)) (e 29 (by omega)) (e 30 (by omega)) (e 31 (by omega)) (e 36 (by omega)), pt2_f (e 11 (by omega))]
  by_cases c1 : v 15 i < 0 ∨ v 10 i ≠ 0
  · rw [pt3_f (v := v) (by rw [m_gets, if_pos c1]; exact funext fun j => up2_c (by omega))]
    exact Int.le_refl _
  · have a53 : ∀ k, m_gets v i r 53 k = if k = (v 15 i).toNat then 4 else v 53 k := by
      intro k
      rw [m_gets, if_neg c1]; unfold up2; simp
    have hk := (hW.1 i hi).2.1
    have l24 := hW.2.2.2.2.2.1.1
    rw [sm_up (f := pt3 v (L 1).length) (g := pt3 (m_gets v i r) (L 1).length) (a := (v 15 i).toNat) 24 (by omega) (fun k _ hk => by unfold pt3; rw [a53, if_neg hk])]
    have a1 : pt3 (m_gets v i r) (L 1).length (v 15 i).toNat = 0 := by
      unfold pt3
      rw [a53, if_pos rfl, if_neg (by omega)]
    have a2 : 0 ≤ pt3 v (L 1).length (v 15 i).toNat := by unfold pt3; split <;> omega
    omega
theorem RS_lv (h : RS own v L w) {i : Nat} (hi : i < 8) (hl : 0 ≤ v 11 i) : RS own (lvV v i) (lvL v L i) (r_lv w i) ∧ pot (lvV v i) (lvL v L i) (r_lv w i) = pot v L w - 3 := by
  have e : ∀ c, c ≠ 11 → lvV v i c = v c := fun c hc => funext fun j => up2_c hc
  have f : ∀ c, c ≠ 129 → r_lv w i c = w c := fun c hc => funext fun j => up2_c hc
  obtain ⟨hW, hA, hR, hD⟩ := h
  have z1 := ((hW.1 i hi).2.2.1 hl).1
  refine ⟨⟨WF_leave hW hi hl, RA_leave hW hA hi hl, (Rl_c hR (fun c hc => e c (by simp only [List.mem_cons, List.not_mem_nil, or_false] at hc; omega)) (fun c hc => f c (by simp only [List.mem_cons, List.not_mem_nil, or_false] at hc; omega))), Rd_c hD (fun c hc => e c (by simp only [List.mem_cons, List.not_mem_nil, or_false] at hc; omega)) (fun c hc => f c (by simp only [List.mem_cons, List.not_mem_nil, or_false] at hc; omega))⟩, ?_⟩
  unfold pot
  rw [f 133 (by omega), e 4 (by omega), pt1_f (e 20 (by omega)) (e 25 (by omega)) (e 29 (by omega)) (e 30 (by omega)) (e 31 (by omega)) (e 36 (by omega)), pt3_f (e 53 (by omega)), lvL_n (by omega) z1]
  have a11 : ∀ j, lvV v i 11 j = if j = i then -1 else v 11 j := by intro j; unfold lvV up2; simp only [true_and]
  rw [sm_up (f := pt2 v) (g := pt2 (lvV v i)) (a := i) 8 hi (fun k _ hk => by unfold pt2; rw [a11, if_neg hk])]
  have a1 : pt2 (lvV v i) i = 0 := by unfold pt2; rw [a11, if_pos rfl, if_neg (by omega)]
  have a2 : pt2 v i = 3 := by unfold pt2; rw [if_pos hl]
  omega
theorem RS_join (h : RS own v L w) {i t : Nat} (hi : i < 8) (hl : v 11 i < 0) (hd : v 10 i < 4) (hwk : 6 ≤ i → 0 ≤ v 15 i) (ht : a_live5 v t) (hno : ¬ v 20 t = 1 → ¬ hasM v i t) (hbg : v 20 t = 2 → w 109 t = 1) {m : Int} (hm : 0 ≤ m ∧ m < v 22 t) : RS own (jnV v i t m) (jnL L i t) (r_jn w i t m) ∧ pot (jnV v i t m) (jnL L i t) (r_jn w i t m) = pot v L w + 4 := by
  have e : ∀ c, (c ≠ 11 ∧ c ≠ 12 ∧ c ≠ 13) → jnV v i t m c = v c := fun c hc => funext fun j => jnV_c hc
  have f : ∀ c, (c ≠ 129 ∧ c ≠ 130 ∧ c ≠ 131 ∧ c ≠ 132 ∧ c ≠ 133) → r_jn w i t m c = w c := fun c hc => r_jn_c hc
  have b5 : r_jn w i t m 133 0 = w 133 0 + 1 := by unfold r_jn up2; simp
  obtain ⟨hW, hA, hR, hD⟩ := h
  refine ⟨⟨WF_join hW hi ht hl hd hwk m, RA_join hW hA hi hl ht hno hbg hm, (Rl_c hR (fun c hc => e c (by simp only [List.mem_cons, List.not_mem_nil, or_false] at hc; omega)) (fun c hc => f c (by simp only [List.mem_cons, List.not_mem_nil, or_false] at hc; omega))), ?_⟩, ?_⟩
  · unfold Rd at *
    rw [e 3 (by omega), e 4 (by omega), e 5 (by omega), f 124 (by omega), b5]
    omega
  · unfold pot
    rw [b5, e 4 (by omega), pt1_f (e 20 (by omega)) (e 25 (by omega)) (e 29 (by omega)) (e 30 (by omega)) (e 31 (by omega)) (e 36 (by omega)), pt3_f (e 53 (by omega)), show jnL L i t 1 = L 1 from upL_n (by omega)]
    have a11 : ∀ j, jnV v i t m 11 j = if j = i then (t : Int) else v 11 j := by intro j; unfold jnV up2; simp
    rw [sm_up (f := pt2 v) (g := pt2 (jnV v i t m)) (a := i) 8 hi (fun k _ hk => by unfold pt2; rw [a11, if_neg hk])]
    have a1 : pt2 (jnV v i t m) i = 3 := by unfold pt2; rw [a11, if_pos rfl, if_pos (by omega)]
    have a2 : pt2 v i = 0 := by unfold pt2; rw [if_neg (by omega)]
    omega
-- the reference's verdict
theorem mts_mono (v : SV) (t : Nat) : mts v t 1 ≤ mts v t 0 := by
  unfold mts
  have : ∀ n, sm n (mt1 v t 1) ≤ sm n (mt1 v t 0) := by
    intro n
    induction n with
    | zero => exact Int.le_refl 0
    | succ n ih =>
      rw [sm, sm]
      have : mt1 v t 1 n ≤ mt1 v t 0 n := by
        unfold mt1
        split
        · rw [if_pos (by omega)]; omega
        · split <;> omega
      omega
  exact this 32
def opn (w : SV) (t : Nat) (m : Int) : Prop := (kd w t = 0 ∧ (0 ≤ fcB w t 4 ∨ pooled w t < w 104 t)) ∨ (kd w t = 1 ∧ sm 8 (rowN w t 0) = 0) ∨ (¬ kd w t = 0 ∧ ¬ kd w t = 1 ∧ sm 8 (rowN w t 1) = 0 ∧ (m = 0 ∨ sm 8 (rowN w t 0) = 0))
theorem opn_e (hW : WF v L) (h : RA own v L w) {t : Nat} (ht : a_live5 v t) (m : Int) : opn w t m ↔ (v 20 t = 1 → 0 < v 24 t ∨ v 25 t < v 23 t) ∧ (v 20 t = 2 → m = 0 ∧ v 33 t = 0 ∨ ¬ m = 0 ∧ v 32 t = 0) ∧ (v 20 t = 3 → v 37 t = 0) := by
  have t32 := (WF_tg hW ht).1
  obtain ⟨k1, k2, k3, k4⟩ := kd_e h t32 ht
  unfold opn
  rw [all_e h, all_e h]
  by_cases z1 : v 20 t = 1
  · rw [if_pos z1] at k1
    have t8 : t < 8 := by omega
    have e104 : w 104 t = v 23 t := by
      rcases h.2.1 t t8 with ⟨_, z | z | z, _⟩ | z
      · exact z.2.2.2.1
      · have := z.1; omega
      · have := z.1; omega
      · have := z.2.1; omega
    rw [pooled_e h z1, e104]
    have p4 := (h.2.2.2.2.2.1 t z1).2.2.2.2.1
    by_cases zf : 0 < v 24 t
    · have := (fc_some hW h z1 zf).1
      omega
    · have := fc_none hW h z1 (by omega)
      omega
  · by_cases z2 : v 20 t = 2
    · rw [if_neg z1, if_pos z2] at k1
      obtain ⟨m1, m2⟩ := h.2.2.2.2.2.2.2.2.1 t z2
      have := mts_mono v t
      have := mts_b v t 1
      omega
    · have z3 : v 20 t = 3 := by rcases ht with q | q | q <;> omega
      rw [if_neg z1, if_neg z2] at k1
      obtain ⟨s, rfl⟩ : ∃ s, t = 8 + s := ⟨t - 8, by omega⟩
      have e37 : v 37 (8 + s) = mts v (8 + s) 0 := by
        rcases h.2.2.2.2.2.2.1.1 s (by omega) with ⟨_, _, q⟩ | q
        · exact q.2.2.2.2.2.2.2.2.2.2.2.2.1
        · omega
      omega
noncomputable def rAv (w : SV) (i t : Nat) (m : Int) : Int := cif (kd w t = 1 ∧ w 121 (t - 8) = 0 ∨ kd w t = 2 ∧ w 109 t = 2) 9 (cif (0 < kd w t ∧ 0 < rowN w t 0 i) (cif (kd w t = 2 ∧ (m = 0 ∨ 0 < rowN w t 1 i)) 20 12) (cif (opn w t m ∧ (kd w t = 1 ∨ fiB w t 8 < 0)) 20 21))
theorem rAv_e (hW : WF v L) (h : RA own v L w) {i t : Nat} (hi : i < 8) (ht : a_live5 v t) (hb : v 20 t = 2 → ¬ w 109 t = 0) (m : Int) : rAv w i t m = m_judge v i t m (nE L t) := by
  have t32 := (WF_tg hW ht).1
  obtain ⟨k1, k2, k3, k4⟩ := kd_e h t32 ht
  have hfi : fiB w t 8 < 0 ↔ nE L t = 1 := by
    rw [fi_e hW h ht]
    unfold nE
    by_cases z : (L (100 + t)).length = 0
    · rw [if_pos z, if_pos z]; omega
    · rw [if_neg z, if_neg z]; omega
  have ho := opn_e hW h ht m
  have hM := row_m h hW hi t
  unfold rAv m_judge
  by_cases z1 : v 20 t = 1
  · rw [if_pos z1] at k1
    rw [cif_f (by omega), cif_f (by omega), cif_t z1]
    by_cases z : nE L t = 1 ∧ (0 < v 24 t ∨ v 25 t < v 23 t)
    · rw [cif_t z, cif_t ⟨ho.mpr ⟨fun _ => z.2, fun q => by omega, fun q => by omega⟩, Or.inr (hfi.mpr z.1)⟩]
    · rw [cif_f z, cif_f]
      rintro ⟨y1, y2⟩
      exact z ⟨hfi.mp (by omega), (ho.mp y1).1 z1⟩
  · by_cases z2 : v 20 t = 2
    · rw [if_neg z1, if_pos z2] at k1
      have t8 : t < 8 := by omega
      have hk22 : v 22 t = 2 := by
        rcases h.2.1 t t8 with ⟨_, z | z | z, _⟩ | z
        · have := z.1; omega
        · exact z.2.2.2.2.2.2.2.1
        · have := z.1; omega
        · have := z.2.1; omega
      have hWr := row_w h hW hi hk22
      rw [cif_f z1, cif_t z2]
      have b30 : ¬ v 30 t = 0 ↔ w 109 t = 2 := by
        rcases h.2.2.2.1.1 t z2 with q | q | q <;> omega
      by_cases y1 : w 109 t = 2
      · rw [cif_t (Or.inr ⟨k1, y1⟩), cif_t (b30.mpr y1)]
      · rw [cif_f (by omega), cif_f (fun q => y1 (b30.mp q))]
        by_cases y2 : hasM v i t
        · rw [cif_t ⟨by omega, hM.mpr y2⟩, cif_t y2]
          by_cases y3 : m = 0 ∨ hasW v i t
          · rw [cif_t y3, cif_t ⟨k1, y3.imp id hWr.mpr⟩]
          · rw [cif_f y3, cif_f (fun q => y3 (q.2.imp id hWr.mp))]
        · rw [cif_f (fun q => y2 (hM.mp q.2)), cif_f y2]
          by_cases z : nE L t = 1 ∧ (m = 0 ∧ v 33 t = 0 ∨ ¬ m = 0 ∧ v 32 t = 0)
          · rw [cif_t z, cif_t ⟨ho.mpr ⟨fun q => by omega, fun _ => z.2, fun q => by omega⟩, Or.inr (hfi.mpr z.1)⟩]
          · rw [cif_f z, cif_f]
            rintro ⟨y1, y2⟩
            exact z ⟨hfi.mp (by omega), (ho.mp y1).2.1 z2⟩
    · have z3 : v 20 t = 3 := by rcases ht with q | q | q <;> omega
      rw [if_neg z1, if_neg z2] at k1
      obtain ⟨s, rfl⟩ : ∃ s, t = 8 + s := ⟨t - 8, by omega⟩
      have e8 : 8 + s - 8 = s := by omega
      have e36 : v 36 (8 + s) = 0 ↔ w 121 s = 0 := by
        rcases h.2.2.2.2.2.2.1.1 s (by omega) with ⟨_, _, q⟩ | q
        · have := q.2.2.2.2.2.1; omega
        · omega
      rw [cif_f z1, cif_f z2, e8]
      by_cases y1 : v 36 (8 + s) = 0
      · rw [cif_t y1, cif_t (Or.inl ⟨k1, e36.mp y1⟩)]
      · rw [cif_f y1, cif_f (by omega)]
        by_cases y2 : hasM v i (8 + s)
        · rw [cif_t ⟨by omega, hM.mpr y2⟩, cif_t y2, cif_f (by omega)]
        · rw [cif_f (fun q => y2 (hM.mp q.2)), cif_f y2]
          by_cases z : v 37 (8 + s) = 0
          · rw [cif_t z, cif_t ⟨ho.mpr ⟨fun q => by omega, fun q => by omega, fun _ => z⟩, Or.inl k1⟩]
          · rw [cif_f z, cif_f]
            rintro ⟨y1, y2⟩
            exact z ((ho.mp y1).2.2 z3)
/-- what a verdict of entering says -/
theorem judge_can {t i : Nat} {m e : Int} (hW : WF v L) (h : RA own v L w) (ht : a_live5 v t) (hb : v 20 t = 2 → ¬ w 109 t = 0) (hj : m_judge v i t m e = 20) : canE v w t := by
  unfold m_judge at hj
  refine ⟨fun z1 => ?_, fun z2 => ?_, fun z3 => ?_⟩
  · rw [cif_t z1] at hj
    by_cases z : e = 1 ∧ (0 < v 24 t ∨ v 25 t < v 23 t)
    · exact z.2
    · rw [cif_f z] at hj; omega
  · rw [cif_f (by omega), cif_t z2] at hj
    by_cases z : ¬ v 30 t = 0
    · rw [cif_t z] at hj; omega
    · have := hb z2
      rcases h.2.2.2.1.1 t z2 with q | q | q <;> omega
  · rw [cif_f (by omega), cif_f (by omega)] at hj
    by_cases y1 : v 36 t = 0
    · rw [cif_t y1] at hj; omega
    · rw [cif_f y1] at hj
      refine ⟨y1, ?_⟩
      by_cases y2 : hasM v i t
      · rw [cif_t y2] at hj; omega
      · rw [cif_f y2] at hj
        by_cases y3 : v 37 t = 0
        · exact y3
        · rw [cif_f y3] at hj; omega
theorem judge_wait {t i : Nat} {m e : Int} (ht : a_live5 v t) (h : RA own v L w) (hb : v 20 t = 2 → ¬ w 109 t = 0) (hj : m_judge v i t m e = 21) : (¬ v 20 t = 1 → ¬ hasM v i t) ∧ (v 20 t = 2 → w 109 t = 1) := by
  unfold m_judge at hj
  refine ⟨fun z1 y2 => ?_, fun z2 => ?_⟩
  · rw [cif_f z1] at hj
    by_cases z2 : v 20 t = 2
    · rw [cif_t z2, cif_t y2] at hj
      unfold cif at hj
      split at hj
      · omega
      · split at hj <;> omega
    · rw [cif_f z2, cif_t y2] at hj
      unfold cif at hj
      split at hj <;> omega
  · rw [cif_f (by omega), cif_t z2] at hj
    by_cases z : ¬ v 30 t = 0
    · rw [cif_t z] at hj; omega
    · have := hb z2
      rcases h.2.2.2.1.1 t z2 with q | q | q <;> omega
noncomputable def rAr (w : SV) (i t : Nat) (m : Int) : Int := cif (rAv w i t m = 21) (cif (w 105 (cmp w t) = 0) 11 21) (rAv w i t m)
noncomputable def rAw (w : SV) (i t : Nat) (m : Int) : SV := cif (rAv w i t m = 20) (r_enter w i t m) (cif (rAv w i t m = 21) (cif (w 105 (cmp w t) = 0) (r_give w i 11) (r_jn w i t m)) (r_give w i (rAv w i t m)))
/-- a call, what it begins having begun -/
noncomputable def mk2 (v : SV) (L : SL) (i t : Nat) (m : Int) : Int × SV × SL := cif (m_judge v i t m (nE L t) = 21 ∧ ¬ v 21 t = 0) (21, jnV v i t m, jnL L i t) (cif (m_judge v i t m (nE L t) = 20) (20, m_enter v i t m, L) (cif (m_judge v i t m (nE L t) = 21) (11, m_gets v i 11, L) (m_judge v i t m (nE L t), m_gets v i (m_judge v i t m (nE L t)), L)))
theorem RS_mk2 (h : RS own v L w) {i t : Nat} (hi : i < 8) (ht : a_live5 v t) (hd : v 10 i < 4) (hl : v 11 i < 0) (hwk : 6 ≤ i → 0 ≤ v 15 i) {m : Int} (hm : 0 ≤ m ∧ m < v 22 t) (h3 : ¬ v 0 0 = 3) (hb : v 20 t = 2 → ¬ w 109 t = 0) (hc : v 4 0 < 3100) : (∃ own', RS own' (mk2 v L i t m).2.1 (mk2 v L i t m).2.2 (rAw w i t m)) ∧ pot (mk2 v L i t m).2.1 (mk2 v L i t m).2.2 (rAw w i t m) ≤ pot v L w + 4 ∧ rAr w i t m = (mk2 v L i t m).1 := by
  obtain ⟨hW, hA, hR, hD⟩ := h
  have h : RS own v L w := ⟨hW, hA, hR, hD⟩
  have t32 := (WF_tg hW ht).1
  have e := rAv_e hW hA hi ht hb m
  obtain ⟨k1, k2, k3, k4⟩ := kd_e hA t32 ht
  unfold mk2 rAw rAr
  rw [e, k2]
  have j4 := m_judge_in v i t m (nE L t)
  by_cases c1 : m_judge v i t m (nE L t) = 21 ∧ ¬ v 21 t = 0
  · obtain ⟨w1, w2⟩ := judge_wait ht hA hb c1.1
    rw [cif_t c1, cif_f (by omega), cif_t c1.1, cif_f c1.2, cif_t c1.1, cif_f c1.2]
    obtain ⟨g1, g2⟩ := RS_join h hi hl hd hwk ht w1 w2 hm
    exact ⟨⟨own, g1⟩, by rw [g2]; exact Int.le_refl _, rfl⟩
  · rw [cif_f c1]
    by_cases c2 : m_judge v i t m (nE L t) = 20
    · rw [cif_t c2, cif_t c2, cif_f (by omega)]
      obtain ⟨g1, g2⟩ := RS_enter h hi ht hd hl hwk hm h3 (judge_can hW hA ht hb c2) hc
      exact ⟨g1, Int.le_trans g2 (by omega), c2⟩
    · rw [cif_f c2, cif_f c2]
      by_cases c3 : m_judge v i t m (nE L t) = 21
      · have c4 : v 21 t = 0 := by omega
        rw [cif_t c3, cif_t c3, cif_t c4, cif_t c3, cif_t c4]
        obtain ⟨g1, g2⟩ := RS_gets h hi hl (r := 11) (by omega)
        exact ⟨⟨own, g1⟩, Int.le_trans g2 (by omega), rfl⟩
      · rw [cif_f c3, cif_f c3, cif_f c3]
        obtain ⟨g1, g2⟩ := RS_gets h hi hl (r := m_judge v i t m (nE L t)) (by omega)
        exact ⟨⟨own, g1⟩, Int.le_trans g2 (by omega), rfl⟩
end
