/-! The end, as steps of both sides. -/
section
variable {v v' w w' s1 w1 : SV} {L L' M : SL} {own : Int → Nat}
theorem PX_f {d : Nat} (h : PX v w d) (e24 : v' 24 d = v 24 d) (e26 : ∀ j, v' 26 (d + 32 * j) = v 26 (d + 32 * j)) (e115 : ∀ k, k < 4 → w' 115 (4 * d + k) = w 115 (4 * d + k)) : PX v' w' d := by
  obtain ⟨p1, p2, p3, p4, p5, p6⟩ := h
  refine ⟨by rw [e24]; exact p1, fun j hj => ?_, fun k hk h0 => ?_, fun j j' hj hj' he => ?_, fun k k' hk hk' h0 he => ?_, fun k hk => ?_⟩
  · rw [e24] at hj
    obtain ⟨k, k1, k2, k3⟩ := p2 j hj
    exact ⟨k, k1, by rw [e115 k k1, e26]; exact k2, by rw [e115 k k1]; exact k3⟩
  · rw [e115 k hk] at h0 ⊢
    obtain ⟨j, j1, j2⟩ := p3 k hk h0
    exact ⟨j, by rw [e24]; exact j1, by rw [e26]; exact j2⟩
  · rw [e24] at hj hj'
    rw [e26, e26] at he
    exact p4 j j' hj hj' he
  · rw [e115 k hk] at h0 he
    rw [e115 k' hk'] at he
    exact p5 k k' hk hk' h0 he
  · rw [e115 k hk]; exact p6 k hk
theorem no_inC (h : ∀ i, i < 8 → v 10 i = 0) (k : Nat) : ¬ inC v k := by
  rintro ⟨h1, h2⟩
  rw [h (k % 8) (by omega)] at h2
  omega
theorem no_usd (h : ∀ i, i < 8 → v 10 i = 0) (x : Int) : ¬ usd v x := fun ⟨k, hk, _⟩ => no_inC h k hk
theorem no_mts (h : ∀ i, i < 8 → v 10 i = 0) (t : Nat) (l : Int) : mts v t l = 0 := by
  unfold mts
  rw [sm_eq (g := fun _ => 0) 32 (fun k _ => by
    unfold mt1
    rw [h (k % 8) (by omega), if_neg (by omega)])]
  rfl
theorem lbg_s (v : SV) : ∀ n, (lbg v n = none ∧ ∀ c, c < n → v 20 c = 2 → v 31 c = -1) ∨ ∃ l, l < n ∧ lbg v n = some l ∧ v 20 l = 2 ∧ ¬ v 31 l = -1 ∧ ∀ c, c < n → v 20 c = 2 → ¬ v 31 c = -1 → v 31 c ≤ v 31 l := by
  intro n
  induction n with
  | zero => exact Or.inl ⟨rfl, fun c hc => by omega⟩
  | succ n ih =>
    rw [lbg]
    by_cases z : v 20 n = 2 ∧ ¬ v 31 n = -1
    · rw [cif_t z]
      refine Or.inr ?_
      rcases ih with ⟨i1, i2⟩ | ⟨l, l1, l2, l3, l4, l5⟩
      · rw [i1]
        refine ⟨n, by omega, rfl, z.1, z.2, fun c hc h2 h3 => ?_⟩
        by_cases e : c = n
        · rw [e]; omega
        · exact absurd (i2 c (by omega) h2) h3
      · rw [l2]
        by_cases y : v 31 l < v 31 n
        · refine ⟨n, by omega, cif_t y, z.1, z.2, fun c hc h2 h3 => ?_⟩
          by_cases e : c = n
          · rw [e]; omega
          · have := l5 c (by omega) h2 h3; omega
        · refine ⟨l, by omega, cif_f y, l3, l4, fun c hc h2 h3 => ?_⟩
          by_cases e : c = n
          · rw [e]; omega
          · exact l5 c (by omega) h2 h3
    · rw [cif_f z]
      rcases ih with ⟨i1, i2⟩ | ⟨l, l1, l2, l3, l4, l5⟩
      · refine Or.inl ⟨i1, fun c hc h2 => ?_⟩
        by_cases e : c = n
        · subst e
          exact Classical.byContradiction (fun y => z ⟨h2, y⟩)
        · exact i2 c (by omega) h2
      · refine Or.inr ⟨l, by omega, l2, l3, l4, fun c hc h2 h3 => ?_⟩
        by_cases e : c = n
        · subst e; exact absurd ⟨h2, h3⟩ z
        · exact l5 c (by omega) h2 h3
theorem dsS_none (h : lbg v 8 = none) : ∀ n, dsS n v = v := by
  intro n
  induction n with
  | zero => rfl
  | succ n ih =>
    rw [dsS, h]
    exact ih
-- the phase alone is other
theorem up2_comm {c i c' i' : Nat} {x x' : Int} (h : c ≠ c') : up2 (up2 v c i x) c' i' x' = up2 (up2 v c' i' x') c i x := by
  funext d j
  unfold up2
  by_cases e1 : d = c' ∧ j = i'
  · rw [if_pos e1, if_neg (show ¬ (d = c ∧ j = i) by omega), if_pos e1]
  · rw [if_neg e1, if_neg e1]
theorem m_note_ph {k x y z : Int} : m_note (up2 v 0 0 z) k x y = up2 (m_note v k x y) 0 0 z := by
  unfold m_note
  rw [show up2 v 0 0 z 4 0 = v 4 0 from up2_c (by omega), up2_comm (v := v) (show 0 ≠ 6 by omega), up2_comm (show 0 ≠ 4 by omega)]
theorem rtV_ph {t : Nat} {z : Int} : rtV (up2 v 0 0 z) t = up2 (rtV v t) 0 0 z := by
  unfold rtV m_vanish
  rw [show up2 v 0 0 z 36 t = v 36 t from up2_c (by omega), show up2 v 0 0 z 35 t = v 35 t from up2_c (by omega), up2_comm (v := v) (show 0 ≠ 36 by omega), m_note_ph]
theorem rtS_ph {z : Int} : ∀ (n j : Nat) (v : SV), rtS plc n j (up2 v 0 0 z) = up2 (rtS plc n j v) 0 0 z := by
  intro n
  induction n with
  | zero => exact fun j v => rfl
  | succ n ih =>
    intro j v
    rw [rtS, rtS]
    have e : plc (up2 v 0 0 z) (8 + j) = plc v (8 + j) := by unfold plc; rw [up2_c (by omega)]
    rw [e, rtV_ph]
    by_cases y : plc v (8 + j)
    · rw [cif_t y, cif_t y]; exact ih _ _
    · rw [cif_f y, cif_f y]; exact ih _ _
theorem r_note_ph {k x y z : Int} : r_note (up2 w 100 0 z) k x y = up2 (r_note w k x y) 100 0 z := by
  unfold r_note
  rw [show up2 w 100 0 z 144 0 = w 144 0 from up2_c (by omega), up2_comm (v := w) (show 100 ≠ 145 by omega), up2_comm (show 100 ≠ 144 by omega)]
theorem r_pl_ph {s : Nat} {p k z : Int} : r_pl (up2 w 100 0 z) s p k = up2 (r_pl w s p k) 100 0 z := by
  unfold r_pl
  rw [show up2 w 100 0 z 120 s = w 120 s from up2_c (by omega), up2_comm (v := w) (show 100 ≠ 121 by omega), r_note_ph]
-- how far it is from the state behind the sessions' end: s1, w1
def EF (s1 w1 v w : SV) : Prop := (v 0 0 = 3 ∧ w 100 0 = 3) ∧ (∀ d, (d ≠ 0 ∧ d ≠ 4 ∧ d ≠ 6 ∧ d ≠ 24 ∧ d ≠ 25 ∧ d ≠ 26 ∧ d ≠ 31) → v d = s1 d) ∧ (∀ d, (d ≠ 100 ∧ d ≠ 115 ∧ d ≠ 144 ∧ d ≠ 145) → w d = w1 d) ∧ Rl v w ∧ s1 4 0 ≤ v 4 0 ∧ (∀ d k, d < 8 → k < 4 → ¬ s1 20 d = 1 → w 115 (4 * d + k) = 0) ∧ ∀ d, s1 20 d = 1 → 0 ≤ v 25 d
def EP (s1 v w : SV) (c : Nat) : Prop := (∀ d, s1 20 d = 1 → d < c → v 24 d = 0 ∧ v 25 d = 0 ∧ ∀ k, k < 4 → w 115 (4 * d + k) = 0) ∧ ∀ d, s1 20 d = 1 → c ≤ d → PX v w d ∧ (c < d → v 24 d = v 25 d)
def ms (v : SV) : Int := v 4 0 + sm 32 (pt1 v)
theorem pt1_n (h : ∀ d, v 20 d = 1 → 0 ≤ v 25 d) (t : Nat) : 0 ≤ pt1 v t := by
  unfold pt1
  by_cases z : v 20 t = 1
  · rw [if_pos z]; exact h t z
  · rw [if_neg z]
    repeat' split
    all_goals omega
theorem ms_b (h : EF s1 w1 v w) {c : Nat} (hc : c < 32) : v 4 0 + pt1 v c ≤ ms v := by
  have e20 : v 20 = s1 20 := h.2.1 20 (by omega)
  have := sm_le (f := pt1 v) (a := c) 32 (fun k _ => pt1_n (fun d hd => h.2.2.2.2.2.2 d (by rw [← e20]; exact hd)) k) hc
  unfold ms
  omega
theorem RS_fin (hR : RS own s1 M w1) (hq : ∀ i, i < 8 → s1 10 i = 0) (h : EF s1 w1 v w) (hP : EP s1 v w 8) (h31 : ∀ d, s1 20 d = 2 → v 31 d = -1) (hK : ms v ≤ ms s1) : RS own v M w ∧ pot v M w ≤ pot s1 M w1 := by
  obtain ⟨⟨v0, w100⟩, e, f, hl, h4, hz, h25⟩ := h
  have g : ∀ l, l < 100 ∨ 200 ≤ l → M l = M l := fun _ _ => rfl
  obtain ⟨hW, ⟨h0, hk, hn, hs, ho, hp, he, hc, hm, ht', hx', hw⟩, _, hD⟩ := hR
  have p8 : ∀ c, s1 20 c = 1 → c < 8 := fun c hc => (hp c hc).1
  have hq' : ∀ i, i < 8 → v 10 i = 0 := fun i hi => by rw [e 10 (by omega)]; exact hq i hi
  have zz : ∀ c, s1 20 c = 1 → v 24 c = 0 ∧ v 25 c = 0 ∧ ∀ k, k < 4 → w 115 (4 * c + k) = 0 := fun c hc => hP.1 c hc (p8 c hc)
  have e' : ∀ d, (d ≠ 0 ∧ d ≠ 4 ∧ d ≠ 6 ∧ d ≠ 24 ∧ d ≠ 25 ∧ d ≠ 26 ∧ d ≠ 31) → ∀ j, v d j = s1 d j := fun d hd j => congrFun (e d hd) j
  have wf : WF v M := by
    obtain ⟨q1, q2, q3, q4, q5, q6, q7⟩ := hW
    refine ⟨WFc_c q1 (e' 10 (by omega)) (e' 11 (by omega)) (e' 15 (by omega)) (e' 16 (by omega)) (e' 20 (by omega)), WFl_c q2 (e' 11 (by omega)) (e' 20 (by omega)), WFt_c q3 (e' 20 (by omega)) (e' 21 (by omega)) (fun j hj => ?_), sgOK_c q4 (e' 20 (by omega)) (e' 28 (by omega)) (fun i hi => by rw [e' 30 (by omega)]; exact (q4 i hi).2.1), WFs_c q5 (e' 20 (by omega)) (e' 34 (by omega)) (e' 40 (by omega)) (e' 41 (by omega)) (e' 43 (by omega)), WFk_c q6 (e' 20 (by omega)) (e' 50 (by omega)), by rw [e' 2 (by omega)]; exact q7⟩
    rw [(zz j hj).1]; omega
  refine ⟨⟨wf, ⟨⟨?_, ?_, ?_, ?_, ?_, ?_, ?_⟩, (Rk_c hk (fun c hc => e c (by simp only [List.mem_cons, List.not_mem_nil, or_false] at hc; omega)) (fun c hc => f c (by simp only [List.mem_cons, List.not_mem_nil, or_false] at hc; omega))), (Rn_c hn (fun c hc => e c (by simp only [List.mem_cons, List.not_mem_nil, or_false] at hc; omega)) (fun c hc => f c (by simp only [List.mem_cons, List.not_mem_nil, or_false] at hc; omega)) g), ⟨?_, fun y => ?_, fun y => ?_⟩, (Ro_c ho (fun c hc => e c (by simp only [List.mem_cons, List.not_mem_nil, or_false] at hc; omega)) (fun c hc => f c (by simp only [List.mem_cons, List.not_mem_nil, or_false] at hc; omega))), fun c hc1 => ?_, (Re_c he (fun c hc => e c (by simp only [List.mem_cons, List.not_mem_nil, or_false] at hc; omega)) (fun c hc => f c (by simp only [List.mem_cons, List.not_mem_nil, or_false] at hc; omega)) g), (Rc_c hc (fun c hc => e c (by simp only [List.mem_cons, List.not_mem_nil, or_false] at hc; omega)) (fun c hc => f c (by simp only [List.mem_cons, List.not_mem_nil, or_false] at hc; omega))), (Rm_c hm (fun c hc => e c (by simp only [List.mem_cons, List.not_mem_nil, or_false] at hc; omega))), (Rt_c ht' (fun c hc => e c (by simp only [List.mem_cons, List.not_mem_nil, or_false] at hc; omega)) (fun c hc => f c (by simp only [List.mem_cons, List.not_mem_nil, or_false] at hc; omega)) g), ⟨?_, fun c k hc8 hk4 hn1 => ?_⟩, ⟨?_, fun c hc1 k hk4 h1 => ?_, ?_, ?_⟩⟩, hl, ?_⟩, ?_⟩
  · omega
  · rw [f 101 (by omega), e 2 (by omega)]; exact h0.2.1
  · rw [f 102 (by omega), e 1 (by omega)]; exact h0.2.2.1
  · rw [f 118 (by omega)]; exact h0.2.2.2.1
  · rw [f 135 (by omega)]; exact h0.2.2.2.2.1
  · rw [f 143 (by omega), e 5 (by omega)]; exact h0.2.2.2.2.2.1
  · have := h0.2.2.2.2.2.2
    rw [e 1 (by omega)]; omega
  · rw [e 20 (by omega), e 29 (by omega), e 30 (by omega), f 109 (by omega)]; exact hs.1
  · exact absurd v0 y
  · rw [e 20 (by omega)]; exact h31
  · rw [e 20 (by omega)] at hc1
    obtain ⟨z1, z2, z3⟩ := zz c hc1
    obtain ⟨c8, p1, p2, p3, p4, p5, p6, p7, p8, p9, p10, p11⟩ := hp c hc1
    refine ⟨c8, fun k hk => by rw [z3 k hk]; omega, ?_, ?_, by omega, ?_, fun k k' hk _ h0 _ => ?_, fun j hj => ?_, fun k hk h0 _ => ?_, fun j j' _ hj => ?_, fun k hk _ => absurd hk (no_inC hq' k), fun k _ hk _ _ _ => absurd hk (no_inC hq' k)⟩
    · rw [z2, sm_eq (g := fun _ => 0) 4 (fun k hk => by rw [z3 k hk, if_neg (by omega)])]
      rfl
    · rw [z2, e 23 (by omega)]
      have : 0 ≤ s1 25 c := by rw [p2]; exact sm_nn 4 (fun k _ => by split <;> omega)
      omega
    · rw [z1, z2, no_mts hq']; rfl
    · rw [z3 k hk] at h0; omega
    · omega
    · rw [z3 k hk] at h0; omega
    · omega
  · intro q hq
    rw [f 117 (by omega), e 7 (by omega)]
    exact hx'.1 q hq
  · rw [e 20 (by omega)] at hn1
    exact hz c k hc8 hk4 hn1
  · intro k hk
    exact absurd hk (no_inC hq' k)
  · rw [e 20 (by omega)] at hc1
    rw [(zz c hc1).2.2 k hk4] at h1
    omega
  · rw [e 35 (by omega), e 5 (by omega)]; exact hw.2.2.1
  · rw [e 20 (by omega), e 5 (by omega), f 109 (by omega), f 110 (by omega)]; exact hw.2.2.2
  · obtain ⟨d1, d2, d3, d4, d5, d6, d7⟩ := hD
    unfold Rd
    rw [e 5 (by omega), e 3 (by omega), f 124 (by omega), f 133 (by omega)]
    omega
  · unfold pot
    unfold ms at hK
    rw [f 133 (by omega), pt2_f (e 11 (by omega)), pt3_f (e 53 (by omega))]
    omega
/-- one instance of pool c is destroyed -/
theorem EI_step (h : EF s1 w1 v w) {c : Nat} (c8 : c < 8) (hc : s1 20 c = 1) (hP : EP s1 v w c) (p8 : ∀ d, s1 20 d = 1 → d < 8) (hf : 0 < v 24 c) (hb : ms v + v 24 c - v 25 c ≤ 3000) : ∃ k, k < 4 ∧ tlB w c 4 = ((4 * c + k : Nat) : Int) ∧ w 115 (4 * c + k) = v 26 (c + 32 * lowAt v c) + 1 ∧ (EF s1 w1 (m_note (m_low v c) 2 0 (v 26 (c + 32 * lowAt v c))) (r_note (up2 w 115 (4 * c + k) 0) 2 0 (v 26 (c + 32 * lowAt v c)))) ∧ EP s1 (m_note (m_low v c) 2 0 (v 26 (c + 32 * lowAt v c))) (r_note (up2 w 115 (4 * c + k) 0) 2 0 (v 26 (c + 32 * lowAt v c))) c ∧ m_note (m_low v c) 2 0 (v 26 (c + 32 * lowAt v c)) 24 c = v 24 c - 1 ∧ m_note (m_low v c) 2 0 (v 26 (c + 32 * lowAt v c)) 25 c = v 25 c ∧ ms (m_note (m_low v c) 2 0 (v 26 (c + 32 * lowAt v c))) = ms v + 1 ∧ 0 ≤ v 4 0 ∧ v 4 0 < 3100 := by
  obtain ⟨k, k1, k2, k3, k4, k5⟩ := PX_step (hP.2 c hc (Nat.le_refl _)).1 hf
  have hb4 := ms_b h (c := c) (by omega)
  have pc : pt1 v c = v 25 c := by
    unfold pt1
    rw [h.2.1 20 (by omega), if_pos hc]
  have b4 : v 4 0 < 3100 := by omega
  obtain ⟨⟨v0, w100⟩, e, f, hl, h4, hz, h25⟩ := h
  have n4 : 0 ≤ v 4 0 := hl.2.1
  have low : ∀ d, (d ≠ 24 ∧ d ≠ 26) → m_low v c d = v d := fun d hd => funext fun j => m_low_c hd
  have l4 : m_low v c 4 0 = v 4 0 := m_low_c (by omega)
  have lf : ∀ d, (d ≠ 4 ∧ d ≠ 6 ∧ d ≠ 24 ∧ d ≠ 26) → m_note (m_low v c) 2 0 (v 26 (c + 32 * lowAt v c)) d = v d := fun d hd => (m_note_f (by omega)).trans (low d (by omega))
  have l24 : ∀ d, d ≠ c → m_note (m_low v c) 2 0 (v 26 (c + 32 * lowAt v c)) 24 d = v 24 d := fun d hd => by
    rw [m_note_f (by omega)]
    unfold m_low
    rw [up2_c (by omega), up2_i hd]
  have l26 : ∀ d j, d < 8 → d ≠ c → m_note (m_low v c) 2 0 (v 26 (c + 32 * lowAt v c)) 26 (d + 32 * j) = v 26 (d + 32 * j) := fun d j hd8 hd => by
    rw [m_note_f (by omega)]
    unfold m_low
    rw [up2_i (by omega), up2_c (by omega)]
  have u115 : ∀ j, j ≠ 4 * c + k → r_note (up2 w 115 (4 * c + k) 0) 2 0 (v 26 (c + 32 * lowAt v c)) 115 j = w 115 j := fun j hj => by
    rw [r_note_c (by omega), up2_i hj]
  have rl : Rl (m_low v c) (up2 w 115 (4 * c + k) 0) := Rl_c hl (fun c hc => low c (by simp only [List.mem_cons, List.not_mem_nil, or_false] at hc; omega)) (fun c hc => funext fun j => up2_c (by simp only [List.mem_cons, List.not_mem_nil, or_false] at hc; omega))
  have n44 : m_note (m_low v c) 2 0 (v 26 (c + 32 * lowAt v c)) 4 0 = v 4 0 + 1 := by
    rw [m_note_4 (by rw [l4]; exact n4) (by rw [l4]; omega), l4]
  refine ⟨k, k1, k2, k3, ⟨⟨?_, ?_⟩, fun d hd => ?_, fun d hd => ?_, Rl_note rl _ _ _ (by rw [l4]; omega), by omega, fun d q hd hq hn => ?_, fun d hd => ?_⟩, ⟨fun d hd hlt => ?_, fun d hd hle => ?_⟩, ?_, ?_, ?_, n4, b4⟩
  · rw [lf 0 (by omega)]; exact v0
  · rw [r_note_c (by omega), up2_c (by omega)]; exact w100
  · rw [lf d (by omega)]; exact e d hd
  · rw [r_note_c (by omega)]
    exact (funext fun j => up2_c (by omega)).trans (f d hd)
  · have : d ≠ c := fun z => hn (by rw [z]; exact hc)
    rw [u115 _ (by omega)]
    exact hz d q hd hq hn
  · rw [lf 25 (by omega)]; exact h25 d hd
  · have dc : d ≠ c := by omega
    obtain ⟨a1, a2, a3⟩ := hP.1 d hd hlt
    refine ⟨by rw [l24 d dc]; exact a1, by rw [lf 25 (by omega)]; exact a2, fun q hq => ?_⟩
    rw [u115 _ (by omega)]; exact a3 q hq
  · by_cases dc : d = c
    · subst dc
      refine ⟨PX_f k4 ?_ ?_ ?_, fun y => absurd y (Nat.lt_irrefl _)⟩
      · rw [m_note_f (by omega)]
      · intro j; rw [m_note_f (by omega)]
      · intro q _; rw [r_note_c (by omega)]
    · obtain ⟨a1, a2⟩ := hP.2 d hd hle
      refine ⟨PX_f a1 (l24 d dc) (fun j => l26 d j (p8 d hd) dc) (fun q hq => u115 _ (by omega)), fun y => ?_⟩
      rw [l24 d dc, lf 25 (by omega)]
      exact a2 y
  · rw [m_note_f (by omega)]; exact k5
  · rw [lf 25 (by omega)]
  · unfold ms
    rw [n44, pt1_f (lf 20 (by omega)) (lf 25 (by omega)) (lf 29 (by omega)) (lf 30 (by omega)) (lf 31 (by omega)) (lf 36 (by omega))]
    omega
/-- pool c has ended -/
theorem EI_end (h : EF s1 w1 v w) {c : Nat} (c8 : c < 8) (hc : s1 20 c = 1) (hP : EP s1 v w c) (h0 : v 24 c = 0) : EF s1 w1 (up2 v 25 c 0) w ∧ EP s1 (up2 v 25 c 0) w (c + 1) ∧ ms (up2 v 25 c 0) = ms v - v 25 c ∧ ∀ d, s1 20 d = 1 → c + 1 = d → up2 v 25 c 0 24 d = up2 v 25 c 0 25 d := by
  obtain ⟨⟨v0, w100⟩, e, f, hl, h4, hz, h25⟩ := h
  have u : ∀ d, d ≠ 25 → up2 v 25 c 0 d = v d := fun d hd => funext fun j => up2_c hd
  refine ⟨⟨⟨by rw [u 0 (by omega)]; exact v0, w100⟩, fun d hd => by rw [u d (by omega)]; exact e d hd, f, Rl_c hl (fun c hc => u c (by simp only [List.mem_cons, List.not_mem_nil, or_false] at hc; omega)) (fun _ _ => rfl), by rw [u 4 (by omega)]; exact h4, hz, fun d hd => ?_⟩, ⟨fun d hd hlt => ?_, fun d hd hle => ?_⟩, ?_, fun d hd hdc => ?_⟩
  · by_cases y : d = c
    · rw [y, up2_s]; exact Int.le_refl 0
    · rw [up2_i y]; exact h25 d hd
  · by_cases y : d = c
    · subst y
      refine ⟨by rw [u 24 (by omega)]; exact h0, up2_s, (PX_none (hP.2 d hd (Nat.le_refl _)).1 h0).2⟩
    · rw [u 24 (by omega), up2_i y]
      exact hP.1 d hd (by omega)
  · have y : d ≠ c := by omega
    obtain ⟨a1, a2⟩ := hP.2 d hd (by omega)
    refine ⟨PX_f a1 (by rw [u 24 (by omega)]) (fun j => by rw [u 26 (by omega)]) (fun _ _ => rfl), fun z => ?_⟩
    rw [u 24 (by omega), up2_i y]
    exact a2 (by omega)
  · unfold ms
    have pc : pt1 v c = v 25 c := by
      unfold pt1
      rw [e 20 (by omega), if_pos hc]
    have pc' : pt1 (up2 v 25 c 0) c = 0 := by
      unfold pt1
      rw [u 20 (by omega), e 20 (by omega), if_pos hc, up2_s]
    rw [u 4 (by omega), sm_up (f := pt1 v) (g := pt1 (up2 v 25 c 0)) (a := c) 32 (by omega) (fun j _ hj => by unfold pt1; rw [u 20 (by omega), u 29 (by omega), u 30 (by omega), u 31 (by omega), u 36 (by omega), up2_i hj]), pc, pc']
    omega
  · have y : d ≠ c := by omega
    rw [u 24 (by omega), up2_i y]
    exact (hP.2 d hd (by omega)).2 (by omega)
theorem EP_skip {c : Nat} (hc : ¬ s1 20 c = 1) (hP : EP s1 v w c) : EP s1 v w (c + 1) ∧ ∀ d, s1 20 d = 1 → c + 1 = d → v 24 d = v 25 d := by
  refine ⟨⟨fun d hd hlt => ?_, fun d hd hle => ?_⟩, fun d hd hdc => (hP.2 d hd (by omega)).2 (by omega)⟩
  · have : d ≠ c := fun z => hc (by rw [← z]; exact hd)
    exact hP.1 d hd (by omega)
  · obtain ⟨a1, a2⟩ := hP.2 d hd (by omega)
    exact ⟨a1, fun y => a2 (by omega)⟩
-- singletons, the latest begun first: of the order ol the first k are there
def ES (s1 w1 v : SV) (ol : List Nat) (k : Nat) : Prop := ∀ d, s1 20 d = 2 → (d ∈ ol.take k → v 31 d = w1 110 d) ∧ (¬ d ∈ ol.take k → v 31 d = -1)
theorem EC_step (hR : RS own s1 M w1) (h : EF s1 w1 v w) {ol : List Nat} (o3 : ol.Nodup) (o4 : ∀ c, c ∈ ol ↔ s1 20 c = 2 ∧ w1 109 c = 1) (o5 : ol.Pairwise (fun a b => w1 110 a < w1 110 b)) {k : Nat} (hk : k < ol.length) (hS : ES s1 w1 v ol (k + 1)) (hP : EP s1 v w 8) (hb : ms v ≤ 3000) : lbg v 8 = some (ol.getD k 0) ∧ v 31 (ol.getD k 0) = w1 110 (ol.getD k 0) ∧ ES s1 w1 (dsV v (ol.getD k 0)) ol k ∧ EF s1 w1 (dsV v (ol.getD k 0)) (r_note w 2 0 (v 31 (ol.getD k 0))) ∧ EP s1 (dsV v (ol.getD k 0)) (r_note w 2 0 (v 31 (ol.getD k 0))) 8 ∧ ms (dsV v (ol.getD k 0)) = ms v ∧ 0 ≤ v 4 0 ∧ v 4 0 < 3100 := by
  have b8 : ∀ c, s1 20 c = 2 → c < 8 := fun c hc => sg8 hR hc
  have hb4 := ms_b h (c := 8) (by omega)
  have e20 : v 20 = s1 20 := h.2.1 20 (by omega)
  have pn := pt1_n (v := v) (fun d hd => h.2.2.2.2.2.2 d (by rw [← e20]; exact hd)) 8
  have b4 : v 4 0 < 3100 := by omega
  obtain ⟨⟨v0, w100⟩, e, f, hl, h4, hz, h25⟩ := h
  have n4 : 0 ≤ v 4 0 := hl.2.1
  obtain ⟨t, et⟩ : ∃ t, ol.getD k 0 = t := ⟨_, rfl⟩
  have gk : ol[k] = t := by rw [← et, List.getD_eq_getElem?_getD, List.getElem?_eq_getElem hk]; rfl
  have tm : t ∈ ol := by rw [← gk]; exact List.getElem_mem hk
  have tin : t ∈ ol.take (k + 1) := by
    rw [List.take_succ_eq_append_getElem hk, gk]; simp
  have tno : ¬ t ∈ ol.take k := by
    have : (ol.take (k + 1)).Nodup := o3.sublist (List.take_sublist _ _)
    rw [List.take_succ_eq_append_getElem hk, gk, List.nodup_append] at this
    intro y
    exact this.2.2 t y t (by simp) rfl
  obtain ⟨t2, t109⟩ := (o4 t).mp tm
  have own110 := (hR.2.1.2.2.2.2.2.2.2.2.2.2.2.2.2.2 t t2 t109)
  have t31 : v 31 t = w1 110 t := (hS t t2).1 tin
  have lb : lbg v 8 = some t := by
    rcases lbg_s v 8 with ⟨i1, i2⟩ | ⟨l, l1, l2, l3, l4, l5⟩
    · have := i2 t (b8 t t2) (by rw [e20]; exact t2)
      omega
    · have a := l5 t (b8 t t2) (by rw [e20]; exact t2) (by omega)
      rw [e20] at l3
      have lin : l ∈ ol.take (k + 1) := Classical.byContradiction (fun y => l4 ((hS l l3).2 y))
      have l31 := (hS l l3).1 lin
      rw [List.take_succ_eq_append_getElem hk, gk, List.mem_append] at lin
      rcases lin with y | y
      · have : (ol.take (k + 1)).Pairwise (fun a b => w1 110 a < w1 110 b) := o5.sublist (List.take_sublist _ _)
        rw [List.take_succ_eq_append_getElem hk, gk, List.pairwise_append] at this
        have := this.2.2 l y t (by simp)
        omega
      · have y : l = t := by simpa using y
        rw [l2, y]
  rw [et]
  have df : ∀ d, (d ≠ 4 ∧ d ≠ 6 ∧ d ≠ 31) → dsV v t d = v d := fun d hd => funext fun j => dsV_c hd
  have d31 : ∀ j, dsV v t 31 j = if j = t then -1 else v 31 j := by
    intro j
    unfold dsV
    by_cases y : j = t
    · rw [y, up2_s, if_pos rfl]
    · rw [up2_i y, if_neg y, m_note_f (by omega)]
  have d4 : dsV v t 4 0 = v 4 0 + 1 := by
    unfold dsV
    rw [up2_c (by omega), m_note_4 n4 (by omega)]
  refine ⟨lb, t31, fun d hd => ⟨fun y => ?_, fun y => ?_⟩, ⟨⟨by rw [df 0 (by omega)]; exact v0, by rw [r_note_c (by omega)]; exact w100⟩, fun d hd => by rw [df d (by omega)]; exact e d hd, fun d hd => by rw [r_note_c (by omega)]; exact f d hd, ?_, by omega, fun d q hd hq hn => by rw [r_note_c (by omega)]; exact hz d q hd hq hn, fun d hd => by rw [df 25 (by omega)]; exact h25 d hd⟩, ⟨fun d hd hlt => ?_, fun d hd hle => ?_⟩, ?_, n4, b4⟩
  · have dt : d ≠ t := fun z => tno (by rw [← z]; exact y)
    rw [d31, if_neg dt]
    refine (hS d hd).1 ?_
    rw [List.take_succ_eq_append_getElem hk]
    exact List.mem_append_left _ y
  · rw [d31]
    by_cases dt : d = t
    · rw [if_pos dt]
    · rw [if_neg dt]
      refine (hS d hd).2 (fun z => ?_)
      rw [List.take_succ_eq_append_getElem hk, gk, List.mem_append] at z
      rcases z with z | z
      · exact y z
      · exact dt (by simpa using z)
  · have := Rl_note hl 2 0 (v 31 t) (by omega)
    refine Rl_c this (fun c hc => funext fun j => up2_c (by simp only [List.mem_cons, List.not_mem_nil, or_false] at hc; omega)) (fun _ _ => rfl)
  · rw [df 24 (by omega), df 25 (by omega), r_note_c (by omega)]
    exact hP.1 d hd hlt
  · have := hR.2.1.2.2.2.2.2.1 d hd
    omega
  · unfold ms
    have v29 : v 29 t = 1 := by
      rw [e 29 (by omega)]
      have := hR.2.1.2.2.2.1.1 t t2
      omega
    have pc : pt1 v t = 1 := by
      unfold pt1
      rw [e20, if_neg (by omega), if_pos t2, if_neg (by omega), if_neg (by omega)]
    have pc' : pt1 (dsV v t) t = 0 := by
      unfold pt1
      rw [df 20 (by omega), e20, if_neg (by omega), if_pos t2, df 29 (by omega), if_neg (by omega), d31, if_pos rfl, if_pos rfl]
    rw [d4, sm_up (f := pt1 v) (g := pt1 (dsV v t)) (a := t) 32 (by have := b8 t t2; omega) (fun j _ hj => by unfold pt1; rw [df 20 (by omega), df 25 (by omega), df 29 (by omega), df 30 (by omega), df 36 (by omega), d31, if_neg hj]), pc, pc']
    omega
end
