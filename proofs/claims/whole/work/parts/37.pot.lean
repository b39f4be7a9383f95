/-! How far it can go: the events that are still to come; entering, whole. -/
section
variable {v v' w w' : SV} {L L' : SL} {own : Int → Nat}
theorem pt1_nn (h : RA own v L w) (t : Nat) : 0 ≤ pt1 v t := by
  unfold pt1
  by_cases z : v 20 t = 1
  · rw [if_pos z]
    obtain ⟨t8, p1, p2, p3, p4, p5, _⟩ := h.2.2.2.2.2.1 t z
    have := mts_b v t 0
    omega
  · rw [if_neg z]
    repeat' split
    all_goals omega
theorem pot_b (h : RS own v L w) : v 4 0 + w 133 0 + sm 8 (pt2 v) + sm 24 (pt3 v (L 1).length) ≤ pot v L w ∧ 0 ≤ sm 8 (pt2 v) ∧ 0 ≤ sm 24 (pt3 v (L 1).length) ∧ 0 ≤ v 4 0 ∧ 0 ≤ w 133 0 := by
  have h1 := sm_nn (f := pt1 v) 32 (fun k _ => pt1_nn h.2.1 k)
  have h2 := sm_nn (f := pt2 v) 8 (fun k _ => by unfold pt2; split <;> omega)
  have h3 := sm_nn (f := pt3 v (L 1).length) 24 (fun k _ => by unfold pt3; split <;> omega)
  have h4 := h.2.2.1.2.1
  have h5 := h.2.2.2.2.2.2.2.2.2
  unfold pot
  omega
theorem pt1_f (e20 : v' 20 = v 20) (e25 : v' 25 = v 25) (e29 : v' 29 = v 29) (e30 : v' 30 = v 30) (e31 : v' 31 = v 31) (e36 : v' 36 = v 36) : pt1 v' = pt1 v := by
  funext t
  unfold pt1
  rw [e20, e25, e29, e30, e31, e36]
theorem pt2_f (e11 : v' 11 = v 11) : pt2 v' = pt2 v := by
  funext t
  unfold pt2
  rw [e11]
theorem pt3_f {n : Nat} (e53 : v' 53 = v 53) : pt3 v' n = pt3 v n := by
  funext t
  unfold pt3
  rw [e53]
-- the reference's entering
noncomputable def r_enter (w : SV) (i t : Nat) (m : Int) : SV := cif (kd w t = 0) (cif (0 ≤ fcB w t 4) (r_ent w i t (w 115 (fcB w t 4).toNat - 1) m) (r_ent (r_pf w (zcB w t 4)) i t (w 143 0) m)) (cif (kd w t = 1) (r_ent (r_act w (t - 8)) i t (w 120 (t - 8)) m) (r_ent w i t (w 110 t) m))
/-- t can be entered -/
def canE (v w : SV) (t : Nat) : Prop := (v 20 t = 1 → 0 < v 24 t ∨ v 25 t < v 23 t) ∧ (v 20 t = 2 → w 109 t = 1) ∧ (v 20 t = 3 → ¬ v 36 t = 0 ∧ v 37 t = 0)
theorem Rl_ent {v1 w1 : SV} (h : Rl v1 w1) {i t : Nat} {x m : Int} (hb : v1 4 0 < 3200) : Rl (m_note (m_push v1 i t x m) 7 ((i : Int) + 1) x) (r_ent w1 i t x m) := by
  have e4 : m_push v1 i t x m 4 = v1 4 := funext fun j => m_push_c (by omega)
  have e6 : m_push v1 i t x m 6 = v1 6 := funext fun j => m_push_c (by omega)
  refine Rl_note (Rl_c h (fun c hc => ?_) (fun c hc => ?_)) 7 _ x (by rw [e4]; exact hb)
  · simp only [List.mem_cons, List.not_mem_nil, or_false] at hc
    rcases hc with rfl | rfl
    · exact e4
    · exact e6
  · simp only [List.mem_cons, List.not_mem_nil, or_false] at hc
    exact r_push_c (by omega)
theorem ent_4 {v1 : SV} {i t : Nat} {x m : Int} (h0 : 0 ≤ v1 4 0) (hb : v1 4 0 < 3200) : m_note (m_push v1 i t x m) 7 ((i : Int) + 1) x 4 0 = v1 4 0 + 1 := by
  have e4 : m_push v1 i t x m 4 0 = v1 4 0 := m_push_c (by omega)
  rw [m_note_4 (by omega) (by omega), e4]
theorem pot_enter {i t : Nat} {m : Int} {d : Int} {e1 : Int} (ht : t < 32) (h4 : m_enter v i t m 4 0 = v 4 0 + d) (hp : pt1 (m_enter v i t m) t = pt1 v t + e1) (h133 : w' 133 = w 133) (ho : ∀ s, s ≠ t → pt1 (m_enter v i t m) s = pt1 v s) : pot (m_enter v i t m) L w' = pot v L w + d + e1 := by
  unfold pot
  rw [h133, h4, pt2_f (funext fun j => m_enter_c (by omega)), pt3_f (funext fun j => m_enter_c (by omega)), sm_up (f := pt1 v) (g := pt1 (m_enter v i t m)) (a := t) 32 ht (fun k _ hk => ho k hk), hp]
  omega
theorem RS_enter (h : RS own v L w) {i t : Nat} (hi : i < 8) (ht : a_live5 v t) (hd : v 10 i < 4) (hl : v 11 i < 0) (hwk : 6 ≤ i → 0 ≤ v 15 i) {m : Int} (hm : 0 ≤ m ∧ m < v 22 t) (h3 : ¬ v 0 0 = 3) (hc : canE v w t) (hb : v 4 0 < 3100) : (∃ own', RS own' (m_enter v i t m) L (r_enter w i t m)) ∧ pot (m_enter v i t m) L (r_enter w i t m) ≤ pot v L w + 3 := by
  obtain ⟨hW, hA, hR, hD⟩ := h
  have t32 := (WF_tg hW ht).1
  have hd0 := (hW.1 i hi).1.1.1
  have hW' := WF_enter hW hi ht hd hl hwk m
  obtain ⟨k1, k2, k3, k4⟩ := kd_e hA t32 ht
  obtain ⟨d1, d2, d3, d4, d5, d6, d7⟩ := hD
  have h40 := hR.2.1
  obtain ⟨c1, c2, c3⟩ := hc
  have s1 : ∀ c, (c ≠ 4 ∧ c ≠ 5 ∧ c ≠ 6 ∧ c ≠ 24 ∧ c ≠ 25 ∧ c ≠ 32 ∧ c ≠ 33 ∧ c ≠ 36 ∧ c ≠ 37 ∧ c ≠ 10 ∧ c ≠ 16 ∧ c ≠ 17 ∧ c ≠ 18) → ∀ j, m_enter v i t m c j = v c j := fun c hc j => m_enter_c hc
  by_cases z1 : v 20 t = 1
  · rw [if_pos z1] at k1
    unfold r_enter
    rw [cif_t k1]
    by_cases zf : 0 < v 24 t
    · obtain ⟨f1, f2, f3⟩ := fc_some hW hA z1 zf
      have etv : m_tv v t m = up2 v 24 t (v 24 t - 1) := by unfold m_tv; rw [cif_t z1, cif_t zf]
      have eti : m_ti v t = v 26 (t + 32 * (v 24 t - 1).toNat) := by unfold m_ti; rw [cif_t z1, cif_t zf]
      have E : m_enter v i t m = m_note (m_push (up2 v 24 t (v 24 t - 1)) i t (v 26 (t + 32 * (v 24 t - 1).toNat)) m) 7 ((i : Int) + 1) (v 26 (t + 32 * (v 24 t - 1).toNat)) := by
        unfold m_enter; rw [etv, eti]
      have u4 : up2 v 24 t (v 24 t - 1) 4 0 = v 4 0 := up2_c (by omega)
      have a4 : m_enter v i t m 4 0 = v 4 0 + 1 := by rw [E, ent_4 (by omega) (by omega), u4]
      have f : ∀ c, (c ≠ 125 ∧ c ≠ 126 ∧ c ≠ 127 ∧ c ≠ 128 ∧ c ≠ 144 ∧ c ≠ 145) → r_ent w i t (v 26 (t + 32 * (v 24 t - 1).toNat)) m c = w c := fun c hc => r_ent_c hc
      have a25 : ∀ j, m_enter v i t m 25 j = v 25 j := by intro j; rw [E, m_note_c (by omega), m_push_c (by omega), up2_c (by omega)]
      have a36 : ∀ j, m_enter v i t m 36 j = v 36 j := by intro j; rw [E, m_note_c (by omega), m_push_c (by omega), up2_c (by omega)]
      have a5 : m_enter v i t m 5 0 = v 5 0 := by rw [E, m_note_c (by omega), m_push_c (by omega), up2_c (by omega)]
      have ep : pt1 (m_enter v i t m) = pt1 v := pt1_f (funext (s1 20 (by omega))) (funext a25) (funext (s1 29 (by omega))) (funext (s1 30 (by omega))) (funext (s1 31 (by omega))) (funext a36)
      rw [cif_t f1, f2]
      refine ⟨⟨own, hW', RA_enter1 hW hA hi z1 zf ⟨by omega, hd⟩ hl hm, ?_, ?_⟩, ?_⟩
      · rw [E]
        refine Rl_ent (Rl_c hR (fun c hc => ?_) (fun c hc => rfl)) (by rw [u4]; omega)
        simp only [List.mem_cons, List.not_mem_nil, or_false] at hc
        exact funext fun j => up2_c (by omega)
      · unfold Rd
        rw [a4, a5, s1 3 (by omega), f 124 (by omega), f 133 (by omega)]
        omega
      · rw [pot_enter (e1 := 0) t32 a4 (by rw [ep]; omega) (f 133 (by omega)) (fun s _ => by rw [ep])]
        omega
    · have hf0 : v 24 t = 0 := by
        have := (hA.2.2.2.2.2.1 t z1).2.2.2.2.1
        omega
      have f1 := fc_none hW hA z1 hf0
      have h25 : v 25 t < v 23 t := by have := c1 z1; omega
      obtain ⟨q, q1, q2, q3⟩ := zc_e hA z1 h25
      have e143 : w 143 0 = v 5 0 := hA.1.2.2.2.2.2.1
      have s5 : iS (v 5 0 + 1) := by constructor <;> omega
      have b25 : 0 ≤ v 25 t ∧ v 25 t ≤ 4 := by
        obtain ⟨t8, p1, p2, p3, p4, p5, p6⟩ := hA.2.2.2.2.2.1 t z1
        have := mts_b v t 0
        rcases hA.2.1 t t8 with ⟨_, z | z | z, _⟩ | z
        · have := z.2.2.2.2.2.2.2.2; omega
        · have := z.1; omega
        · have := z.1; omega
        · have := z.2.1; omega
      have etv : m_tv v t m = m_note (up2 (up2 v 25 t (v 25 t + 1)) 5 0 (v 5 0 + 1)) 1 0 (v 5 0) := by
        unfold m_tv
        rw [cif_t z1, cif_f (by omega)]
        unfold m_fresh
        rw [up2_c (by omega), wr_s s5, wr_s (by constructor <;> omega)]
      have eti : m_ti v t = v 5 0 := by unfold m_ti; rw [cif_t z1, cif_f (by omega)]
      have E : m_enter v i t m = m_note (m_push (m_note (up2 (up2 v 25 t (v 25 t + 1)) 5 0 (v 5 0 + 1)) 1 0 (v 5 0)) i t (v 5 0) m) 7 ((i : Int) + 1) (v 5 0) := by
        unfold m_enter; rw [etv, eti]
      have u4 : up2 (up2 v 25 t (v 25 t + 1)) 5 0 (v 5 0 + 1) 4 0 = v 4 0 := by rw [up2_c (by omega), up2_c (by omega)]
      have u4' : m_note (up2 (up2 v 25 t (v 25 t + 1)) 5 0 (v 5 0 + 1)) 1 0 (v 5 0) 4 0 = v 4 0 + 1 := by rw [m_note_4 (by omega) (by omega), u4]
      have a4 : m_enter v i t m 4 0 = v 4 0 + 2 := by rw [E, ent_4 (by omega) (by omega), u4']; omega
      have f : ∀ c, (c ≠ 115 ∧ c ≠ 125 ∧ c ≠ 126 ∧ c ≠ 127 ∧ c ≠ 128 ∧ c ≠ 143 ∧ c ≠ 144 ∧ c ≠ 145) → r_ent (r_pf w (4 * t + q)) i t (w 143 0) m c = w c := fun c hc => (r_ent_c (by omega)).trans (r_pf_c (by omega))
      have a25 : ∀ j, m_enter v i t m 25 j = if j = t then v 25 t + 1 else v 25 j := by
        intro j
        rw [E, m_note_c (by omega), m_push_c (by omega), m_note_c (by omega), up2_c (by omega)]
        unfold up2
        simp only [true_and]
      have a36 : ∀ j, m_enter v i t m 36 j = v 36 j := by intro j; rw [E, m_note_c (by omega), m_push_c (by omega), m_note_c (by omega), up2_c (by omega), up2_c (by omega)]
      have a5 : m_enter v i t m 5 0 = v 5 0 + 1 := by rw [E, m_note_c (by omega), m_push_c (by omega), m_note_c (by omega), up2_s]
      rw [cif_f (by omega), q2]
      refine ⟨⟨_, hW', RA_enter0 hW hA hi z1 hf0 h25 q1 q3 ⟨d1, by omega⟩ ⟨by omega, hd⟩ hl hm, ?_, ?_⟩, ?_⟩
      · rw [E, e143]
        refine Rl_ent ?_ (by rw [u4']; omega)
        have h1 : Rl (up2 (up2 v 25 t (v 25 t + 1)) 5 0 (v 5 0 + 1)) (up2 w 143 0 (wr (w 143 0 + 1))) := by
          refine Rl_c hR (fun c hc => ?_) (fun c hc => ?_)
          · simp only [List.mem_cons, List.not_mem_nil, or_false] at hc
            funext j
            rw [up2_c (by omega), up2_c (by omega)]
          · simp only [List.mem_cons, List.not_mem_nil, or_false] at hc
            funext j
            rw [up2_c (by omega)]
        have h2 := Rl_note h1 1 0 (v 5 0) (by rw [u4]; omega)
        refine Rl_c h2 (fun c hc => rfl) (fun c hc => ?_)
        simp only [List.mem_cons, List.not_mem_nil, or_false] at hc
        unfold r_pf r_fresh
        rw [e143]
        funext j
        rw [up2_c (by omega)]
      · unfold Rd
        rw [a4, a5, s1 3 (by omega), f 124 (by omega), f 133 (by omega)]
        omega
      · rw [pot_enter (e1 := 1) t32 a4 ?_ (f 133 (by omega)) (fun s hs => ?_)]
        · omega
        · unfold pt1
          rw [s1 20 (by omega), if_pos z1, if_pos z1, a25, if_pos rfl]
        · unfold pt1
          rw [s1 20 (by omega), s1 29 (by omega), s1 30 (by omega), s1 31 (by omega), a36, a25, if_neg hs]
  · by_cases z2 : v 20 t = 2
    · rw [if_neg z1, if_pos z2] at k1
      have t8 : t < 8 := by omega
      have hk22 : v 22 t = 2 := by
        rcases hA.2.1 t t8 with ⟨_, z | z | z, _⟩ | z
        · have := z.1; omega
        · exact z.2.2.2.2.2.2.2.1
        · have := z.1; omega
        · have := z.2.1; omega
      have hb1 := c2 z2
      have eti : m_ti v t = w 110 t := by
        unfold m_ti
        rw [cif_f z1, cif_t z2]
        exact (hA.2.2.2.1.2.1 h3 t z2).1 hb1
      have tvc : ∀ c, (c ≠ 32 ∧ c ≠ 33) → m_tv v t m c = v c := by
        intro c hc
        funext j
        unfold m_tv
        rw [cif_f z1, cif_t z2]
        unfold cif
        split
        · rw [up2_c (by omega), up2_c (by omega)]
        · rw [up2_c (by omega)]
      have E : m_enter v i t m = m_note (m_push (m_tv v t m) i t (w 110 t) m) 7 ((i : Int) + 1) (w 110 t) := by
        unfold m_enter; rw [eti]
      have u4 : m_tv v t m 4 0 = v 4 0 := by rw [tvc 4 (by omega)]
      have a4 : m_enter v i t m 4 0 = v 4 0 + 1 := by rw [E, ent_4 (by omega) (by omega), u4]
      have f : ∀ c, (c ≠ 125 ∧ c ≠ 126 ∧ c ≠ 127 ∧ c ≠ 128 ∧ c ≠ 144 ∧ c ≠ 145) → r_ent w i t (w 110 t) m c = w c := fun c hc => r_ent_c hc
      have s2 : ∀ c, (c ≠ 4 ∧ c ≠ 6 ∧ c ≠ 10 ∧ c ≠ 16 ∧ c ≠ 17 ∧ c ≠ 18 ∧ c ≠ 32 ∧ c ≠ 33) → m_enter v i t m c = v c := by
        intro c hc
        rw [E]
        exact (m_note_f (by omega)).trans ((funext fun j => m_push_c (by omega)).trans (tvc c (by omega)))
      have ep : pt1 (m_enter v i t m) = pt1 v := pt1_f (s2 20 (by omega)) (s2 25 (by omega)) (s2 29 (by omega)) (s2 30 (by omega)) (s2 31 (by omega)) (s2 36 (by omega))
      unfold r_enter
      rw [cif_f (by omega), cif_f (by omega)]
      refine ⟨⟨own, hW', RA_enter2 hW hA hi z2 hb1 h3 ⟨by omega, hd⟩ hl hm hk22, ?_, ?_⟩, ?_⟩
      · rw [E]
        refine Rl_ent (Rl_c hR (fun c hc => ?_) (fun c hc => rfl)) (by rw [u4]; omega)
        simp only [List.mem_cons, List.not_mem_nil, or_false] at hc
        exact tvc c (by omega)
      · unfold Rd
        rw [a4, s2 5 (by omega), s2 3 (by omega), f 124 (by omega), f 133 (by omega)]
        omega
      · rw [pot_enter (e1 := 0) t32 a4 (by rw [ep]; omega) (f 133 (by omega)) (fun s _ => by rw [ep])]
        omega
    · have z3 : v 20 t = 3 := by rcases ht with q | q | q <;> omega
      rw [if_neg z1, if_neg z2] at k1
      obtain ⟨s, rfl⟩ : ∃ s, t = 8 + s := ⟨t - 8, by omega⟩
      obtain ⟨p36, p37⟩ := c3 z3
      obtain ⟨sl, -, ep⟩ : s < (L 0).length ∧ v 20 (8 + s) = 3 ∧ eP v w s := by
        rcases hA.2.2.2.2.2.2.1.1 s (by omega) with q | q
        · exact q
        · omega
      obtain ⟨e1, e2, e3, e4, e5, e6, e7⟩ := ep
      have eti : m_ti v (8 + s) = w 120 s := by
        unfold m_ti
        rw [cif_f z1, cif_f z2, e5]
      have etv : m_tv v (8 + s) m = up2 (cif (v 36 (8 + s) = 3) (m_note (up2 v 36 (8 + s) 1) 5 0 (v 35 (8 + s))) v) 37 (8 + s) 1 := by
        unfold m_tv
        rw [cif_f (by omega), cif_f (by omega)]
      have E : m_enter v i (8 + s) m = m_note (m_push (m_tv v (8 + s) m) i (8 + s) (w 120 s) m) 7 ((i : Int) + 1) (w 120 s) := by
        unfold m_enter; rw [eti]
      have f : ∀ c, (c ≠ 121 ∧ c ≠ 125 ∧ c ≠ 126 ∧ c ≠ 127 ∧ c ≠ 128 ∧ c ≠ 144 ∧ c ≠ 145) → r_ent (r_act w s) i (8 + s) (w 120 s) m c = w c := fun c hc => (r_ent_c (by omega)).trans (r_act_c (by omega))
      have tvc : ∀ c, (c ≠ 4 ∧ c ≠ 6 ∧ c ≠ 36 ∧ c ≠ 37) → m_tv v (8 + s) m c = v c := by
        intro c hc
        funext j
        rw [etv, up2_c (by omega)]
        unfold cif
        split
        · rw [m_note_c (by omega), up2_c (by omega)]
        · rfl
      have s2 : ∀ c, (c ≠ 4 ∧ c ≠ 6 ∧ c ≠ 10 ∧ c ≠ 16 ∧ c ≠ 17 ∧ c ≠ 18 ∧ c ≠ 36 ∧ c ≠ 37) → m_enter v i (8 + s) m c = v c := by
        intro c hc
        rw [E]
        exact (m_note_f (by omega)).trans ((funext fun j => m_push_c (by omega)).trans (tvc c (by omega)))
      have a36 : ∀ j, m_enter v i (8 + s) m 36 j = if j = 8 + s then 1 else v 36 j := by
        intro j
        rw [E, m_note_c (by omega), m_push_c (by omega), etv, up2_c (by omega)]
        by_cases z : v 36 (8 + s) = 3
        · rw [cif_t z, m_note_c (by omega)]
          unfold up2
          simp only [true_and]
        · rw [cif_f z]
          by_cases z2 : j = 8 + s
          · rw [if_pos z2, z2]; omega
          · rw [if_neg z2]
      have po : ∀ s', s' ≠ 8 + s → pt1 (m_enter v i (8 + s) m) s' = pt1 v s' := by
        intro s' hs'
        unfold pt1
        rw [s2 20 (by omega), s2 25 (by omega), s2 29 (by omega), s2 30 (by omega), s2 31 (by omega), a36, if_neg hs']
      have p1 : pt1 (m_enter v i (8 + s) m) (8 + s) = 2 := by
        unfold pt1
        rw [s2 20 (by omega), if_neg z1, if_neg z2, if_pos z3, a36, if_pos rfl]
        simp
      have e8 : 8 + s - 8 = s := by omega
      unfold r_enter
      rw [cif_f (by omega), cif_t k1, e8]
      by_cases za : v 36 (8 + s) = 3
      · have u4 : m_tv v (8 + s) m 4 0 = v 4 0 + 1 := by
          rw [etv, up2_c (by omega), cif_t za, m_note_4 (by rw [up2_c (by omega)]; omega) (by rw [up2_c (by omega)]; omega), up2_c (by omega)]
        have a4 : m_enter v i (8 + s) m 4 0 = v 4 0 + 2 := by rw [E, ent_4 (by omega) (by omega), u4]; omega
        refine ⟨⟨own, hW', RA_enter3 hW hA hi z3 p36 p37 ⟨by omega, hd⟩ hl hm, ?_, ?_⟩, ?_⟩
        · rw [E]
          refine Rl_ent ?_ (by rw [u4]; omega)
          rw [etv, cif_t za]
          unfold r_act
          rw [cif_t (by omega), e5]
          have h1 : Rl (up2 v 36 (8 + s) 1) (up2 w 121 s 1) := by
            refine Rl_c hR (fun c hc => ?_) (fun c hc => ?_)
            · simp only [List.mem_cons, List.not_mem_nil, or_false] at hc
              funext j
              rw [up2_c (by omega)]
            · simp only [List.mem_cons, List.not_mem_nil, or_false] at hc
              funext j
              rw [up2_c (by omega)]
          have h2 := Rl_note h1 5 0 (v 35 (8 + s)) (by rw [up2_c (by omega)]; omega)
          refine Rl_c h2 (fun c hc => ?_) (fun c hc => rfl)
          simp only [List.mem_cons, List.not_mem_nil, or_false] at hc
          funext j
          rw [up2_c (by omega)]
        · unfold Rd
          rw [a4, s2 5 (by omega), s2 3 (by omega), f 124 (by omega), f 133 (by omega)]
          omega
        · rw [pot_enter (e1 := 1) t32 a4 ?_ (f 133 (by omega)) po]
          · omega
          · rw [p1]
            unfold pt1
            rw [if_neg z1, if_neg z2, if_pos z3, za]
            simp
      · have u4 : m_tv v (8 + s) m 4 0 = v 4 0 := by
          rw [etv, up2_c (by omega), cif_f za]
        have a4 : m_enter v i (8 + s) m 4 0 = v 4 0 + 1 := by rw [E, ent_4 (by omega) (by omega), u4]
        refine ⟨⟨own, hW', RA_enter3 hW hA hi z3 p36 p37 ⟨by omega, hd⟩ hl hm, ?_, ?_⟩, ?_⟩
        · rw [E]
          refine Rl_ent ?_ (by rw [u4]; omega)
          rw [etv, cif_f za]
          unfold r_act
          rw [cif_f (by omega)]
          refine Rl_c hR (fun c hc => ?_) (fun c hc => rfl)
          simp only [List.mem_cons, List.not_mem_nil, or_false] at hc
          funext j
          rw [up2_c (by omega)]
        · unfold Rd
          rw [a4, s2 5 (by omega), s2 3 (by omega), f 124 (by omega), f 133 (by omega)]
          omega
        · rw [pot_enter (e1 := 0) t32 a4 ?_ (f 133 (by omega)) po]
          · omega
          · rw [p1]
            unfold pt1
            rw [if_neg z1, if_neg z2, if_pos z3, show v 36 (8 + s) = 1 by omega]
            simp
end
