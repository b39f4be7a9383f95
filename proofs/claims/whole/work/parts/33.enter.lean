/-! Entering a session, a pool. -/
section
variable {v v' w w' : SV} {L L' : SL} {own : Int → Nat}
noncomputable def r_act (w : SV) (s : Nat) : SV := cif (w 121 s = 2) (r_note (up2 w 121 s 1) 5 0 (w 120 s)) w
theorem r_act_c {s c : Nat} (h : c ≠ 121 ∧ c ≠ 144 ∧ c ≠ 145) : r_act w s c = w c := by
  unfold r_act cif
  split
  · rw [r_note_c (by omega)]
    exact funext fun j => up2_c h.1
  · rfl
theorem RA_enter3 (hW : WF v L) (h : RA own v L w) {i s : Nat} (hi : i < 8) (ht : v 20 (8 + s) = 3) (hp36 : ¬ v 36 (8 + s) = 0) (hf : v 37 (8 + s) = 0) (hd : 0 ≤ v 10 i ∧ v 10 i < 4) (hl : v 11 i < 0) {m : Int} (hm : 0 ≤ m ∧ m < v 22 (8 + s)) : RA own (m_enter v i (8 + s) m) L (r_ent (r_act w s) i (8 + s) (w 120 s) m) := by
  have P := isPush_enter (v := v) (i := i) (t := 8 + s) (m := m)
  have etv : m_tv v (8 + s) m = up2 (cif (v 36 (8 + s) = 3) (m_note (up2 v 36 (8 + s) 1) 5 0 (v 35 (8 + s))) v) 37 (8 + s) 1 := by
    unfold m_tv
    rw [cif_f (by omega), cif_f (by omega)]
  have e : ∀ c, (c ≠ 4 ∧ c ≠ 6 ∧ c ≠ 10 ∧ c ≠ 16 ∧ c ≠ 17 ∧ c ≠ 18 ∧ c ≠ 36 ∧ c ≠ 37) → m_enter v i (8 + s) m c = v c := by
    intro c hc
    have e1 : m_tv v (8 + s) m c = v c := by
      funext j
      rw [etv, up2_c (by omega)]
      unfold cif
      split
      · rw [m_note_c (by omega), up2_c (by omega)]
      · rfl
    exact (m_note_f (by omega)).trans ((funext fun j => m_push_c (by omega)).trans e1)
  have f : ∀ c, (c ≠ 121 ∧ c ≠ 125 ∧ c ≠ 126 ∧ c ≠ 127 ∧ c ≠ 128 ∧ c ≠ 144 ∧ c ≠ 145) → r_ent (r_act w s) i (8 + s) (w 120 s) m c = w c := fun c hc => (r_ent_c (by omega)).trans (r_act_c (by omega))
  have g : ∀ l, l < 100 ∨ 200 ≤ l → L l = L l := fun _ _ => rfl
  have l24 := hW.2.2.2.2.1.2.1
  have hs32 : 8 + s < 32 := (WF_tg hW (Or.inr (Or.inr ht))).1
  obtain ⟨h0, hk, hn, hs, ho, hp, he, hc, hmm, ht', hx, hw⟩ := h
  obtain ⟨sl, -, ep⟩ : s < (L 0).length ∧ v 20 (8 + s) = 3 ∧ eP v w s := by
    rcases he.1 s (by omega) with q | q
    · exact q
    · omega
  have ep' := ep
  obtain ⟨c1, c2, c3, c4, c5, c6, c7, c8, c9, c10, c11, c12, c13, c14, c15, c16⟩ := ep
  have ex : m_ti v (8 + s) = w 120 s := by
    unfold m_ti
    rw [cif_f (by omega), cif_f (by omega), c5]
  rw [ex] at P
  obtain ⟨x1, x2, x3⟩ := hw.2.2.1 s sl
  rw [← c5] at x1 x2 x3
  have M := fun s l => push_mts P hi hd s l
  have a37 : ∀ j, m_enter v i (8 + s) m 37 j = if j = 8 + s then 1 else v 37 j := by
    intro j
    unfold m_enter
    rw [m_note_c (by omega), m_push_c (by omega), etv]
    by_cases z : j = 8 + s
    · rw [z, up2_s, if_pos rfl]
    · rw [up2_i z, if_neg z]
      unfold cif
      split
      · rw [m_note_c (by omega), up2_c (by omega)]
      · rfl
  have a36 : ∀ j, m_enter v i (8 + s) m 36 j = if j = 8 + s then 1 else v 36 j := by
    intro j
    unfold m_enter
    rw [m_note_c (by omega), m_push_c (by omega), etv, up2_c (by omega)]
    by_cases z : v 36 (8 + s) = 3
    · rw [cif_t z, m_note_c (by omega)]
      unfold up2
      simp only [true_and]
    · rw [cif_f z]
      by_cases z2 : j = 8 + s
      · rw [if_pos z2, z2]; omega
      · rw [if_neg z2]
  have a121 : ∀ j, r_ent (r_act w s) i (8 + s) (w 120 s) m 121 j = if j = s then 1 else w 121 j := by
    intro j
    rw [show r_ent (r_act w s) i (8 + s) (w 120 s) m 121 j = r_act w s 121 j from congrFun (r_ent_c (by omega)) j]
    unfold r_act
    by_cases z : w 121 s = 2
    · rw [cif_t z, show r_note (up2 w 121 s 1) 5 0 (w 120 s) 121 j = up2 w 121 s 1 121 j from congrFun (r_note_c (by omega)) j]
      unfold up2
      simp only [true_and]
    · rw [cif_f z]
      by_cases z2 : j = s
      · rw [if_pos z2, z2]; omega
      · rw [if_neg z2]
  refine ⟨(R0_c h0 (fun c hc => e c (by simp only [List.mem_cons, List.not_mem_nil, or_false] at hc; omega)) (fun c hc => f c (by simp only [List.mem_cons, List.not_mem_nil, or_false] at hc; omega)) g), (Rk_c hk (fun c hc => e c (by simp only [List.mem_cons, List.not_mem_nil, or_false] at hc; omega)) (fun c hc => f c (by simp only [List.mem_cons, List.not_mem_nil, or_false] at hc; omega))), (Rn_c hn (fun c hc => e c (by simp only [List.mem_cons, List.not_mem_nil, or_false] at hc; omega)) (fun c hc => f c (by simp only [List.mem_cons, List.not_mem_nil, or_false] at hc; omega)) g), (Rs_c hs (fun c hc => e c (by simp only [List.mem_cons, List.not_mem_nil, or_false] at hc; omega)) (fun c hc => f c (by simp only [List.mem_cons, List.not_mem_nil, or_false] at hc; omega))), (Ro_c ho (fun c hc => e c (by simp only [List.mem_cons, List.not_mem_nil, or_false] at hc; omega)) (fun c hc => f c (by simp only [List.mem_cons, List.not_mem_nil, or_false] at hc; omega))), fun c hcc => ?_, ?_, ⟨?_, ?_⟩, fun c hcc => ?_, (Rt_c ht' (fun c hc => e c (by simp only [List.mem_cons, List.not_mem_nil, or_false] at hc; omega)) (fun c hc => f c (by simp only [List.mem_cons, List.not_mem_nil, or_false] at hc; omega)) g), (Rx_c hx (fun c hc => e c (by simp only [List.mem_cons, List.not_mem_nil, or_false] at hc; omega)) (fun c hc => f c (by simp only [List.mem_cons, List.not_mem_nil, or_false] at hc; omega))), ?_⟩
  · rw [e 20 (by omega)] at hcc
    obtain ⟨q1, q2⟩ := hp c hcc
    refine ⟨q1, push_pP P hi hd q2 (by omega) (fun k hk z => ?_) (by rw [e 23 (by omega)]) (by rw [e 24 (by omega)]) (by rw [e 25 (by omega)]) (fun j => by rw [e 26 (by omega)]) (fun k _ => by rw [f 115 (by omega)]) (fun k _ => by rw [f 116 (by omega)]) (by rw [f 124 (by omega)])⟩
    have o := (hw.2.1 c hcc k hk (by omega)).1
    rw [z, show w 120 s + 1 - 1 = w 120 s by omega, x1] at o
    omega
  · refine push_Re P hi hd he (fun c hc => e c (by simp only [List.mem_cons, List.not_mem_nil, or_false] at hc; omega)) (fun c hc => f c (by simp only [List.mem_cons, List.not_mem_nil, or_false] at hc; omega)) (fun s' hs' => ⟨?_, ?_, ?_⟩) (fun s' h1 h2 _ => ?_)
    · rw [a36, if_neg hs']
    · rw [a37, if_neg hs']
    · rw [a121, if_neg (by omega)]
    · have h2 : s' = s := by omega
      subst h2
      unfold eP
      rw [e 3 (by omega), e 21 (by omega), e 22 (by omega), e 34 (by omega), e 35 (by omega), e 38 (by omega), e 39 (by omega), e 40 (by omega), e 42 (by omega), f 119 (by omega), f 120 (by omega), f 122 (by omega), f 123 (by omega), f 124 (by omega), a36, a37, a121, M, if_pos rfl, if_pos rfl, if_pos rfl, if_pos ⟨rfl, by omega⟩]
      exact ⟨c1, c2, c3, c4, c5, Or.inr (Or.inl ⟨rfl, rfl⟩), c7, c8, c9, c10, c11, c12, by omega, by omega, fun _ => rfl, fun k k1 k2 => by
        rw [push_inC P hi hd] at k1
        rw [P.2.1] at k2
        rw [P.2.2.1]
        by_cases y : k = i + 8 * (v 10 i).toNat
        · rw [if_pos y, c5]
        · rw [if_neg y] at k2 ⊢
          exact c16 k (k1.resolve_right y) k2⟩
  · refine push_cP P (isPush_re isPush_ent (fun c hc => r_act_c ?_) (fun c hc => rfl)) hi hd hl hm (fun c hc => e c (by simp only [List.mem_cons, List.not_mem_nil, or_false] at hc; omega)) (fun c hc => f c (by simp only [List.mem_cons, List.not_mem_nil, or_false] at hc; omega)) hc.1
    simp only [List.mem_cons, List.not_mem_nil, or_false] at hc
    omega
  · unfold a_live5
    rw [e 20 (by omega), f 132 (by omega)]
    exact hc.2
  · rw [e 20 (by omega)] at hcc
    obtain ⟨m1, m2⟩ := hmm c hcc
    rw [M, M, ← m1, ← m2, e 32 (by omega), e 33 (by omega), if_neg (fun z => by rw [← z.1] at hcc; omega), if_neg (fun z => by rw [← z.1] at hcc; omega)]
    omega
  · refine ⟨?_, ?_, ?_, ?_⟩
    · rw [e 5 (by omega)]
      exact push_own P hi hd (Int.le_refl _) (fun _ _ _ => rfl) ⟨x1, x2, x3⟩ hw.1
    · rw [e 20 (by omega), e 5 (by omega), f 115 (by omega)]
      exact hw.2.1
    · rw [e 35 (by omega), e 5 (by omega)]
      exact hw.2.2.1
    · rw [e 20 (by omega), e 5 (by omega), f 109 (by omega), f 110 (by omega)]
      exact hw.2.2.2
/-- a pool gives out an instance that came back -/
theorem RA_enter1 (hW : WF v L) (h : RA own v L w) {i t : Nat} (hi : i < 8) (ht : v 20 t = 1) (hf : 0 < v 24 t) (hd : 0 ≤ v 10 i ∧ v 10 i < 4) (hl : v 11 i < 0) {m : Int} (hm : 0 ≤ m ∧ m < v 22 t) : RA own (m_enter v i t m) L (r_ent w i t (v 26 (t + 32 * (v 24 t - 1).toNat)) m) := by
  have P := isPush_enter (v := v) (i := i) (t := t) (m := m)
  have etv : m_tv v t m = up2 v 24 t (v 24 t - 1) := by
    unfold m_tv
    rw [cif_t ht, cif_t hf]
  have e : ∀ c, (c ≠ 4 ∧ c ≠ 6 ∧ c ≠ 10 ∧ c ≠ 16 ∧ c ≠ 17 ∧ c ≠ 18 ∧ c ≠ 24) → m_enter v i t m c = v c := by
    intro c hc
    have e1 : m_tv v t m c = v c := by
      funext j
      rw [etv, up2_c (by omega)]
    exact (m_note_f (by omega)).trans ((funext fun j => m_push_c (by omega)).trans e1)
  have f : ∀ c, (c ≠ 125 ∧ c ≠ 126 ∧ c ≠ 127 ∧ c ≠ 128 ∧ c ≠ 144 ∧ c ≠ 145) → r_ent w i t (v 26 (t + 32 * (v 24 t - 1).toNat)) m c = w c := fun c hc => r_ent_c (by omega)
  have g : ∀ l, l < 100 ∨ 200 ≤ l → L l = L l := fun _ _ => rfl
  have l24 := hW.2.2.2.2.1.2.1
  obtain ⟨h0, hk, hn, hs, ho, hp, he, hc, hmm, ht', hx, hw⟩ := h
  obtain ⟨t8, p1, p2, p3, p4, p5, p6, p7, p8, p9, p10, p11⟩ := hp t ht
  obtain ⟨x, ex0⟩ : ∃ x, v 26 (t + 32 * (v 24 t - 1).toNat) = x := ⟨_, rfl⟩
  have ex : m_ti v t = x := by
    unfold m_ti
    rw [cif_t ht, cif_t hf, ex0]
  rw [ex] at P
  rw [ex0] at f ⊢
  obtain ⟨kx, kx1, kx0, kx2, kx3, kx4⟩ := p7 (v 24 t - 1).toNat (by omega)
  rw [ex0] at kx2 kx4
  obtain ⟨x1, x3⟩ := hw.2.1 t ht kx kx1 kx0
  rw [kx2, show x + 1 - 1 = x by omega] at x1
  have M := fun s l => push_mts P hi hd s l
  have a24 : ∀ j, m_enter v i t m 24 j = if j = t then v 24 t - 1 else v 24 j := by
    intro j
    unfold m_enter
    rw [m_note_c (by omega), m_push_c (by omega), etv]
    unfold up2
    simp only [true_and]
  refine ⟨(R0_c h0 (fun c hc => e c (by simp only [List.mem_cons, List.not_mem_nil, or_false] at hc; omega)) (fun c hc => f c (by simp only [List.mem_cons, List.not_mem_nil, or_false] at hc; omega)) g), (Rk_c hk (fun c hc => e c (by simp only [List.mem_cons, List.not_mem_nil, or_false] at hc; omega)) (fun c hc => f c (by simp only [List.mem_cons, List.not_mem_nil, or_false] at hc; omega))), (Rn_c hn (fun c hc => e c (by simp only [List.mem_cons, List.not_mem_nil, or_false] at hc; omega)) (fun c hc => f c (by simp only [List.mem_cons, List.not_mem_nil, or_false] at hc; omega)) g), (Rs_c hs (fun c hc => e c (by simp only [List.mem_cons, List.not_mem_nil, or_false] at hc; omega)) (fun c hc => f c (by simp only [List.mem_cons, List.not_mem_nil, or_false] at hc; omega))), (Ro_c ho (fun c hc => e c (by simp only [List.mem_cons, List.not_mem_nil, or_false] at hc; omega)) (fun c hc => f c (by simp only [List.mem_cons, List.not_mem_nil, or_false] at hc; omega))), fun c hcc => ?_, ?_, ⟨?_, ?_⟩, fun c hcc => ?_, (Rt_c ht' (fun c hc => e c (by simp only [List.mem_cons, List.not_mem_nil, or_false] at hc; omega)) (fun c hc => f c (by simp only [List.mem_cons, List.not_mem_nil, or_false] at hc; omega)) g), (Rx_c hx (fun c hc => e c (by simp only [List.mem_cons, List.not_mem_nil, or_false] at hc; omega)) (fun c hc => f c (by simp only [List.mem_cons, List.not_mem_nil, or_false] at hc; omega))), ?_⟩
  · rw [e 20 (by omega)] at hcc
    obtain ⟨q1, q2⟩ := hp c hcc
    by_cases z : t = c
    · subst z
      refine ⟨t8, ?_⟩
      unfold pP
      rw [e 23 (by omega), e 25 (by omega), e 26 (by omega), f 115 (by omega), f 116 (by omega), f 124 (by omega), a24, if_pos rfl, M, if_pos ⟨rfl, hm.1⟩]
      refine ⟨p1, p2, p3, by omega, by omega, p6, fun j hj => ?_, fun k hk h0 hu => ?_, fun j j' hjj hj' => p9 j j' hjj (by omega), fun k h1 h2 => ?_, fun k k' h1 h1' h2 h2' h3 => ?_⟩
      · obtain ⟨k, k1, k0, k2, k3, k4⟩ := p7 j (by omega)
        refine ⟨k, k1, k0, k2, k3, ?_⟩
        rw [push_usd P hi hd]
        rintro (z | z)
        · exact k4 z
        · have := p9 j (v 24 t - 1).toNat (by omega) (by omega) k kx k1 kx1 k2 (by rw [kx2, ex0])
          have := p6 k kx k1 kx1 (by rw [k2, z]; omega) (by rw [k2, kx2, z])
          subst this
          omega
      · have hu' : ¬ usd v (w 115 (4 * t + k) - 1) := fun z => hu ((push_usd P hi hd _).mpr (Or.inl z))
        obtain ⟨j, j1, j2⟩ := p8 k hk h0 hu'
        refine ⟨j, ?_, j2⟩
        by_cases z : j = (v 24 t - 1).toNat
        · exfalso
          rw [z, ex0] at j2
          exact hu ((push_usd P hi hd _).mpr (Or.inr (by omega)))
        · omega
      · rw [push_inC P hi hd] at h1
        rw [P.2.2.1]
        by_cases z : k = i + 8 * (v 10 i).toNat
        · rw [if_pos z]; exact ⟨kx, kx1, kx2⟩
        · rw [P.2.1, if_neg z] at h2
          rw [if_neg z]
          exact p10 k (h1.resolve_right z) h2
      · rw [push_inC P hi hd] at h1 h1'
        rw [P.2.1] at h2 h2'
        rw [P.2.2.1, P.2.2.1] at h3
        by_cases z : k = i + 8 * (v 10 i).toNat <;> by_cases z' : k' = i + 8 * (v 10 i).toNat
        · rw [z, z']
        · rw [if_pos z, if_neg z'] at h3
          exact absurd ⟨k', h1'.resolve_right z', h3.symm⟩ kx4
        · rw [if_neg z, if_pos z'] at h3
          exact absurd ⟨k, h1.resolve_right z, h3⟩ kx4
        · rw [if_neg z, if_neg z'] at h3
          rw [if_neg z] at h2
          rw [if_neg z'] at h2'
          exact p11 k k' (h1.resolve_right z) (h1'.resolve_right z') h2 h2' h3
    · refine ⟨q1, push_pP P hi hd q2 z (fun k hk z2 => ?_) (by rw [e 23 (by omega)]) (by rw [a24, if_neg (by omega)]) (by rw [e 25 (by omega)]) (fun j => by rw [e 26 (by omega)]) (fun k _ => by rw [f 115 (by omega)]) (fun k _ => by rw [f 116 (by omega)]) (by rw [f 124 (by omega)])⟩
      have o := (hw.2.1 c hcc k hk (by omega)).1
      rw [z2, show x + 1 - 1 = x by omega, x1] at o
      exact z o
  · refine push_Re P hi hd he (fun c hc => e c (by simp only [List.mem_cons, List.not_mem_nil, or_false] at hc; omega)) (fun c hc => f c (by simp only [List.mem_cons, List.not_mem_nil, or_false] at hc; omega)) (fun s _ => ⟨by rw [e 36 (by omega)], by rw [e 37 (by omega)], by rw [f 121 (by omega)]⟩) (fun s h1 h2 _ => ?_)
    omega
  · exact push_cP P isPush_ent hi hd hl hm (fun c hc => e c (by simp only [List.mem_cons, List.not_mem_nil, or_false] at hc; omega)) (fun c hc => f c (by simp only [List.mem_cons, List.not_mem_nil, or_false] at hc; omega)) hc.1
  · unfold a_live5
    rw [e 20 (by omega), f 132 (by omega)]
    exact hc.2
  · rw [e 20 (by omega)] at hcc
    obtain ⟨m1, m2⟩ := hmm c hcc
    rw [M, M, ← m1, ← m2, e 32 (by omega), e 33 (by omega), if_neg (fun z => by rw [← z.1] at hcc; omega), if_neg (fun z => by rw [← z.1] at hcc; omega)]
    omega
  · refine ⟨?_, ?_, ?_, ?_⟩
    · rw [e 5 (by omega)]
      exact push_own P hi hd (Int.le_refl _) (fun _ _ _ => rfl) ⟨x1, by omega, by omega⟩ hw.1
    · rw [e 20 (by omega), e 5 (by omega), f 115 (by omega)]
      exact hw.2.1
    · rw [e 35 (by omega), e 5 (by omega)]
      exact hw.2.2.1
    · rw [e 20 (by omega), e 5 (by omega), f 109 (by omega), f 110 (by omega)]
      exact hw.2.2.2
def r_fresh (w : SV) : SV := r_note (up2 w 143 0 (wr (w 143 0 + 1))) 1 0 (w 143 0)
theorem r_fresh_c {c : Nat} (h : c ≠ 143 ∧ c ≠ 144 ∧ c ≠ 145) : r_fresh w c = w c := (r_note_c (by omega)).trans (funext fun j => up2_c h.1)
/-- a new instance in a cell of a pool -/
def r_pf (w : SV) (cell : Nat) : SV := up2 (r_fresh w) 115 cell (wr (w 143 0 + 1))
theorem r_pf_c {cell c : Nat} (h : c ≠ 115 ∧ c ≠ 143 ∧ c ≠ 144 ∧ c ≠ 145) : r_pf w cell c = w c := (funext fun j => up2_c h.1).trans (r_fresh_c (by omega))
def ownU (own : Int → Nat) (x : Int) (t : Nat) : Int → Nat := fun y => if y = x then t else own y
theorem ownU_o {x y : Int} {t : Nat} (h : y < x) : ownU own x t y = own y := if_neg (by omega)
theorem ownU_s {x : Int} {t : Nat} : ownU own x t x = t := if_pos rfl
theorem RA_enter0 (hW : WF v L) (h : RA own v L w) {i t q : Nat} (hi : i < 8) (ht : v 20 t = 1) (hf : v 24 t = 0) (h25 : v 25 t < v 23 t) (hq : q < 4) (hq0 : w 115 (4 * t + q) = 0) (hb : 0 ≤ v 5 0 ∧ v 5 0 < 3200) (hd : 0 ≤ v 10 i ∧ v 10 i < 4) (hl : v 11 i < 0) {m : Int} (hm : 0 ≤ m ∧ m < v 22 t) : RA (ownU own (v 5 0) t) (m_enter v i t m) L (r_ent (r_pf w (4 * t + q)) i t (w 143 0) m) := by
  have P := isPush_enter (v := v) (i := i) (t := t) (m := m)
  have s5 : iS (v 5 0 + 1) := by constructor <;> omega
  have s25 : 0 ≤ v 25 t ∧ v 25 t ≤ 4 := by
    obtain ⟨t8, p1, p2, p3, p4, p5, p6⟩ := h.2.2.2.2.2.1 t ht
    have := mts_b v t 0
    rcases h.2.1 t t8 with ⟨_, z | z | z, _⟩ | z
    · have := z.2.2.2.2.2.2.2.2; omega
    · have := z.1; omega
    · have := z.1; omega
    · have := z.2.1; omega
  have etv : m_tv v t m = m_note (up2 (up2 v 25 t (v 25 t + 1)) 5 0 (v 5 0 + 1)) 1 0 (v 5 0) := by
    unfold m_tv
    rw [cif_t ht, cif_f (by omega)]
    unfold m_fresh
    rw [up2_c (by omega), wr_s s5, wr_s (by constructor <;> omega)]
  have e : ∀ c, (c ≠ 4 ∧ c ≠ 5 ∧ c ≠ 6 ∧ c ≠ 10 ∧ c ≠ 16 ∧ c ≠ 17 ∧ c ≠ 18 ∧ c ≠ 25) → m_enter v i t m c = v c := by
    intro c hc
    have e1 : m_tv v t m c = v c := by
      funext j
      rw [etv, m_note_c (by omega), up2_c (by omega), up2_c (by omega)]
    exact (m_note_f (by omega)).trans ((funext fun j => m_push_c (by omega)).trans e1)
  have f : ∀ c, (c ≠ 115 ∧ c ≠ 125 ∧ c ≠ 126 ∧ c ≠ 127 ∧ c ≠ 128 ∧ c ≠ 143 ∧ c ≠ 144 ∧ c ≠ 145) → r_ent (r_pf w (4 * t + q)) i t (w 143 0) m c = w c := fun c hc => (r_ent_c (by omega)).trans (r_pf_c (by omega))
  have g : ∀ l, l < 100 ∨ 200 ≤ l → L l = L l := fun _ _ => rfl
  have l24 := hW.2.2.2.2.1.2.1
  obtain ⟨h0, hk, hn, hs, ho, hp, he, hc, hmm, ht', hx, hw⟩ := h
  obtain ⟨t8, p1, p2, p3, p4, p5, p6, p7, p8, p9, p10, p11⟩ := hp t ht
  have e143 : w 143 0 = v 5 0 := h0.2.2.2.2.2.1
  have ex : m_ti v t = v 5 0 := by
    unfold m_ti
    rw [cif_t ht, cif_f (by omega)]
  rw [ex] at P
  have M := fun s l => push_mts P hi hd s l
  have a5 : m_enter v i t m 5 0 = v 5 0 + 1 := by
    unfold m_enter
    rw [m_note_c (by omega), m_push_c (by omega), etv, m_note_c (by omega), up2_s]
  have a25 : ∀ j, m_enter v i t m 25 j = if j = t then v 25 t + 1 else v 25 j := by
    intro j
    unfold m_enter
    rw [m_note_c (by omega), m_push_c (by omega), etv, m_note_c (by omega), up2_c (by omega)]
    unfold up2
    simp only [true_and]
  have b143 : r_ent (r_pf w (4 * t + q)) i t (w 143 0) m 143 0 = v 5 0 + 1 := by
    rw [show r_ent (r_pf w (4 * t + q)) i t (w 143 0) m 143 0 = r_pf w (4 * t + q) 143 0 from congrFun (r_ent_c (by omega)) 0]
    unfold r_pf
    rw [up2_c (by omega)]
    unfold r_fresh
    rw [show r_note (up2 w 143 0 (wr (w 143 0 + 1))) 1 0 (w 143 0) 143 0 = up2 w 143 0 (wr (w 143 0 + 1)) 143 0 from congrFun (r_note_c (by omega)) 0, up2_s, e143, wr_s s5]
  have b115 : ∀ j, r_ent (r_pf w (4 * t + q)) i t (w 143 0) m 115 j = if j = 4 * t + q then v 5 0 + 1 else w 115 j := by
    intro j
    rw [show r_ent (r_pf w (4 * t + q)) i t (w 143 0) m 115 j = r_pf w (4 * t + q) 115 j from congrFun (r_ent_c (by omega)) j]
    unfold r_pf
    rw [e143, wr_s s5]
    by_cases z : j = 4 * t + q
    · rw [z, up2_s, if_pos rfl]
    · rw [up2_i z, if_neg z]
      exact congrFun (r_fresh_c (by omega)) j
  have lo : ∀ k, k < 4 → 0 < w 115 (4 * t + k) → w 115 (4 * t + k) ≤ v 5 0 := fun k hk h0 => (hw.2.1 t ht k hk h0).2
  refine ⟨⟨?_, ?_, ?_, ?_, ?_, ?_, ?_⟩, (Rk_c hk (fun c hc => e c (by simp only [List.mem_cons, List.not_mem_nil, or_false] at hc; omega)) (fun c hc => f c (by simp only [List.mem_cons, List.not_mem_nil, or_false] at hc; omega))), (Rn_c hn (fun c hc => e c (by simp only [List.mem_cons, List.not_mem_nil, or_false] at hc; omega)) (fun c hc => f c (by simp only [List.mem_cons, List.not_mem_nil, or_false] at hc; omega)) g), (Rs_c hs (fun c hc => e c (by simp only [List.mem_cons, List.not_mem_nil, or_false] at hc; omega)) (fun c hc => f c (by simp only [List.mem_cons, List.not_mem_nil, or_false] at hc; omega))), (Ro_c ho (fun c hc => e c (by simp only [List.mem_cons, List.not_mem_nil, or_false] at hc; omega)) (fun c hc => f c (by simp only [List.mem_cons, List.not_mem_nil, or_false] at hc; omega))), fun c hcc => ?_, ?_, ⟨?_, ?_⟩, fun c hcc => ?_, (Rt_c ht' (fun c hc => e c (by simp only [List.mem_cons, List.not_mem_nil, or_false] at hc; omega)) (fun c hc => f c (by simp only [List.mem_cons, List.not_mem_nil, or_false] at hc; omega)) g), ⟨fun y hy => by rw [f 117 (by omega), e 7 (by omega)]; exact hx.1 y hy, fun y k hy hk hn => by rw [e 20 (by omega)] at hn; rw [b115, if_neg (fun z => hn (by rw [show y = t by omega]; exact ht))]; exact hx.2 y k hy hk hn⟩, ?_⟩
  · rw [f 100 (by omega), e 0 (by omega)]; exact h0.1
  · rw [f 101 (by omega), e 2 (by omega)]; exact h0.2.1
  · rw [f 102 (by omega), e 1 (by omega)]; exact h0.2.2.1
  · rw [f 118 (by omega)]; exact h0.2.2.2.1
  · rw [f 135 (by omega)]; exact h0.2.2.2.2.1
  · rw [b143, a5]
  · rw [e 0 (by omega), e 1 (by omega)]; exact h0.2.2.2.2.2.2
  · rw [e 20 (by omega)] at hcc
    obtain ⟨q1, q2⟩ := hp c hcc
    by_cases z : t = c
    · subst z
      refine ⟨t8, ?_⟩
      unfold pP
      rw [e 23 (by omega), e 24 (by omega), e 26 (by omega), f 116 (by omega), f 124 (by omega), a25, if_pos rfl, M, if_pos ⟨rfl, hm.1⟩]
      refine ⟨fun k hk => ?_, ?_, by omega, by omega, by omega, fun k k' hk hk' h1 h2 => ?_, fun j hj => ?_, fun k hk h0 hu => ?_, fun j j' hjj hj' => ?_, fun k h1 h2 => ?_, fun k k' h1 h1' h2 h2' h3 => ?_⟩
      · rw [b115]
        split
        · omega
        · exact p1 k hk
      · have E := sm_up (f := fun k => if 0 < w 115 (4 * t + k) then 1 else 0) (g := fun k => if 0 < r_ent (r_pf w (4 * t + q)) i t (w 143 0) m 115 (4 * t + k) then 1 else 0) (a := q) 4 hq (fun k hk hne => by
          show (if 0 < r_ent (r_pf w (4 * t + q)) i t (w 143 0) m 115 (4 * t + k) then (1 : Int) else 0) = _
          rw [b115, if_neg (show ¬ 4 * t + k = 4 * t + q by omega)])
        rw [E, ← p2, b115, if_pos (show 4 * t + q = 4 * t + q from rfl), if_pos (show 0 < v 5 0 + 1 by omega), if_neg (show ¬ 0 < w 115 (4 * t + q) by omega)]
        omega
      · rw [b115] at h1 h2
        rw [b115] at h2
        by_cases z : k = q <;> by_cases z' : k' = q
        · omega
        · rw [if_pos (by omega), if_neg (by omega)] at h2
          have := lo k' hk' (by omega)
          omega
        · rw [if_neg (by omega), if_pos (by omega)] at h2
          rw [if_neg (by omega)] at h1
          have := lo k hk (by omega)
          omega
        · rw [if_neg (by omega), if_neg (by omega)] at h2
          rw [if_neg (by omega)] at h1
          exact p6 k k' hk hk' h1 h2
      · omega
      · rw [b115] at h0 hu
        exfalso
        by_cases z : k = q
        · rw [if_pos (by omega)] at hu
          exact hu ((push_usd P hi hd _).mpr (Or.inr (by omega)))
        · rw [if_neg (by omega)] at h0 hu
          obtain ⟨j, j1, _⟩ := p8 k hk h0 (fun z => hu ((push_usd P hi hd _).mpr (Or.inl z)))
          omega
      · omega
      · rw [push_inC P hi hd] at h1
        rw [P.2.2.1]
        by_cases z : k = i + 8 * (v 10 i).toNat
        · rw [if_pos z]; exact ⟨q, hq, by rw [b115, if_pos rfl]⟩
        · rw [P.2.1, if_neg z] at h2
          rw [if_neg z]
          obtain ⟨k2, z1, z2⟩ := p10 k (h1.resolve_right z) h2
          have := (hw.1 k (h1.resolve_right z)).2.1
          exact ⟨k2, z1, by rw [b115, if_neg (fun y => by rw [y] at z2; omega)]; exact z2⟩
      · rw [push_inC P hi hd] at h1 h1'
        rw [P.2.1] at h2 h2'
        rw [P.2.2.1, P.2.2.1] at h3
        by_cases z : k = i + 8 * (v 10 i).toNat <;> by_cases z' : k' = i + 8 * (v 10 i).toNat
        · rw [z, z']
        · rw [if_pos z, if_neg z'] at h3
          have := (hw.1 k' (h1'.resolve_right z')).2.2
          omega
        · rw [if_neg z, if_pos z'] at h3
          have := (hw.1 k (h1.resolve_right z)).2.2
          omega
        · rw [if_neg z, if_neg z'] at h3
          rw [if_neg z] at h2
          rw [if_neg z'] at h2'
          exact p11 k k' (h1.resolve_right z) (h1'.resolve_right z') h2 h2' h3
    · refine ⟨q1, push_pP P hi hd q2 z (fun k hk z2 => ?_) (by rw [e 23 (by omega)]) (by rw [e 24 (by omega)]) (by rw [a25, if_neg (by omega)]) (fun j => by rw [e 26 (by omega)]) (fun k hk => by rw [b115, if_neg (by omega)]) (fun k _ => by rw [f 116 (by omega)]) (by rw [f 124 (by omega)])⟩
      have o := (hw.2.1 c hcc k hk (by omega)).2
      omega
  · refine push_Re P hi hd he (fun c hc => e c (by simp only [List.mem_cons, List.not_mem_nil, or_false] at hc; omega)) (fun c hc => f c (by simp only [List.mem_cons, List.not_mem_nil, or_false] at hc; omega)) (fun s _ => ⟨by rw [e 36 (by omega)], by rw [e 37 (by omega)], by rw [f 121 (by omega)]⟩) (fun s h1 h2 _ => ?_)
    omega
  · rw [e143]
    rw [e143] at f
    refine push_cP P (isPush_re isPush_ent (fun c hc => r_pf_c ?_) (fun c hc => rfl)) hi hd hl hm (fun c hc => e c (by simp only [List.mem_cons, List.not_mem_nil, or_false] at hc; omega)) (fun c hc => f c (by simp only [List.mem_cons, List.not_mem_nil, or_false] at hc; omega)) hc.1
    simp only [List.mem_cons, List.not_mem_nil, or_false] at hc
    omega
  · unfold a_live5
    rw [e 20 (by omega), f 132 (by omega)]
    exact hc.2
  · rw [e 20 (by omega)] at hcc
    obtain ⟨m1, m2⟩ := hmm c hcc
    rw [M, M, ← m1, ← m2, e 32 (by omega), e 33 (by omega), if_neg (fun z => by rw [← z.1] at hcc; omega), if_neg (fun z => by rw [← z.1] at hcc; omega)]
    omega
  · refine ⟨?_, fun c hcc k hk h0 => ?_, fun s hs => ?_, fun c hcc h1 => ?_⟩
    · rw [a5]
      exact push_own P hi hd (n := v 5 0) (by omega) (fun y _ hy => ownU_o hy) ⟨ownU_s, by omega, by omega⟩ hw.1
    · rw [e 20 (by omega)] at hcc
      rw [b115] at h0 ⊢
      rw [a5]
      by_cases z : 4 * c + k = 4 * t + q
      · rw [if_pos z]
        rw [show v 5 0 + 1 - 1 = v 5 0 by omega, ownU_s]
        omega
      · rw [if_neg z] at h0 ⊢
        obtain ⟨z1, z2⟩ := hw.2.1 c hcc k hk h0
        exact ⟨by rw [ownU_o (by omega)]; exact z1, by omega⟩
    · obtain ⟨z1, z2, z3⟩ := hw.2.2.1 s hs
      rw [e 35 (by omega), a5]
      exact ⟨by rw [ownU_o z3]; exact z1, z2, by omega⟩
    · rw [e 20 (by omega)] at hcc
      rw [f 109 (by omega)] at h1
      obtain ⟨z1, z2, z3⟩ := hw.2.2.2 c hcc h1
      rw [f 110 (by omega), a5]
      exact ⟨by rw [ownU_o z3]; exact z1, z2, by omega⟩
end
