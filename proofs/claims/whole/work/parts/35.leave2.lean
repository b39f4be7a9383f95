/-! A method ends in a session, in a pool. -/
section
variable {v v' w w' : SV} {L L' : SL} {own : Int → Nat}
def r_use (w : SV) (s : Nat) : SV := up2 (up2 (up2 w 122 s (w 124 0)) 123 s (w 101 0)) 124 0 (w 124 0 + 1)
theorem r_use_c {s c : Nat} (h : c ≠ 122 ∧ c ≠ 123 ∧ c ≠ 124) : r_use w s c = w c := by
  funext j
  unfold r_use
  rw [up2_c h.2.2, up2_c h.2.1, up2_c h.1]
noncomputable def r_ls (w : SV) (s : Nat) (g : Prop) (k x : Int) : SV := cif g (r_note (up2 (r_use w s) 121 s 0) k 0 x) (up2 (r_use w s) 121 s 1)
theorem r_ls_c {s c : Nat} {g : Prop} {k x : Int} (h : c ≠ 121 ∧ c ≠ 122 ∧ c ≠ 123 ∧ c ≠ 124 ∧ c ≠ 144 ∧ c ≠ 145) : r_ls w s g k x c = w c := by
  unfold r_ls cif
  split
  · rw [r_note_c (by omega), show up2 (r_use w s) 121 s 0 c = r_use w s c from funext fun j => up2_c h.1]
    exact r_use_c (by omega)
  · rw [show up2 (r_use w s) 121 s 1 c = r_use w s c from funext fun j => up2_c h.1]
    exact r_use_c (by omega)
theorem r_ls_v {s : Nat} {g : Prop} {k x : Int} : (∀ j, r_ls w s g k x 121 j = if j = s then cif g 0 1 else w 121 j) ∧ (∀ j, r_ls w s g k x 122 j = if j = s then w 124 0 else w 122 j) ∧ (∀ j, r_ls w s g k x 123 j = if j = s then w 101 0 else w 123 j) ∧ r_ls w s g k x 124 0 = w 124 0 + 1 := by
  unfold r_ls
  by_cases z : g
  · simp only [cif_t z]
    refine ⟨fun j => ?_, fun j => ?_, fun j => ?_, ?_⟩
    · rw [show r_note (up2 (r_use w s) 121 s 0) k 0 x 121 j = up2 (r_use w s) 121 s 0 121 j from congrFun (r_note_c (by omega)) j]
      unfold up2 r_use up2; simp
    · rw [show r_note (up2 (r_use w s) 121 s 0) k 0 x 122 j = up2 (r_use w s) 121 s 0 122 j from congrFun (r_note_c (by omega)) j]
      unfold up2 r_use up2; simp
    · rw [show r_note (up2 (r_use w s) 121 s 0) k 0 x 123 j = up2 (r_use w s) 121 s 0 123 j from congrFun (r_note_c (by omega)) j]
      unfold up2 r_use up2; simp
    · rw [show r_note (up2 (r_use w s) 121 s 0) k 0 x 124 0 = up2 (r_use w s) 121 s 0 124 0 from congrFun (r_note_c (by omega)) 0]
      unfold up2 r_use up2; simp
  · simp only [cif_f z]
    refine ⟨fun j => ?_, fun j => ?_, fun j => ?_, ?_⟩ <;> (unfold up2 r_use up2; simp)
/-- a session goes at its method's end -/
def goneP (b m : Int) (o : Nat) : Prop := b = 1 ∨ m = 1 ∨ m = 2 ∧ o = 0
theorem gb3_v {t o : Nat} {x m b : Int} (ht : v 20 t = 3) (h3 : 0 ≤ v 3 0 ∧ v 3 0 < 3200) : (∀ c, (c ≠ 3 ∧ c ≠ 4 ∧ c ≠ 6 ∧ c ≠ 36 ∧ c ≠ 37 ∧ c ≠ 38 ∧ c ≠ 39) → m_gb v t x m o b c = v c) ∧ m_gb v t x m o b 3 0 = v 3 0 + 1 ∧ (∀ j, m_gb v t x m o b 36 j = if j = t then cif (goneP b m o) 0 (v 36 t) else v 36 j) ∧ (∀ j, m_gb v t x m o b 37 j = if j = t then 0 else v 37 j) ∧ (∀ j, m_gb v t x m o b 38 j = if j = t then v 3 0 + 1 else v 38 j) ∧ (∀ j, m_gb v t x m o b 39 j = if j = t then v 2 0 else v 39 j) := by
  have s3 : wr (v 3 0 + 1) = v 3 0 + 1 := wr_s (by constructor <;> omega)
  obtain ⟨k, ek⟩ : ∃ k : Int, m_gb v t x m o b = cif (goneP b m o) (m_vanish (m_markUsed (up2 v 37 t 0) t) t k) (m_markUsed (up2 v 37 t 0) t) := by
    unfold m_gb goneP
    rw [cif_f (by omega), cif_f (by omega)]
    by_cases z : b = 1
    · exact ⟨3, by rw [cif_t z, cif_t (Or.inl z)]⟩
    · refine ⟨2, ?_⟩
      rw [cif_f z]
      by_cases z2 : m = 1 ∨ m = 2 ∧ o = 0
      · rw [cif_t (Or.inr z2), cif_t (by omega)]
      · rw [cif_f (by omega), cif_f (fun q => q.elim z z2)]
  have eM : ∀ c, (c ≠ 3 ∧ c ≠ 37 ∧ c ≠ 38 ∧ c ≠ 39) → m_markUsed (up2 v 37 t 0) t c = v c := by
    intro c hc
    funext j
    unfold m_markUsed
    rw [up2_c (by omega), up2_c (by omega), up2_c (by omega), up2_c (by omega)]
  have a3 : m_markUsed (up2 v 37 t 0) t 3 0 = v 3 0 + 1 := by
    unfold m_markUsed up2; simp [s3]
  have a37 : ∀ j, m_markUsed (up2 v 37 t 0) t 37 j = if j = t then 0 else v 37 j := by
    intro j; unfold m_markUsed up2; simp
  have a38 : ∀ j, m_markUsed (up2 v 37 t 0) t 38 j = if j = t then v 3 0 + 1 else v 38 j := by
    intro j; unfold m_markUsed up2; simp [s3]
  have a39 : ∀ j, m_markUsed (up2 v 37 t 0) t 39 j = if j = t then v 2 0 else v 39 j := by
    intro j; unfold m_markUsed up2; simp
  rw [ek]
  by_cases z : goneP b m o
  · simp only [cif_t z]
    refine ⟨fun c hc => ?_, ?_, fun j => ?_, fun j => ?_, fun j => ?_, fun j => ?_⟩
    · exact (funext fun j => m_vanish_c (by omega)).trans (eM c (by omega))
    · rw [m_vanish_c (by omega), a3]
    · unfold m_vanish
      rw [m_note_c (by omega)]
      by_cases y : j = t
      · rw [y, up2_s, if_pos rfl]
      · rw [up2_i y, if_neg y, eM 36 (by omega)]
    · rw [m_vanish_c (by omega), a37]
    · rw [m_vanish_c (by omega), a38]
    · rw [m_vanish_c (by omega), a39]
  · simp only [cif_f z]
    refine ⟨fun c hc => eM c (by omega), a3, fun j => ?_, a37, a38, a39⟩
    rw [eM 36 (by omega)]
    by_cases y : j = t
    · rw [if_pos y, y]
    · rw [if_neg y]
theorem RA_leave3 (hW : WF v L) (h : RA own v L w) {i s o : Nat} (hi : i < 8) (hd : 0 < v 10 i ∧ v 10 i ≤ 4) (hl : v 11 i < 0) (ht : v 16 (emA v i) = (8 + s : Nat)) (hk2 : v 20 (8 + s) = 3) (h3 : 0 ≤ v 3 0 ∧ v 3 0 < 3200) (k : Int) : RA own (emG v i o) L (r_ls (r_left w i (v 17 (emA v i))) s (goneP (emB v o) (v 18 (emA v i)) o) k (v 17 (emA v i))) := by
  have hin := emA_in (v := v) hi hd
  have eG := emG_e (o := o) ht
  obtain ⟨g1, g2, g3, g4, g5, g6⟩ := gb3_v (v := emN v i) (t := 8 + s) (o := o) (x := v 17 (emA v i)) (m := v 18 (emA v i)) (b := emB v o) (by rw [emN_c (by omega)]; exact hk2) (by rw [emN_c (by omega)]; exact h3)
  rw [← eG] at g1 g2 g3 g4 g5 g6
  obtain ⟨r1, r2, r3, r4⟩ := r_ls_v (w := r_left w i (v 17 (emA v i))) (s := s) (g := goneP (emB v o) (v 18 (emA v i)) o) (k := k) (x := v 17 (emA v i))
  have P : isPop v (emG v i o) i := isPop_e isPop_n (fun c hc => g1 c (by simp only [List.mem_cons, List.not_mem_nil, or_false] at hc; omega))
  have e : ∀ c, (c ≠ 3 ∧ c ≠ 4 ∧ c ≠ 6 ∧ c ≠ 10 ∧ c ≠ 36 ∧ c ≠ 37 ∧ c ≠ 38 ∧ c ≠ 39) → emG v i o c = v c := fun c hc => (g1 c (by omega)).trans (emN_f (by omega))
  have f : ∀ c, (c ≠ 121 ∧ c ≠ 122 ∧ c ≠ 123 ∧ c ≠ 124 ∧ c ≠ 125 ∧ c ≠ 144 ∧ c ≠ 145) → r_ls (r_left w i (v 17 (emA v i))) s (goneP (emB v o) (v 18 (emA v i)) o) k (v 17 (emA v i)) c = w c := fun c hc => (r_ls_c (by omega)).trans (r_left_c (by omega))
  have g : ∀ l, l < 100 ∨ 200 ≤ l → L l = L l := fun _ _ => rfl
  have l24 := hW.2.2.2.2.1.2.1
  rw [emN_c (by omega)] at g2 g5 g6
  have rl : ∀ c, (c ≠ 125 ∧ c ≠ 144 ∧ c ≠ 145) → r_left w i (v 17 (emA v i)) c = w c := fun c hc => r_left_c hc
  rw [rl 124 (by omega)] at r2 r4
  rw [rl 101 (by omega)] at r3
  have hn0 := hW.2.2.2.2.2.2
  obtain ⟨h0, hk, hn, hs, ho, hp, he, hc, hmm, ht', hx, hw⟩ := h
  have M := fun s l => pop_mts P hi hd s l
  obtain ⟨x1, x2, x3⟩ := hw.1 _ hin
  rw [ht] at x1
  have hs24 : s < 24 := by have := (WF_tg hW (Or.inr (Or.inr hk2))).1; omega
  obtain ⟨sl, -, ep⟩ : s < (L 0).length ∧ v 20 (8 + s) = 3 ∧ eP v w s := by
    rcases he.1 s hs24 with q | q
    · exact q
    · omega
  refine ⟨(R0_c h0 (fun c hc => e c (by simp only [List.mem_cons, List.not_mem_nil, or_false] at hc; omega)) (fun c hc => f c (by simp only [List.mem_cons, List.not_mem_nil, or_false] at hc; omega)) g), (Rk_c hk (fun c hc => e c (by simp only [List.mem_cons, List.not_mem_nil, or_false] at hc; omega)) (fun c hc => f c (by simp only [List.mem_cons, List.not_mem_nil, or_false] at hc; omega))), (Rn_c hn (fun c hc => e c (by simp only [List.mem_cons, List.not_mem_nil, or_false] at hc; omega)) (fun c hc => f c (by simp only [List.mem_cons, List.not_mem_nil, or_false] at hc; omega)) g), (Rs_c hs (fun c hc => e c (by simp only [List.mem_cons, List.not_mem_nil, or_false] at hc; omega)) (fun c hc => f c (by simp only [List.mem_cons, List.not_mem_nil, or_false] at hc; omega))), (Ro_c ho (fun c hc => e c (by simp only [List.mem_cons, List.not_mem_nil, or_false] at hc; omega)) (fun c hc => f c (by simp only [List.mem_cons, List.not_mem_nil, or_false] at hc; omega))), fun c hcc => ?_, ?_, ⟨?_, ?_⟩, fun c hcc => ?_, (Rt_c ht' (fun c hc => e c (by simp only [List.mem_cons, List.not_mem_nil, or_false] at hc; omega)) (fun c hc => f c (by simp only [List.mem_cons, List.not_mem_nil, or_false] at hc; omega)) g), (Rx_c hx (fun c hc => e c (by simp only [List.mem_cons, List.not_mem_nil, or_false] at hc; omega)) (fun c hc => f c (by simp only [List.mem_cons, List.not_mem_nil, or_false] at hc; omega))), ?_⟩
  · rw [e 20 (by omega)] at hcc
    obtain ⟨q1, q2⟩ := hp c hcc
    refine ⟨q1, pop_pP P hi hd q2 (by omega) (fun k hk z => ?_) (by rw [e 23 (by omega)]) (by rw [e 24 (by omega)]) (by rw [e 25 (by omega)]) (fun j => by rw [e 26 (by omega)]) (fun k _ => by rw [f 115 (by omega)]) (fun k _ => by rw [f 116 (by omega)]) (by rw [r4]; omega)⟩
    have o := (hw.2.1 c hcc k hk (by omega)).1
    rw [z, show v 17 (emA v i) + 1 - 1 = v 17 (emA v i) by omega] at o
    omega
  · refine pop_Re P hi hd l24 he (fun c hc => e c (by simp only [List.mem_cons, List.not_mem_nil, or_false] at hc; omega)) (fun c hc => f c (by simp only [List.mem_cons, List.not_mem_nil, or_false] at hc; omega)) (by rw [g2]; omega) (by rw [r4]; omega) (fun s' hs' => ?_) (fun s' h1 h2 _ => ?_)
    · have ne : ¬ 8 + s' = 8 + s := by omega
      have ne2 : ¬ s' = s := by omega
      rw [g3, g4, g5, g6, r1, r2, r3, if_neg ne, if_neg ne, if_neg ne, if_neg ne, if_neg ne2, if_neg ne2, if_neg ne2, emN_c (by omega), emN_c (by omega), emN_c (by omega), emN_c (by omega), rl 121 (by omega), rl 122 (by omega), rl 123 (by omega)]
      exact ⟨rfl, rfl, rfl, rfl, rfl, rfl, rfl⟩
    · have h2 : s' = s := by omega
      subst h2
      obtain ⟨c1, c2, c3, c4, c5, c6, c7, c8, c9, c10, c11, c12, c13, c14, c15, c16⟩ := ep
      have m1 := mts_1 (l := 0) hin ht (by
        have := (em_row (own := own) (L := L) (w := w) ⟨h0, hk, hn, hs, ho, hp, he, hc, hmm, ht', hx, hw⟩ hW hi hd.1)
        obtain ⟨_, _, _, _, _, _, _, q, _⟩ := this
        exact q)
      have e36 : v 36 (8 + s') = 1 := c15 (by omega)
      refine ⟨?_, by rw [g5, if_pos rfl]; omega, by rw [r2, if_pos rfl]; omega⟩
      have m0 : 0 ≤ v 18 (emA v i) := by
        have := (em_row (own := own) (L := L) (w := w) ⟨h0, hk, hn, hs, ho, hp, he, hc, hmm, ht', hx, hw⟩ hW hi hd.1)
        obtain ⟨_, _, _, _, _, _, _, q, _⟩ := this
        exact q
      unfold eP
      rw [e 21 (by omega), e 22 (by omega), e 34 (by omega), e 35 (by omega), e 40 (by omega), e 42 (by omega), f 119 (by omega), f 120 (by omega), g2, g3, g4, g5, g6, r1, r2, r3, r4, if_pos rfl, if_pos rfl, if_pos rfl, if_pos rfl, if_pos rfl, if_pos rfl, if_pos rfl, M, if_pos ⟨ht, m0⟩, emN_c (by omega), e36, P.2.1, P.2.2.1]
      refine ⟨c1, c2, c3, c4, c5, ?_, h0.2.1, hn0, by omega, by omega, c11, c12, by omega, by omega, fun q => absurd rfl q, fun k k1 k2 => c16 k ((pop_inC P hi hd k).mp k1).1 k2⟩
      by_cases z : goneP (emB v o) (v 18 (emA v i)) o
      · rw [cif_t z]; exact Or.inl ⟨rfl, rfl⟩
      · rw [cif_f z]; exact Or.inr (Or.inl ⟨rfl, rfl⟩)
  · exact pop_cP P (isPop_re isPop_left (fun c hc => r_ls_c (by simp only [List.mem_cons, List.not_mem_nil, or_false] at hc; omega))) hi hd hl (fun c hc => e c (by simp only [List.mem_cons, List.not_mem_nil, or_false] at hc; omega)) (fun c hc => f c (by simp only [List.mem_cons, List.not_mem_nil, or_false] at hc; omega)) hc.1
  · unfold a_live5
    rw [e 20 (by omega), f 132 (by omega)]
    exact hc.2
  · rw [e 20 (by omega)] at hcc
    obtain ⟨n1, n2⟩ := hmm c hcc
    have nt : ¬ ((8 + s : Nat) : Int) = (c : Nat) := fun z => by
      have : 8 + s = c := by omega
      subst this
      omega
    rw [M, M, ← n1, ← n2, e 32 (by omega), e 33 (by omega), ht, if_neg (fun z => nt z.1), if_neg (fun z => nt z.1)]
    omega
  · refine ⟨?_, ?_, ?_, ?_⟩
    · rw [e 5 (by omega)]
      exact pop_own P hi hd _ hw.1
    · rw [e 20 (by omega), e 5 (by omega), f 115 (by omega)]
      exact hw.2.1
    · rw [e 35 (by omega), e 5 (by omega)]
      exact hw.2.2.1
    · rw [e 20 (by omega), e 5 (by omega), f 109 (by omega), f 110 (by omega)]
      exact hw.2.2.2
-- pools
noncomputable def r_lp (w : SV) (cell : Nat) (bad : Prop) : SV := up2 (up2 (cif bad (up2 w 115 cell 0) w) 116 cell (w 124 0)) 124 0 (w 124 0 + 1)
theorem r_lp_c {cell c : Nat} {bad : Prop} (h : c ≠ 115 ∧ c ≠ 116 ∧ c ≠ 124) : r_lp w cell bad c = w c := by
  funext j
  unfold r_lp
  rw [up2_c h.2.2, up2_c h.2.1]
  unfold cif
  split
  · rw [up2_c h.1]
  · rfl
theorem r_lp_v {cell : Nat} {bad : Prop} : (∀ j, r_lp w cell bad 115 j = if j = cell then cif bad 0 (w 115 j) else w 115 j) ∧ (∀ j, r_lp w cell bad 116 j = if j = cell then w 124 0 else w 116 j) ∧ r_lp w cell bad 124 0 = w 124 0 + 1 := by
  unfold r_lp
  refine ⟨fun j => ?_, fun j => ?_, ?_⟩
  · rw [up2_c (by omega), up2_c (by omega)]
    by_cases z : bad
    · rw [cif_t z, cif_t z]; unfold up2; simp
    · rw [cif_f z, cif_f z]; simp
  · rw [up2_c (by omega)]
    unfold up2
    by_cases z : j = cell
    · simp [z]
    · simp only [true_and, if_neg z]
      unfold cif
      split <;> simp
  · rw [up2_s]
noncomputable def r_lpn (w : SV) (cell : Nat) (bad : Prop) (x : Int) : SV := cif bad (r_note (r_lp w cell bad) 3 0 x) (r_lp w cell bad)
theorem r_lpn_e {cell c : Nat} {bad : Prop} {x : Int} (h : c ≠ 144 ∧ c ≠ 145) : r_lpn w cell bad x c = r_lp w cell bad c := by
  unfold r_lpn cif
  split
  · exact r_note_c h
  · rfl
theorem RA_leave1 (hW : WF v L) (h : RA own v L w) {i t o q : Nat} (hi : i < 8) (hd : 0 < v 10 i ∧ v 10 i ≤ 4) (hl : v 11 i < 0) (ht : v 16 (emA v i) = t) (hk1 : v 20 t = 1) (hq : q < 4) (hqx : w 115 (4 * t + q) = v 17 (emA v i) + 1) : RA own (emG v i o) L (r_lpn (r_left w i (v 17 (emA v i))) (4 * t + q) (emB v o = 1) (v 17 (emA v i))) := by
  have hin := emA_in (v := v) hi hd
  have eG := emG_e (o := o) ht
  obtain ⟨t2, et2, t32, tl, _, _, _, m0, m1⟩ := em_row h hW hi hd.1
  have et3 : t2 = t := by omega
  subst et3
  obtain ⟨r1, r2, r4⟩ := r_lp_v (w := r_left w i (v 17 (emA v i))) (cell := 4 * t2 + q) (bad := emB v o = 1)
  have rl : ∀ c, (c ≠ 125 ∧ c ≠ 144 ∧ c ≠ 145) → r_left w i (v 17 (emA v i)) c = w c := fun c hc => r_left_c hc
  rw [rl 124 (by omega)] at r2 r4
  rw [rl 115 (by omega)] at r1
  rw [rl 116 (by omega)] at r2
  have hb01 : emB v o = 1 ∨ emB v o = 0 := by unfold emB cif; split; exact Or.inl rfl; exact Or.inr rfl
  have l24 := hW.2.2.2.2.1.2.1
  have g : ∀ l, l < 100 ∨ 200 ≤ l → L l = L l := fun _ _ => rfl
  obtain ⟨t8, p1, p2, p3, p4, p5, p6, p7, p8, p9, p10, p11⟩ := h.2.2.2.2.2.1 t2 hk1
  have mm := mts_1 (l := 0) hin ht m0
  have s25 : v 25 t2 ≤ 4 := by
    rcases h.2.1 t2 t8 with ⟨_, z | z | z, _⟩ | z
    · have := z.2.2.2.2.2.2.2.2; omega
    · have := z.1; omega
    · have := z.1; omega
    · have := z.2.1; omega
  obtain ⟨x, ex⟩ : ∃ x, v 17 (emA v i) = x := ⟨_, rfl⟩
  have ux : usd v x := ⟨_, hin, ex⟩
  -- the class's values
  have e24 : emN v i 24 t2 = v 24 t2 := emN_c (by omega)
  have e25 : emN v i 25 t2 = v 25 t2 := emN_c (by omega)
  have gv : ∃ w0, (w0 = emN v i) ∧ (emB v o = 1 → emG v i o = m_note (up2 w0 25 t2 (v 25 t2 - 1)) 3 0 x) ∧ (emB v o = 0 → emG v i o = up2 (up2 w0 26 (t2 + 32 * (v 24 t2).toNat) x) 24 t2 (v 24 t2 + 1)) := by
    refine ⟨_, rfl, fun z => ?_, fun z => ?_⟩
    · rw [eG]
      unfold m_gb
      rw [cif_t (by rw [emN_c (by omega)]; exact hk1), cif_t z, e25, wr_s (by constructor <;> omega), ex]
    · rw [eG]
      unfold m_gb
      rw [cif_t (by rw [emN_c (by omega)]; exact hk1), cif_f (by omega), cif_t (by omega), e24, ex]
  obtain ⟨w0, rfl, gb, gg⟩ := gv
  have e2 : ∀ c, (c ≠ 4 ∧ c ≠ 6 ∧ c ≠ 24 ∧ c ≠ 25 ∧ c ≠ 26) → emG v i o c = emN v i c := by
    intro c hc
    rcases hb01 with z | z
    · rw [gb z]; exact (m_note_f (by omega)).trans (funext fun j => up2_c (by omega))
    · rw [gg z]; funext j; rw [up2_c (by omega), up2_c (by omega)]
  have P : isPop v (emG v i o) i := isPop_e isPop_n (fun c hc => e2 c (by simp only [List.mem_cons, List.not_mem_nil, or_false] at hc; omega))
  have e : ∀ c, (c ≠ 4 ∧ c ≠ 6 ∧ c ≠ 10 ∧ c ≠ 24 ∧ c ≠ 25 ∧ c ≠ 26) → emG v i o c = v c := fun c hc => (e2 c (by omega)).trans (emN_f (by omega))
  have f0 : ∀ c, (c ≠ 144 ∧ c ≠ 145) → r_lpn (r_left w i (v 17 (emA v i))) (4 * t2 + q) (emB v o = 1) (v 17 (emA v i)) c = r_lp (r_left w i (v 17 (emA v i))) (4 * t2 + q) (emB v o = 1) c := fun c hc => r_lpn_e hc
  have f : ∀ c, (c ≠ 115 ∧ c ≠ 116 ∧ c ≠ 124 ∧ c ≠ 125 ∧ c ≠ 144 ∧ c ≠ 145) → r_lpn (r_left w i (v 17 (emA v i))) (4 * t2 + q) (emB v o = 1) (v 17 (emA v i)) c = w c := fun c hc => (f0 c (by omega)).trans ((r_lp_c (by omega)).trans (r_left_c (by omega)))
  have o24 : ∀ c, c ≠ t2 → emG v i o 24 c = v 24 c := by
    intro c hc
    rcases hb01 with z | z
    · rw [gb z, m_note_c (by omega), up2_c (by omega), emN_c (by omega)]
    · rw [gg z, up2_i hc, up2_c (by omega), emN_c (by omega)]
  have o25 : ∀ c, c ≠ t2 → emG v i o 25 c = v 25 c := by
    intro c hc
    rcases hb01 with z | z
    · rw [gb z, m_note_c (by omega), up2_i hc, emN_c (by omega)]
    · rw [gg z, up2_c (by omega), up2_c (by omega), emN_c (by omega)]
  have o26 : ∀ k, k ≠ t2 + 32 * (v 24 t2).toNat → emG v i o 26 k = v 26 k := by
    intro c hc
    rcases hb01 with z | z
    · rw [gb z, m_note_c (by omega), up2_c (by omega), emN_c (by omega)]
    · rw [gg z, up2_c (by omega), up2_i hc, emN_c (by omega)]
  have U : ∀ y, y ≠ x → (usd (emG v i o) y ↔ usd v y) := fun y hy => pop_usd P hi hd y (by rw [ex]; exact hy)
  have Ux : ¬ usd (emG v i o) x := by
    rintro ⟨k, hk, ek⟩
    rw [pop_inC P hi hd] at hk
    rw [P.2.2.1] at ek
    have k1 := (h.2.2.2.2.2.2.2.2.2.2.2.1 k hk.1).1
    have k2 := (h.2.2.2.2.2.2.2.2.2.2.2.1 _ hin).1
    rw [ek] at k1
    rw [ex, ht] at k2
    exact hk.2 (p11 k _ hk.1 hin (by omega) ht (by rw [ek, ex]))
  have R1 : ∀ j, r_lpn (r_left w i (v 17 (emA v i))) (4 * t2 + q) (emB v o = 1) (v 17 (emA v i)) 115 j = if j = 4 * t2 + q then cif (emB v o = 1) 0 (w 115 j) else w 115 j := fun j => (congrFun (f0 115 (by omega)) j).trans (r1 j)
  have R2 : ∀ j, r_lpn (r_left w i (v 17 (emA v i))) (4 * t2 + q) (emB v o = 1) (v 17 (emA v i)) 116 j = if j = 4 * t2 + q then w 124 0 else w 116 j := fun j => (congrFun (f0 116 (by omega)) j).trans (r2 j)
  have R4 : r_lpn (r_left w i (v 17 (emA v i))) (4 * t2 + q) (emB v o = 1) (v 17 (emA v i)) 124 0 = w 124 0 + 1 := (congrFun (f0 124 (by omega)) 0).trans r4
  have hpop := pop_cP P (isPop_re (isPop_left (w := w) (x := v 17 (emA v i))) (w' := r_lpn (r_left w i (v 17 (emA v i))) (4 * t2 + q) (emB v o = 1) (v 17 (emA v i))) (fun c hc => (f0 c (by simp only [List.mem_cons, List.not_mem_nil, or_false] at hc; omega)).trans (r_lp_c (by simp only [List.mem_cons, List.not_mem_nil, or_false] at hc; omega)))) hi hd hl (fun c hc => e c (by simp only [List.mem_cons, List.not_mem_nil, or_false] at hc; omega)) (fun c hc => f c (by simp only [List.mem_cons, List.not_mem_nil, or_false] at hc; omega)) h.2.2.2.2.2.2.2.1.1
  generalize r_lpn (r_left w i (v 17 (emA v i))) (4 * t2 + q) (emB v o = 1) (v 17 (emA v i)) = w1 at *
  obtain ⟨h0, hk, hn, hs, ho, hp, he, hc, hmm, ht', hx, hw⟩ := h
  have M := fun s l => pop_mts P hi hd s l
  obtain ⟨x1, x2, x3⟩ := hw.1 _ hin
  rw [ht] at x1
  refine ⟨(R0_c h0 (fun c hc => e c (by simp only [List.mem_cons, List.not_mem_nil, or_false] at hc; omega)) (fun c hc => f c (by simp only [List.mem_cons, List.not_mem_nil, or_false] at hc; omega)) g), (Rk_c hk (fun c hc => e c (by simp only [List.mem_cons, List.not_mem_nil, or_false] at hc; omega)) (fun c hc => f c (by simp only [List.mem_cons, List.not_mem_nil, or_false] at hc; omega))), (Rn_c hn (fun c hc => e c (by simp only [List.mem_cons, List.not_mem_nil, or_false] at hc; omega)) (fun c hc => f c (by simp only [List.mem_cons, List.not_mem_nil, or_false] at hc; omega)) g), (Rs_c hs (fun c hc => e c (by simp only [List.mem_cons, List.not_mem_nil, or_false] at hc; omega)) (fun c hc => f c (by simp only [List.mem_cons, List.not_mem_nil, or_false] at hc; omega))), (Ro_c ho (fun c hc => e c (by simp only [List.mem_cons, List.not_mem_nil, or_false] at hc; omega)) (fun c hc => f c (by simp only [List.mem_cons, List.not_mem_nil, or_false] at hc; omega))), fun c hcc => ?_, ?_, ⟨hpop, ?_⟩, fun c hcc => ?_, (Rt_c ht' (fun c hc => e c (by simp only [List.mem_cons, List.not_mem_nil, or_false] at hc; omega)) (fun c hc => f c (by simp only [List.mem_cons, List.not_mem_nil, or_false] at hc; omega)) g), ⟨fun y hy => by rw [f 117 (by omega), e 7 (by omega)]; exact hx.1 y hy, fun y k hy hk hn => by rw [e 20 (by omega)] at hn; rw [R1, if_neg (fun z => hn (by rw [show y = t2 by omega]; exact hk1))]; exact hx.2 y k hy hk hn⟩, ?_⟩
  · rw [e 20 (by omega)] at hcc
    obtain ⟨q1, q2⟩ := hp c hcc
    by_cases zc : c = t2
    · subst zc
      refine ⟨t8, ?_⟩
      unfold pP
      rw [e 23 (by omega), M, if_pos ⟨ht, m0⟩, P.2.1, P.2.2.1, R4]
      have inv : ∀ k, inC (emG v i o) k → inC v k ∧ k ≠ emA v i := fun k h1 => (pop_inC P hi hd k).mp h1
      have nq : ∀ k, k < 4 → ∀ y, w 115 (4 * c + k) = y + 1 → y ≠ x → ¬ 4 * c + k = 4 * c + q := by
        intro k hk y h1 h2 z
        rw [z, hqx, ex] at h1
        omega
      have kq : ∀ k, k < 4 → w 115 (4 * c + k) = x + 1 → k = q := fun k hk z => p6 k q hk hq (by omega) (by omega)
      rcases hb01 with z | z
      · have a24 : emG v i o 24 c = v 24 c := by rw [gb z, m_note_c (by omega), up2_c (by omega), emN_c (by omega)]
        have a25 : emG v i o 25 c = v 25 c - 1 := by rw [gb z, m_note_c (by omega), up2_s]
        have a26 : emG v i o 26 = v 26 := by
          rw [gb z]
          funext j
          rw [m_note_c (by omega), up2_c (by omega), emN_c (by omega)]
        have Z : ∀ j, w1 115 j = if j = 4 * c + q then 0 else w 115 j := by
          intro j
          rw [R1, cif_t z]
        rw [a24, a25, a26]
        refine ⟨fun k hk => ?_, ?_, by omega, p4, by omega, fun k k' hk hk' h1 h2 => ?_, fun j hj => ?_, fun k hk h0 hu => ?_, fun j j' hjj hj' k k' hk hk' h1 h2 => ?_, fun k h1 h2 => ?_, fun k k' h1 h1' h2 h2' h3 => p11 k k' (inv k h1).1 (inv k' h1').1 h2 h2' h3⟩
        · rw [Z]
          split
          · omega
          · exact p1 k hk
        · have E := sm_up (f := fun k => if 0 < w 115 (4 * c + k) then 1 else 0) (g := fun k => if 0 < w1 115 (4 * c + k) then 1 else 0) (a := q) 4 hq (fun k hk hne => by
            show (if 0 < w1 115 (4 * c + k) then (1 : Int) else 0) = _
            rw [Z, if_neg (show ¬ 4 * c + k = 4 * c + q by omega)])
          rw [E, ← p2, Z, if_pos (show 4 * c + q = 4 * c + q from rfl), if_neg (show ¬ (0 : Int) < 0 by omega), if_pos (show 0 < w 115 (4 * c + q) by omega)]
          omega
        · rw [Z] at h1 h2
          rw [Z] at h2
          by_cases y : k = q
          · rw [if_pos (by omega)] at h1; omega
          · rw [if_neg (by omega)] at h1 h2
            by_cases y' : k' = q
            · rw [if_pos (by omega)] at h2; omega
            · rw [if_neg (by omega)] at h2
              exact p6 k k' hk hk' h1 h2
        · obtain ⟨k, k1, k0, k2, k3, k4⟩ := p7 j hj
          have ne : v 26 (c + 32 * j) ≠ x := fun y => k4 (by rw [y]; exact ux)
          refine ⟨k, k1, ?_, ?_, ?_, ?_⟩
          · rw [Z, if_neg (nq k k1 _ k2 ne)]; exact k0
          · rw [Z, if_neg (nq k k1 _ k2 ne)]; exact k2
          · rw [R2, if_neg (nq k k1 _ k2 ne)]; omega
          · rw [U _ ne]; exact k4
        · rw [Z] at h0 hu ⊢
          by_cases y : k = q
          · rw [if_pos (by omega)] at h0; omega
          · rw [if_neg (by omega)] at h0 hu ⊢
            rw [U _ (fun y2 => y (kq k hk (by omega)))] at hu
            exact p8 k hk h0 hu
        · obtain ⟨k1, a1, a0, a2, a3, a4⟩ := p7 j (by omega)
          obtain ⟨k1', b1, b0, b2, b3, b4⟩ := p7 j' hj'
          rw [Z] at h1 h2
          by_cases y : k = q
          · rw [if_pos (by omega)] at h1; omega
          · rw [if_neg (by omega)] at h1
            by_cases y' : k' = q
            · rw [if_pos (by omega)] at h2; omega
            · rw [if_neg (by omega)] at h2
              rw [R2, R2, if_neg (by omega), if_neg (by omega)]
              exact p9 j j' hjj hj' k k' hk hk' h1 h2
        · obtain ⟨i1, i2⟩ := inv k h1
          obtain ⟨k2, z1, z2⟩ := p10 k i1 h2
          refine ⟨k2, z1, ?_⟩
          rw [Z, if_neg]
          · exact z2
          · refine nq k2 z1 _ z2 (fun y => i2 ?_)
            exact p11 k _ i1 hin h2 ht (by rw [y, ex])
      · have a24 : emG v i o 24 c = v 24 c + 1 := by rw [gg z, up2_s]
        have a25 : emG v i o 25 c = v 25 c := by rw [gg z, up2_c (by omega), up2_c (by omega), emN_c (by omega)]
        have a26 : emG v i o 26 (c + 32 * (v 24 c).toNat) = x := by rw [gg z, up2_c (by omega), up2_s]
        have a26' : ∀ j : Nat, (j : Int) < v 24 c → emG v i o 26 (c + 32 * j) = v 26 (c + 32 * j) := fun j hj => o26 _ (by omega)
        have Z : w1 115 = w 115 := by
          funext j
          rw [R1, cif_f (by omega)]
          split <;> rfl
        rw [a24, a25, Z]
        refine ⟨p1, p2, p3, by omega, by omega, p6, fun j hj => ?_, fun k hk h0 hu => ?_, fun j j' hjj hj' k k' hk hk' h1 h2 => ?_, fun k h1 h2 => p10 k (inv k h1).1 h2, fun k k' h1 h1' h2 h2' h3 => p11 k k' (inv k h1).1 (inv k' h1').1 h2 h2' h3⟩
        · by_cases y : (j : Int) < v 24 c
          · obtain ⟨k, k1, k0, k2, k3, k4⟩ := p7 j y
            have ne : v 26 (c + 32 * j) ≠ x := fun y => k4 (by rw [y]; exact ux)
            rw [a26' j y]
            refine ⟨k, k1, k0, k2, ?_, ?_⟩
            · rw [R2, if_neg (nq k k1 _ k2 ne)]; omega
            · rw [U _ ne]; exact k4
          · have ej : j = (v 24 c).toNat := by omega
            rw [ej, a26]
            exact ⟨q, hq, by omega, by omega, by rw [R2, if_pos rfl]; omega, Ux⟩
        · by_cases y : k = q
          · exact ⟨(v 24 c).toNat, by omega, by rw [a26, y, hqx, ex]⟩
          · rw [U _ (fun y2 => y (kq k hk (by omega)))] at hu
            obtain ⟨j, j1, j2⟩ := p8 k hk h0 hu
            exact ⟨j, by omega, by rw [a26' j j1]; exact j2⟩
        · rw [a26' j (by omega)] at h1
          obtain ⟨k1, a1, a0, a2, a3, a4⟩ := p7 j (by omega)
          have ne : v 26 (c + 32 * j) ≠ x := fun y => a4 (by rw [y]; exact ux)
          have ek : k = k1 := p6 k k1 hk a1 (by omega) (by omega)
          rw [R2, R2, if_neg (nq k hk _ h1 ne)]
          by_cases y : (j' : Int) < v 24 c
          · rw [a26' j' y] at h2
            obtain ⟨k1', b1, b0, b2, b3, b4⟩ := p7 j' y
            have ne' : v 26 (c + 32 * j') ≠ x := fun y => b4 (by rw [y]; exact ux)
            rw [if_neg (nq k' hk' _ h2 ne')]
            exact p9 j j' hjj y k k' hk hk' h1 h2
          · have ej : j' = (v 24 c).toNat := by omega
            rw [ej, a26] at h2
            rw [if_pos (by rw [kq k' hk' h2]), ek]
            exact a3
    · refine ⟨q1, pop_pP P hi hd q2 (by omega) (fun k hk z => ?_) (by rw [e 23 (by omega)]) (o24 c zc) (o25 c zc) (fun j => o26 _ (by omega)) (fun k hk => by rw [R1, if_neg (by omega)]) (fun k _ => by rw [R2, if_neg (by omega)]) (by rw [R4]; omega)⟩
      have o := (hw.2.1 c hcc k hk (by omega)).1
      rw [z, show v 17 (emA v i) + 1 - 1 = v 17 (emA v i) by omega] at o
      omega
  · refine pop_Re P hi hd l24 he (fun c hc => e c (by simp only [List.mem_cons, List.not_mem_nil, or_false] at hc; omega)) (fun c hc => f c (by simp only [List.mem_cons, List.not_mem_nil, or_false] at hc; omega)) (by rw [e 3 (by omega)]; omega) (by rw [R4]; omega) (fun s _ => ⟨by rw [e 36 (by omega)], by rw [e 37 (by omega)], by rw [e 38 (by omega)], by rw [e 39 (by omega)], by rw [f 121 (by omega)], by rw [f 122 (by omega)], by rw [f 123 (by omega)]⟩) (fun s h1 h2 _ => ?_)
    omega
  · unfold a_live5
    rw [e 20 (by omega), f 132 (by omega)]
    exact hc.2
  · rw [e 20 (by omega)] at hcc
    obtain ⟨n1, n2⟩ := hmm c hcc
    have nt : ¬ ((t2 : Nat) : Int) = (c : Nat) := fun z => by
      have : t2 = c := by omega
      subst this
      omega
    rw [M, M, ← n1, ← n2, e 32 (by omega), e 33 (by omega), ht, if_neg (fun z => nt z.1), if_neg (fun z => nt z.1)]
    omega
  · refine ⟨?_, fun c hcc k hk h0 => ?_, ?_, ?_⟩
    · rw [e 5 (by omega)]
      exact pop_own P hi hd _ hw.1
    · rw [e 20 (by omega)] at hcc
      rw [e 5 (by omega)]
      rw [R1] at h0 ⊢
      by_cases y : 4 * c + k = 4 * t2 + q
      · rw [if_pos y] at h0 ⊢
        rcases hb01 with z | z
        · rw [cif_t z] at h0; omega
        · rw [cif_f (by omega)] at h0 ⊢
          exact hw.2.1 c hcc k hk h0
      · rw [if_neg y] at h0 ⊢
        exact hw.2.1 c hcc k hk h0
    · rw [e 35 (by omega), e 5 (by omega)]
      exact hw.2.2.1
    · rw [e 20 (by omega), e 5 (by omega), f 109 (by omega), f 110 (by omega)]
      exact hw.2.2.2
end
