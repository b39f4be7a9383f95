/-! A method's end: the relation is kept, whole. -/
section
variable {v v' w w' : SV} {L L' : SL} {own : Int → Nat}
theorem rSys_e (h : Rx v w) {o : Nat} (ho : o < 8) : rSys w o ↔ ¬ isApp v o := by
  have e : ∀ k, k < 8 → w 117 k = v 7 k := fun k hk => (h.1 k hk).1
  have b2 := h.1 (o / 2) (by omega)
  have b4 := h.1 (o / 4) (by omega)
  unfold rSys isApp
  rw [e o ho, e (o / 2) (by omega), e (o / 4) (by omega)]
  by_cases z1 : 1 ≤ o / 2 ∧ ¬ v 7 (o / 2) = 0
  · rw [if_pos z1]; omega
  · rw [if_neg z1]
    by_cases z2 : 1 ≤ o / 4
    · rw [if_pos z2]; omega
    · rw [if_neg z2]; omega
theorem emN_4 {i : Nat} (h0 : 0 ≤ v 4 0) (hb : v 4 0 < 3100) : emN v i 4 0 = v 4 0 + 1 := by
  unfold emN
  have : up2 v 10 i (v 10 i - 1) 4 0 = v 4 0 := up2_c (by omega)
  rw [m_note_4 (by omega) (by omega), this]
theorem Rl_left (h : Rl v w) {i : Nat} (hb : v 4 0 < 3100) : Rl (emN v i) (r_left w i (v 17 (emA v i))) := by
  have e4 : up2 v 10 i (v 10 i - 1) 4 0 = v 4 0 := up2_c (by omega)
  unfold emN r_left
  refine Rl_note (Rl_c h (fun c hc => ?_) (fun c hc => ?_)) 8 _ _ (by omega)
  · simp only [List.mem_cons, List.not_mem_nil, or_false] at hc
    exact funext fun j => up2_c (by omega)
  · simp only [List.mem_cons, List.not_mem_nil, or_false] at hc
    exact r_pop_c (by omega)
/-- the reference's store behind a method's end -/
noncomputable def r_end (v w : SV) (i o t q : Nat) : SV := cif (kd w t = 0) (r_lpn (r_left w i (v 17 (emA v i))) (4 * t + q) (emB v o = 1) (v 17 (emA v i))) (cif (kd w t = 1) (r_ls (r_left w i (v 17 (emA v i))) (t - 8) (goneP (emB v o) (v 18 (emA v i)) o) (if emB v o = 1 then 3 else 2) (v 17 (emA v i))) (r_left w i (v 17 (emA v i))))
theorem pt1_o {t : Nat} (hn : ∀ s, s ≠ t → v' 25 s = v 25 s ∧ v' 36 s = v 36 s) (e20 : v' 20 = v 20) (e29 : v' 29 = v 29) (e30 : v' 30 = v 30) (e31 : v' 31 = v 31) : ∀ s, s ≠ t → pt1 v' s = pt1 v s := by
  intro s hs
  unfold pt1
  rw [e20, e29, e30, e31, (hn s hs).1, (hn s hs).2]
theorem RS_em (h : RS own v L w) {i o t q : Nat} (hi : i < 8) (hd : 0 < v 10 i) (hl : v 11 i < 0) (ht : v 16 (emA v i) = t) (hq : v 20 t = 1 → q < 4 ∧ w 115 (4 * t + q) = v 17 (emA v i) + 1) (hb : v 4 0 < 3000) : RS own (emG v i o) L (r_end v w i o t q) ∧ pot (emG v i o) L (r_end v w i o t q) ≤ pot v L w + 1 := by
  obtain ⟨hW, hA, hR, hD⟩ := h
  have hr := (hW.1 i hi).1
  have hd4 : 0 < v 10 i ∧ v 10 i ≤ 4 := ⟨hd, hr.1.2⟩
  obtain ⟨t2, et2, t32, tl, _, _, _, m0, m1⟩ := em_row hA hW hi hd
  have et3 : t2 = t := by omega
  subst et3
  obtain ⟨k1, k2, k3, k4⟩ := kd_e hA t32 tl
  obtain ⟨d1, d2, d3, d4, d5, d6, d7⟩ := hD
  have h40 := hR.2.1
  have hWG := WF_emG hW hi hd hl o
  have eG := emG_e (o := o) ht
  have n4 : emN v i 4 0 = v 4 0 + 1 := emN_4 h40 (by omega)
  have nL := Rl_left hR (i := i) (by omega)
  have nf : ∀ c, (c ≠ 4 ∧ c ≠ 6 ∧ c ≠ 10) → emN v i c = v c := fun c hc => emN_f hc
  have lf : ∀ c, (c ≠ 125 ∧ c ≠ 144 ∧ c ≠ 145) → r_left w i (v 17 (emA v i)) c = w c := fun c hc => r_left_c hc
  have b01 : emB v o = 1 ∨ emB v o = 0 := by unfold emB cif; split; exact Or.inl rfl; exact Or.inr rfl
  have n20 : emN v i 20 t2 = v 20 t2 := emN_c (by omega)
  unfold r_end
  by_cases z1 : v 20 t2 = 1
  · rw [if_pos z1] at k1
    rw [cif_t k1]
    obtain ⟨q1, q2⟩ := hq z1
    have RAl := RA_leave1 (o := o) hW hA hi hd4 hl ht z1 q1 q2
    have s24 : v 24 t2 < 4 ∧ 0 ≤ v 25 t2 ∧ v 25 t2 ≤ 4 := by
      obtain ⟨t8, p1, p2, p3, p4, p5, _⟩ := hA.2.2.2.2.2.1 t2 z1
      have := mts_1 (l := 0) (emA_in (v := v) hi hd4) ht m0
      rcases hA.2.1 t2 t8 with ⟨_, z | z | z, _⟩ | z
      · have := z.2.2.2.2.2.2.2.2; omega
      · have := z.1; omega
      · have := z.1; omega
      · have := z.2.1; omega
    have n24 : emN v i 24 t2 = v 24 t2 := emN_c (by omega)
    have n25 : emN v i 25 t2 = v 25 t2 := emN_c (by omega)
    rcases b01 with zb | zb
    · have E : emG v i o = m_note (up2 (emN v i) 25 t2 (v 25 t2 - 1)) 3 0 (v 17 (emA v i)) := by
        rw [eG]
        unfold m_gb
        rw [cif_t (show emN v i 20 t2 = 1 by omega), cif_t zb, n25, wr_s (by constructor <;> omega)]
      have u4 : up2 (emN v i) 25 t2 (v 25 t2 - 1) 4 0 = v 4 0 + 1 := (up2_c (by omega)).trans n4
      have a4 : emG v i o 4 0 = v 4 0 + 2 := by rw [E, m_note_4 (by omega) (by omega), u4]; omega
      have ef : ∀ c, (c ≠ 4 ∧ c ≠ 6 ∧ c ≠ 10 ∧ c ≠ 25) → emG v i o c = v c := by
        intro c hc
        rw [E]
        exact (m_note_f (by omega)).trans ((funext fun j => up2_c (by omega)).trans (nf c (by omega)))
      have wl : r_lpn (r_left w i (v 17 (emA v i))) (4 * t2 + q) (emB v o = 1) (v 17 (emA v i)) = r_note (r_lp (r_left w i (v 17 (emA v i))) (4 * t2 + q) (emB v o = 1)) 3 0 (v 17 (emA v i)) := cif_t zb
      have w124 : r_lpn (r_left w i (v 17 (emA v i))) (4 * t2 + q) (emB v o = 1) (v 17 (emA v i)) 124 0 = w 124 0 + 1 := by
        rw [r_lpn_e (by omega), (r_lp_v).2.2, lf 124 (by omega)]
      have w133 : r_lpn (r_left w i (v 17 (emA v i))) (4 * t2 + q) (emB v o = 1) (v 17 (emA v i)) 133 = w 133 := by
        rw [r_lpn_e (by omega), r_lp_c (by omega), lf 133 (by omega)]
      refine ⟨⟨hWG, RAl, ?_, ?_⟩, ?_⟩
      · rw [E, wl]
        refine Rl_note (Rl_c nL (fun c hc => ?_) (fun c hc => ?_)) 3 0 _ (by omega)
        · simp only [List.mem_cons, List.not_mem_nil, or_false] at hc
          exact funext fun j => up2_c (by omega)
        · simp only [List.mem_cons, List.not_mem_nil, or_false] at hc
          exact r_lp_c (by omega)
      · unfold Rd
        rw [a4, ef 5 (by omega), ef 3 (by omega), w124, w133]
        omega
      · have a25 : ∀ j, emG v i o 25 j = if j = t2 then v 25 t2 - 1 else v 25 j := by
          intro j
          rw [E, m_note_c (by omega)]
          by_cases y : j = t2
          · rw [y, up2_s, if_pos rfl]
          · rw [up2_i y, if_neg y, emN_c (by omega)]
        unfold pot
        rw [w133, a4, pt2_f (ef 11 (by omega)), pt3_f (ef 53 (by omega)), sm_up (f := pt1 v) (g := pt1 (emG v i o)) (a := t2) 32 t32 (fun k _ hk => pt1_o (t := t2) (fun s hs => ⟨by rw [a25, if_neg hs], by rw [ef 36 (by omega)]⟩) (ef 20 (by omega)) (ef 29 (by omega)) (ef 30 (by omega)) (ef 31 (by omega)) k hk)]
        have p1 : pt1 (emG v i o) t2 = v 25 t2 - 1 := by unfold pt1; rw [ef 20 (by omega), if_pos z1, a25, if_pos rfl]
        have p2 : pt1 v t2 = v 25 t2 := by unfold pt1; rw [if_pos z1]
        omega
    · have E : emG v i o = up2 (up2 (emN v i) 26 (t2 + 32 * (v 24 t2).toNat) (v 17 (emA v i))) 24 t2 (v 24 t2 + 1) := by
        rw [eG]
        unfold m_gb
        rw [cif_t (show emN v i 20 t2 = 1 by omega), cif_f (show ¬ emB v o = 1 by omega), cif_t (show emN v i 24 t2 < 4 by omega), n24]
      have a4 : emG v i o 4 0 = v 4 0 + 1 := by rw [E, up2_c (by omega), up2_c (by omega), n4]
      have ef : ∀ c, (c ≠ 4 ∧ c ≠ 6 ∧ c ≠ 10 ∧ c ≠ 24 ∧ c ≠ 26) → emG v i o c = v c := by
        intro c hc
        rw [E]
        funext j
        rw [up2_c (by omega), up2_c (by omega), nf c (by omega)]
      have wl : r_lpn (r_left w i (v 17 (emA v i))) (4 * t2 + q) (emB v o = 1) (v 17 (emA v i)) = r_lp (r_left w i (v 17 (emA v i))) (4 * t2 + q) (emB v o = 1) := cif_f (by omega)
      have w124 : r_lpn (r_left w i (v 17 (emA v i))) (4 * t2 + q) (emB v o = 1) (v 17 (emA v i)) 124 0 = w 124 0 + 1 := by
        rw [r_lpn_e (by omega), (r_lp_v).2.2, lf 124 (by omega)]
      have w133 : r_lpn (r_left w i (v 17 (emA v i))) (4 * t2 + q) (emB v o = 1) (v 17 (emA v i)) 133 = w 133 := by
        rw [r_lpn_e (by omega), r_lp_c (by omega), lf 133 (by omega)]
      refine ⟨⟨hWG, RAl, ?_, ?_⟩, ?_⟩
      · rw [E, wl]
        refine Rl_c nL (fun c hc => ?_) (fun c hc => ?_)
        · simp only [List.mem_cons, List.not_mem_nil, or_false] at hc
          exact funext fun j => by rw [up2_c (by omega), up2_c (by omega)]
        · simp only [List.mem_cons, List.not_mem_nil, or_false] at hc
          exact r_lp_c (by omega)
      · unfold Rd
        rw [a4, ef 5 (by omega), ef 3 (by omega), w124, w133]
        omega
      · unfold pot
        rw [w133, a4, pt1_f (ef 20 (by omega)) (ef 25 (by omega)) (ef 29 (by omega)) (ef 30 (by omega)) (ef 31 (by omega)) (ef 36 (by omega)), pt2_f (ef 11 (by omega)), pt3_f (ef 53 (by omega))]
        omega
  · by_cases z2 : v 20 t2 = 2
    · rw [if_neg z1, if_pos z2] at k1
      rw [cif_f (by omega), cif_f (by omega)]
      have ef : ∀ c, (c ≠ 4 ∧ c ≠ 6 ∧ c ≠ 10 ∧ c ≠ 32 ∧ c ≠ 33) → emG v i o c = v c := by
        intro c hc
        rw [eG]
        refine Eq.trans (funext fun j => ?_) (nf c (by omega))
        unfold m_gb
        rw [cif_f (show ¬ emN v i 20 t2 = 1 by omega), cif_t (show emN v i 20 t2 = 2 by omega)]
        unfold cif
        split
        · rw [up2_c (by omega), up2_c (by omega)]
        · rw [up2_c (by omega)]
      have e46 : ∀ c, (c ≠ 32 ∧ c ≠ 33) → emG v i o c = emN v i c := by
        intro c hc
        rw [eG]
        funext j
        unfold m_gb
        rw [cif_f (show ¬ emN v i 20 t2 = 1 by omega), cif_t (show emN v i 20 t2 = 2 by omega)]
        unfold cif
        split
        · rw [up2_c (by omega), up2_c (by omega)]
        · rw [up2_c (by omega)]
      have a4 : emG v i o 4 0 = v 4 0 + 1 := by rw [e46 4 (by omega), n4]
      refine ⟨⟨hWG, RA_leave2 hW hA hi hd4 hl ht z2, ?_, ?_⟩, ?_⟩
      · refine Rl_c nL (fun c hc => ?_) (fun c hc => rfl)
        simp only [List.mem_cons, List.not_mem_nil, or_false] at hc
        exact e46 c (by omega)
      · unfold Rd
        rw [a4, ef 5 (by omega), ef 3 (by omega), lf 124 (by omega), lf 133 (by omega)]
        omega
      · unfold pot
        rw [lf 133 (by omega), a4, pt1_f (ef 20 (by omega)) (ef 25 (by omega)) (ef 29 (by omega)) (ef 30 (by omega)) (ef 31 (by omega)) (ef 36 (by omega)), pt2_f (ef 11 (by omega)), pt3_f (ef 53 (by omega))]
        omega
    · have z3 : v 20 t2 = 3 := by rcases tl with y | y | y <;> omega
      rw [if_neg z1, if_neg z2] at k1
      rw [cif_f (by omega), cif_t k1]
      obtain ⟨s, rfl⟩ : ∃ s, t2 = 8 + s := ⟨t2 - 8, by have := k4.mp z3; omega⟩
      rw [show 8 + s - 8 = s by omega]
      have RAl := RA_leave3 (o := o) hW hA hi hd4 hl ht z3 ⟨d3, by omega⟩ (if emB v o = 1 then 3 else 2)
      obtain ⟨sl, -, ep⟩ : s < (L 0).length ∧ v 20 (8 + s) = 3 ∧ eP v w s := by
        rcases hA.2.2.2.2.2.2.1.1 s (by omega) with y | y
        · exact y
        · omega
      have x35 : v 17 (emA v i) = v 35 (8 + s) := ep.2.2.2.2.2.2.2.2.2.2.2.2.2.2.2 _ (emA_in hi hd4) ht
      have e36 : v 36 (8 + s) = 1 := ep.2.2.2.2.2.2.2.2.2.2.2.2.2.2.1 (by
        have := mts_1 (l := 0) (emA_in (v := v) hi hd4) ht m0
        have := ep.2.2.2.2.2.2.2.2.2.2.2.2.1
        omega)
      obtain ⟨g1, g2, g3, g4, g5, g6⟩ := gb3_v (v := emN v i) (t := 8 + s) (o := o) (x := v 17 (emA v i)) (m := v 18 (emA v i)) (b := emB v o) (by omega) (by rw [nf 3 (by omega)]; omega)
      rw [← eG] at g1 g2 g3 g4 g5 g6
      obtain ⟨w1, w2, w3, w4⟩ := r_ls_v (w := r_left w i (v 17 (emA v i))) (s := s) (g := goneP (emB v o) (v 18 (emA v i)) o) (k := if emB v o = 1 then 3 else 2) (x := v 17 (emA v i))
      have w133 : r_ls (r_left w i (v 17 (emA v i))) s (goneP (emB v o) (v 18 (emA v i)) o) (if emB v o = 1 then 3 else 2) (v 17 (emA v i)) 133 = w 133 := (r_ls_c (by omega)).trans (lf 133 (by omega))
      have ef : ∀ c, (c ≠ 3 ∧ c ≠ 4 ∧ c ≠ 6 ∧ c ≠ 10 ∧ c ≠ 36 ∧ c ≠ 37 ∧ c ≠ 38 ∧ c ≠ 39) → emG v i o c = v c := fun c hc => (g1 c (by omega)).trans (nf c (by omega))
      rw [nf 3 (by omega)] at g2
      have n35 : emN v i 35 (8 + s) = v 35 (8 + s) := emN_c (by omega)
      -- the journal
      have J : Rl (emG v i o) (r_ls (r_left w i (v 17 (emA v i))) s (goneP (emB v o) (v 18 (emA v i)) o) (if emB v o = 1 then 3 else 2) (v 17 (emA v i))) ∧ emG v i o 4 0 = v 4 0 + 1 + cif (goneP (emB v o) (v 18 (emA v i)) o) 1 0 := by
        have mk : ∀ c, (c ≠ 3 ∧ c ≠ 37 ∧ c ≠ 38 ∧ c ≠ 39) → m_markUsed (up2 (emN v i) 37 (8 + s) 0) (8 + s) c = emN v i c := by
          intro c hc
          funext j
          unfold m_markUsed
          rw [up2_c (by omega), up2_c (by omega), up2_c (by omega), up2_c (by omega)]
        have ru : ∀ c, (c ≠ 122 ∧ c ≠ 123 ∧ c ≠ 124) → r_use (r_left w i (v 17 (emA v i))) s c = r_left w i (v 17 (emA v i)) c := fun c hc => r_use_c hc
        by_cases zg : goneP (emB v o) (v 18 (emA v i)) o
        · have E : emG v i o = m_vanish (m_markUsed (up2 (emN v i) 37 (8 + s) 0) (8 + s)) (8 + s) (if emB v o = 1 then 3 else 2) := by
            rw [eG]
            unfold m_gb
            rw [cif_f (show ¬ emN v i 20 (8 + s) = 1 by omega), cif_f (show ¬ emN v i 20 (8 + s) = 2 by omega)]
            by_cases yb : emB v o = 1
            · rw [cif_t yb, if_pos yb]
            · rw [cif_f yb, if_neg yb]
              have : v 18 (emA v i) = 1 ∨ v 18 (emA v i) = 2 ∧ (o : Int) = 0 := by
                rcases zg with y | y | y
                · exact absurd y yb
                · exact Or.inl y
                · exact Or.inr ⟨y.1, by omega⟩
              rw [cif_t this]
          have W : r_ls (r_left w i (v 17 (emA v i))) s (goneP (emB v o) (v 18 (emA v i)) o) (if emB v o = 1 then 3 else 2) (v 17 (emA v i)) = r_note (up2 (r_use (r_left w i (v 17 (emA v i))) s) 121 s 0) (if emB v o = 1 then 3 else 2) 0 (v 17 (emA v i)) := cif_t zg
          have m35 : m_markUsed (up2 (emN v i) 37 (8 + s) 0) (8 + s) 35 (8 + s) = v 17 (emA v i) := by rw [mk 35 (by omega), n35, x35]
          have m4 : up2 (m_markUsed (up2 (emN v i) 37 (8 + s) 0) (8 + s)) 36 (8 + s) 0 4 0 = v 4 0 + 1 := by rw [up2_c (by omega), mk 4 (by omega), n4]
          rw [E, W, cif_t zg]
          unfold m_vanish
          rw [m35]
          refine ⟨Rl_note (Rl_c nL (fun c hc => ?_) (fun c hc => ?_)) _ 0 _ (by omega), ?_⟩
          · simp only [List.mem_cons, List.not_mem_nil, or_false] at hc
            exact (funext fun j => up2_c (by omega)).trans (mk c (by omega))
          · simp only [List.mem_cons, List.not_mem_nil, or_false] at hc
            exact (funext fun j => up2_c (by omega)).trans (ru c (by omega))
          · rw [m_note_4 (by omega) (by omega), m4]
        · have E : emG v i o = m_markUsed (up2 (emN v i) 37 (8 + s) 0) (8 + s) := by
            rw [eG]
            unfold m_gb
            rw [cif_f (show ¬ emN v i 20 (8 + s) = 1 by omega), cif_f (show ¬ emN v i 20 (8 + s) = 2 by omega), cif_f (show ¬ emB v o = 1 from fun y => zg (Or.inl y)), cif_f (show ¬ (v 18 (emA v i) = 1 ∨ v 18 (emA v i) = 2 ∧ (o : Int) = 0) from fun y => zg (Or.inr (y.imp id (fun y => ⟨y.1, by omega⟩))))]
          have W : r_ls (r_left w i (v 17 (emA v i))) s (goneP (emB v o) (v 18 (emA v i)) o) (if emB v o = 1 then 3 else 2) (v 17 (emA v i)) = up2 (r_use (r_left w i (v 17 (emA v i))) s) 121 s 1 := cif_f zg
          rw [E, W, cif_f zg]
          refine ⟨Rl_c nL (fun c hc => ?_) (fun c hc => ?_), ?_⟩
          · simp only [List.mem_cons, List.not_mem_nil, or_false] at hc
            exact mk c (by omega)
          · simp only [List.mem_cons, List.not_mem_nil, or_false] at hc
            exact (funext fun j => up2_c (by omega)).trans (ru c (by omega))
          · rw [mk 4 (by omega), n4]; omega
      obtain ⟨J1, a4⟩ := J
      have cb : ∀ P : Prop, cif P (1 : Int) 0 = 0 ∨ cif P (1 : Int) 0 = 1 := fun P => by unfold cif; split; exact Or.inr rfl; exact Or.inl rfl
      have cb1 := cb (goneP (emB v o) (v 18 (emA v i)) o)
      refine ⟨⟨hWG, RAl, J1, ?_⟩, ?_⟩
      · unfold Rd
        rw [a4, ef 5 (by omega), g2, w4, lf 124 (by omega), w133]
        omega
      · unfold pot
        rw [w133, a4, pt2_f (ef 11 (by omega)), pt3_f (ef 53 (by omega)), sm_up (f := pt1 v) (g := pt1 (emG v i o)) (a := 8 + s) 32 t32 (fun k _ hk => pt1_o (t := 8 + s) (fun x hx => ⟨by rw [ef 25 (by omega)], by rw [g3, if_neg hx, emN_c (by omega)]⟩) (ef 20 (by omega)) (ef 29 (by omega)) (ef 30 (by omega)) (ef 31 (by omega)) k hk)]
        have p2 : pt1 v (8 + s) = 2 := by unfold pt1; rw [if_neg z1, if_neg z2, if_pos z3, e36]; rfl
        have n36 : emN v i 36 (8 + s) = 1 := by rw [emN_c (by omega)]; exact e36
        have p1 : pt1 (emG v i o) (8 + s) = 2 - 2 * cif (goneP (emB v o) (v 18 (emA v i)) o) 1 0 := by
          unfold pt1
          rw [ef 20 (by omega), if_neg z1, if_neg z2, if_pos z3, g3, if_pos rfl, n36]
          by_cases zg : goneP (emB v o) (v 18 (emA v i)) o
          · rw [cif_t zg, cif_t zg]; rfl
          · rw [cif_f zg, cif_f zg]; rfl
        omega
end
