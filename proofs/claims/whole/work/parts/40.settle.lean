/-! Settling: lines, tasks, sessions put away or gone. -/
section
variable {v v' w w' : SV} {L L' : SL} {own : Int → Nat}
/-- a session's place, with a note -/
def plV (v : SV) (t : Nat) (p k : Int) : SV := m_note (up2 v 36 t p) k 0 (v 35 t)
def r_pl (w : SV) (s : Nat) (p k : Int) : SV := r_note (up2 w 121 s p) k 0 (w 120 s)
theorem RS_pl (h : RS own v L w) {s : Nat} (ht : v 20 (8 + s) = 3) (hf : v 37 (8 + s) = 0) {p p' k : Int} (hp : p = 0 ∧ p' = 0 ∨ p = 1 ∧ p' = 1 ∨ p = 3 ∧ p' = 2) (hb : v 4 0 < 3100) : RS own (plV v (8 + s) p k) L (r_pl w s p' k) ∧ (pot (plV v (8 + s) p k) L (r_pl w s p' k) = pot v L w + 1 - (if v 36 (8 + s) = 0 then 0 else if v 36 (8 + s) = 1 then 2 else 1) + (if p = 0 then 0 else if p = 1 then 2 else 1)) := by
  have e : ∀ c, (c ≠ 4 ∧ c ≠ 6 ∧ c ≠ 36) → plV v (8 + s) p k c = v c := fun c hc => (m_note_f (by omega)).trans (funext fun j => up2_c (by omega))
  have f : ∀ c, (c ≠ 121 ∧ c ≠ 144 ∧ c ≠ 145) → r_pl w s p' k c = w c := fun c hc => (r_note_c (by omega)).trans (funext fun j => up2_c (by omega))
  have g : ∀ l, l < 100 ∨ 200 ≤ l → L l = L l := fun _ _ => rfl
  obtain ⟨hW, hA, hR, hD⟩ := h
  have h40 := hR.2.1
  have t32 := (WF_tg hW (Or.inr (Or.inr ht))).1
  have u4 : up2 v 36 (8 + s) p 4 0 = v 4 0 := up2_c (by omega)
  have a4 : plV v (8 + s) p k 4 0 = v 4 0 + 1 := by
    unfold plV
    rw [m_note_4 (by omega) (by omega), u4]
  have a36 : ∀ j, plV v (8 + s) p k 36 j = if j = 8 + s then p else v 36 j := by
    intro j
    unfold plV
    rw [m_note_c (by omega)]
    unfold up2; simp
  have b121 : ∀ j, r_pl w s p' k 121 j = if j = s then p' else w 121 j := by
    intro j
    rw [show r_pl w s p' k 121 j = up2 w 121 s p' 121 j from congrFun (r_note_c (by omega)) j]
    unfold up2; simp
  have e35 : w 120 s = v 35 (8 + s) := by
    rcases hA.2.2.2.2.2.2.1.1 s (by omega) with ⟨_, _, q⟩ | q
    · exact q.2.2.2.2.1
    · omega
  refine ⟨⟨WF_c hW (fun c i hc => congrFun (e c (by unfold wfc at hc; omega)) i), ?_, ?_, ?_⟩, ?_⟩
  · obtain ⟨h0, hk, hn, hs, ho, hp', he, hc, hm, ht', hx, hw⟩ := hA
    refine ⟨(R0_c h0 (fun c hc => e c (by simp only [List.mem_cons, List.not_mem_nil, or_false] at hc; omega)) (fun c hc => f c (by simp only [List.mem_cons, List.not_mem_nil, or_false] at hc; omega)) g), (Rk_c hk (fun c hc => e c (by simp only [List.mem_cons, List.not_mem_nil, or_false] at hc; omega)) (fun c hc => f c (by simp only [List.mem_cons, List.not_mem_nil, or_false] at hc; omega))), (Rn_c hn (fun c hc => e c (by simp only [List.mem_cons, List.not_mem_nil, or_false] at hc; omega)) (fun c hc => f c (by simp only [List.mem_cons, List.not_mem_nil, or_false] at hc; omega)) g), (Rs_c hs (fun c hc => e c (by simp only [List.mem_cons, List.not_mem_nil, or_false] at hc; omega)) (fun c hc => f c (by simp only [List.mem_cons, List.not_mem_nil, or_false] at hc; omega))), (Ro_c ho (fun c hc => e c (by simp only [List.mem_cons, List.not_mem_nil, or_false] at hc; omega)) (fun c hc => f c (by simp only [List.mem_cons, List.not_mem_nil, or_false] at hc; omega))), (Rp_c hp' (fun c hc => e c (by simp only [List.mem_cons, List.not_mem_nil, or_false] at hc; omega)) (fun c hc => f c (by simp only [List.mem_cons, List.not_mem_nil, or_false] at hc; omega))), ?_, (Rc_c hc (fun c hc => e c (by simp only [List.mem_cons, List.not_mem_nil, or_false] at hc; omega)) (fun c hc => f c (by simp only [List.mem_cons, List.not_mem_nil, or_false] at hc; omega))), (Rm_c hm (fun c hc => e c (by simp only [List.mem_cons, List.not_mem_nil, or_false] at hc; omega))), (Rt_c ht' (fun c hc => e c (by simp only [List.mem_cons, List.not_mem_nil, or_false] at hc; omega)) (fun c hc => f c (by simp only [List.mem_cons, List.not_mem_nil, or_false] at hc; omega)) g), (Rx_c hx (fun c hc => e c (by simp only [List.mem_cons, List.not_mem_nil, or_false] at hc; omega)) (fun c hc => f c (by simp only [List.mem_cons, List.not_mem_nil, or_false] at hc; omega))), (Rw_c hw (fun c hc => e c (by simp only [List.mem_cons, List.not_mem_nil, or_false] at hc; omega)) (fun c hc => f c (by simp only [List.mem_cons, List.not_mem_nil, or_false] at hc; omega)) g)⟩
    obtain ⟨h1, h2, h3⟩ := he
    unfold Re
    rw [e 20 (by omega), e 38 (by omega), e 40 (by omega), e 34 (by omega), f 122 (by omega)]
    refine ⟨fun s' hs' => ?_, h2, h3⟩
    rcases h1 s' hs' with ⟨a, b, c⟩ | a
    · refine Or.inl ⟨a, b, ?_⟩
      have M := mts_c (e 10 (by omega)) (e 16 (by omega)) (e 18 (by omega)) (8 + s') 0
      obtain ⟨c1, c2, c3, c4, c5, c6, c7, c8, c9, c10, c11, c12, c13, c14, c15, c16⟩ := c
      unfold eP inC
      rw [e 10 (by omega), e 16 (by omega), e 17 (by omega), e 3 (by omega), e 21 (by omega), e 22 (by omega), e 34 (by omega), e 35 (by omega), e 37 (by omega), e 38 (by omega), e 39 (by omega), e 40 (by omega), e 42 (by omega), f 119 (by omega), f 120 (by omega), f 122 (by omega), f 123 (by omega), f 124 (by omega), M, a36, b121]
      by_cases z : s' = s
      · subst z
        rw [if_pos rfl, if_pos rfl]
        exact ⟨c1, c2, c3, c4, c5, hp, c7, c8, c9, c10, c11, c12, c13, c14, fun q => absurd hf q, c16⟩
      · rw [if_neg (by omega), if_neg z]
        exact ⟨c1, c2, c3, c4, c5, c6, c7, c8, c9, c10, c11, c12, c13, c14, c15, c16⟩
    · exact Or.inr a
  · unfold plV r_pl
    rw [e35]
    refine Rl_note (Rl_c hR (fun c hc => ?_) (fun c hc => ?_)) k 0 _ (by omega)
    · simp only [List.mem_cons, List.not_mem_nil, or_false] at hc
      exact funext fun j => up2_c (by omega)
    · simp only [List.mem_cons, List.not_mem_nil, or_false] at hc
      exact funext fun j => up2_c (by omega)
  · obtain ⟨d1, d2, d3, d4, d5, d6, d7⟩ := hD
    unfold Rd
    rw [a4, e 5 (by omega), e 3 (by omega), f 124 (by omega), f 133 (by omega)]
    omega
  · unfold pot
    rw [f 133 (by omega), a4, pt2_f (e 11 (by omega)), pt3_f (e 53 (by omega)), sm_up (f := pt1 v) (g := pt1 (plV v (8 + s) p k)) (a := 8 + s) 32 t32 (fun j _ hj => by unfold pt1; rw [e 20 (by omega), e 25 (by omega), e 29 (by omega), e 30 (by omega), e 31 (by omega), a36, if_neg hj])]
    have a1 : pt1 (plV v (8 + s) p k) (8 + s) = if p = 0 then 0 else if p = 1 then 2 else 1 := by
      unfold pt1
      rw [e 20 (by omega), if_neg (by omega), if_neg (by omega), if_pos ht, a36, if_pos rfl]
    have a2 : pt1 v (8 + s) = if v 36 (8 + s) = 0 then 0 else if v 36 (8 + s) = 1 then 2 else 1 := by
      unfold pt1
      rw [if_neg (by omega), if_neg (by omega), if_pos ht]
    rw [a1, a2]
    omega
theorem r_pl_go {s : Nat} {p k : Int} : up2 (r_note w k 0 (w 120 s)) 121 s p = r_pl w s p k := by
  unfold r_pl r_note
  funext c j
  unfold up2
  simp only [Nat.reduceEqDiff, false_and, ↓reduceIte]
  by_cases z : c = 121 ∧ j = s
  · rw [if_pos z, if_neg (by omega), if_neg (by omega), if_pos z]
  · rw [if_neg z, if_neg z]
-- lines
def gone (w : SV) (t : Nat) : Prop := 8 ≤ t ∧ w 121 (t - 8) = 0
theorem line_v (hW : WF v L) (h : RA own v L w) {t : Nat} (ht : a_live5 v t) (hn : ¬ (L (100 + t)).length = 0) : (gone w t → vdF v L t = 9) ∧ (¬ gone w t → (opn w t (w 130 (fC L t)) → vdF v L t = 20) ∧ (¬ opn w t (w 130 (fC L t)) → vdF v L t = 21)) ∧ w 130 (fC L t) = v 12 (fC L t) ∧ 0 ≤ v 12 (fC L t) ∧ v 12 (fC L t) < v 22 t ∧ (v 20 t = 2 → w 109 t = 1) := by
  obtain ⟨f1, f2, f3, f4⟩ := WF_first hW ht hn
  have t32 := (WF_tg hW ht).1
  obtain ⟨p1, p2, p3, p4, p5, p6, p7, p8⟩ := h.2.2.2.2.2.2.2.1.1 _ f1
  obtain ⟨y1, y2, y3, y4, y5, y6, y7, y8⟩ := p5 (by omega)
  rw [f2, Int.toNat_natCast] at y5 y7 y8
  obtain ⟨k1, k2, k3, k4⟩ := kd_e h t32 ht
  have ho := opn_e hW h ht (w 130 (fC L t))
  rw [y1] at ho ⊢
  refine ⟨?_, ?_, rfl, y4, y5, y8⟩
  · intro hg
    have z3 := k4.mpr hg.1
    obtain ⟨s, rfl⟩ : ∃ s, t = 8 + s := ⟨t - 8, by have := hg.1; omega⟩
    have e36 : v 36 (8 + s) = 0 := by
      have := hg.2
      rw [show 8 + s - 8 = s by omega] at this
      rcases h.2.2.2.2.2.2.1.1 s (by omega) with ⟨_, _, q⟩ | q
      · have := q.2.2.2.2.2.1; omega
      · omega
    unfold vdF m_judge
    rw [cif_f (show ¬ v 20 (8 + s) = 1 by omega), cif_f (show ¬ v 20 (8 + s) = 2 by omega), cif_t e36]
  · intro hg
    unfold vdF m_judge
    by_cases z1 : v 20 t = 1
    · rw [cif_t z1]
      constructor
      · intro q
        exact cif_t ⟨rfl, (ho.mp q).1 z1⟩
      · intro q
        exact cif_f (fun y => q (ho.mpr ⟨fun _ => y.2, fun y => by omega, fun y => by omega⟩))
    · rw [cif_f z1]
      by_cases z2 : v 20 t = 2
      · have b30 : v 30 t = 0 := by
          have := y8 z2
          rcases h.2.2.2.1.1 t z2 with q | q | q <;> omega
        rw [cif_t z2, cif_f (show ¬ ¬ v 30 t = 0 by omega), cif_f (y7 z1)]
        constructor
        · intro q
          exact cif_t ⟨rfl, (ho.mp q).2.1 z2⟩
        · intro q
          exact cif_f (fun y => q (ho.mpr ⟨fun y => by omega, fun _ => y.2, fun y => by omega⟩))
      · have z3 : v 20 t = 3 := by rcases ht with q | q | q <;> omega
        obtain ⟨s, rfl⟩ : ∃ s, t = 8 + s := ⟨t - 8, by have := k4.mp z3; omega⟩
        have e36 : ¬ v 36 (8 + s) = 0 := by
          intro y
          apply hg
          refine ⟨by omega, ?_⟩
          rw [show 8 + s - 8 = s by omega]
          rcases h.2.2.2.2.2.2.1.1 s (by omega) with ⟨_, _, q⟩ | q
          · have := q.2.2.2.2.2.1; omega
          · omega
        rw [cif_f z2, cif_f e36, cif_f (y7 z1)]
        constructor
        · intro q
          exact cif_t ((ho.mp q).2.2 z3)
        · intro q
          exact cif_f (fun y => q (ho.mpr ⟨fun y => by omega, fun y => by omega, fun _ => y⟩))
noncomputable def r_sl (w : SV) (a t : Nat) : SV := cif (gone w t) (r_give (r_lv w a) a 9) (r_enter (r_lv w a) a t (w 130 a))
theorem RS_sl (h : RS own v L w) {t : Nat} (ht : a_live5 v t) (hn : ¬ (L (100 + t)).length = 0) (h3 : ¬ v 0 0 = 3) (hv : ¬ vdF v L t = 21) (hb : v 4 0 < 3100) : (∃ own', RS own' (slV v L t) (lvL v L (fC L t)) (r_sl w (fC L t) t)) ∧ pot (slV v L t) (lvL v L (fC L t)) (r_sl w (fC L t) t) ≤ pot v L w := by
  obtain ⟨f1, f2, f3, f4⟩ := WF_first h.1 ht hn
  obtain ⟨l1, l2, l3, l4, l5, l6⟩ := line_v h.1 h.2.1 ht hn
  obtain ⟨g1, g2⟩ := RS_lv h f1 (by omega)
  have t1 := live_c ht (lvV_c (v := v) (i := fC L t) (c := 20) (j := t) (by omega))
  have hl : lvV v (fC L t) 11 (fC L t) < 0 := by rw [lvV_s]; omega
  unfold slV r_sl
  by_cases z : gone w t
  · have e9 := l1 z
    rw [cif_t z, cif_f (by omega), e9]
    obtain ⟨q1, q2⟩ := RS_gets g1 f1 hl (r := 9) (by omega)
    exact ⟨⟨own, q1⟩, by omega⟩
  · have e20 : vdF v L t = 20 := by
      by_cases y : opn w t (w 130 (fC L t))
      · exact (l2 z).1 y
      · exact absurd ((l2 z).2 y) hv
    have y : opn w t (w 130 (fC L t)) := by
      rcases Classical.em (opn w t (w 130 (fC L t))) with y | y
      · exact y
      · exact absurd ((l2 z).2 y) hv
    have ho := (opn_e h.1 h.2.1 ht (w 130 (fC L t))).mp y
    rw [cif_f z, cif_t e20, l3]
    have hc : canE (lvV v (fC L t)) (r_lv w (fC L t)) t := by
      have e : ∀ c, c ≠ 11 → lvV v (fC L t) c t = v c t := fun c hc => up2_c hc
      have f : r_lv w (fC L t) 109 t = w 109 t := up2_c (by omega)
      unfold canE
      rw [e 20 (by omega), e 24 (by omega), e 25 (by omega), e 23 (by omega), e 36 (by omega), e 37 (by omega), f]
      refine ⟨ho.1, l6, fun z3 => ⟨fun y => z ?_, ho.2.2 z3⟩⟩
      have t32 := (WF_tg h.1 ht).1
      obtain ⟨s, rfl⟩ : ∃ s, t = 8 + s := ⟨t - 8, by have := (kd_e h.2.1 t32 ht).2.2.2.mp z3; omega⟩
      refine ⟨by omega, ?_⟩
      rw [show 8 + s - 8 = s by omega]
      rcases h.2.1.2.2.2.2.2.2.1.1 s (by omega) with ⟨_, _, q⟩ | q
      · have := q.2.2.2.2.2.1; omega
      · omega
    obtain ⟨q1, q2⟩ := RS_enter g1 f1 t1 (by rw [lvV_c (by omega)]; exact f3) hl (by rw [lvV_c (by omega)]; exact f4) (m := v 12 (fC L t)) ⟨l4, by rw [lvV_c (by omega)]; exact l5⟩ (by rw [lvV_c (by omega)]; exact h3) hc (by rw [lvV_c (by omega)]; exact hb)
    exact ⟨q1, by omega⟩
end
