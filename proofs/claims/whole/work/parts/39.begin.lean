/-! Singletons begin: the class's way as a recursion over what is needed; the relation is kept. -/
section
variable {v v' w w' : SV} {L L' : SL} {own : Int → Nat}
theorem up2_id (v : SV) (c i : Nat) : up2 v c i (v c i) = v := by
  funext c' i'
  unfold up2
  split
  · rename_i h; rw [h.1, h.2]
  · rfl
/-- nothing of a higher rank is touched -/
theorem m_begin_rk {L : SL} {rk : Nat → Nat} : ∀ (n : Nat) (v : SV) (t x : Nat), (∀ c, v 20 c = 2 → ∀ e ∈ L (200 + c), rk e < rk c) → sgOK v L → v 20 t = 2 → rk t < rk x → m_begin L n v t 29 x = v 29 x ∧ m_begin L n v t 30 x = v 30 x ∧ m_begin L n v t 31 x = v 31 x := by
  intro n
  induction n with
  | zero => exact fun v t x _ _ _ _ => ⟨rfl, rfl, rfl⟩
  | succ n ih =>
    intro v t x hr hg ht hx
    rw [m_begin]
    by_cases e : ¬ v 29 t = 0 ∨ ¬ v 30 t = 0
    · rw [cif_t e]; exact ⟨rfl, rfl, rfl⟩
    · rw [cif_f e]
      have ne : x ≠ t := fun z => by subst z; omega
      have b2 : ∀ u : SV, m_bg2 u t 29 x = u 29 x ∧ m_bg2 u t 30 x = u 30 x ∧ m_bg2 u t 31 x = u 31 x := by
        intro u
        unfold m_bg2 cif
        split
        · unfold m_fresh m_note up2
          simp [ne]
        · unfold up2
          simp [ne]
      have fo : ∀ (l : List Nat) (u : SV), (∀ e ∈ l, e ∈ L (200 + t)) → (∀ c, u 20 c = v 20 c) → sgOK u L → (l.foldl (fun w e => cif (w 30 t = 0) (up2 (m_begin L n w e) 30 t (m_begin L n w e 30 e)) w) u) 29 x = u 29 x ∧ (l.foldl (fun w e => cif (w 30 t = 0) (up2 (m_begin L n w e) 30 t (m_begin L n w e 30 e)) w) u) 30 x = u 30 x ∧ (l.foldl (fun w e => cif (w 30 t = 0) (up2 (m_begin L n w e) 30 t (m_begin L n w e 30 e)) w) u) 31 x = u 31 x := by
        intro l
        induction l with
        | nil => exact fun u _ _ _ => ⟨rfl, rfl, rfl⟩
        | cons a l ihl =>
          intro u hl hu hg'
          rw [List.foldl_cons]
          have ha : a ∈ L (200 + t) := hl a (by simp)
          have a2 : u 20 a = 2 := by rw [hu]; exact (hg t ht).2.2.2.2 a ha
          by_cases e2 : u 30 t = 0
          · rw [cif_t e2]
            have hb20 : ∀ c, m_begin L n u a 20 c = u 20 c := fun c => m_begin_c n u a 20 c (by unfold bgF; omega)
            have g1 := m_begin_sg n u a hg' a2
            have q := ih u a x (fun c hc => hr c (by rw [← hu]; exact hc)) hg' a2 (by have := hr t ht a ha; omega)
            have r := ihl (up2 (m_begin L n u a) 30 t (m_begin L n u a 30 a)) (fun e he => hl e (by simp [he])) (fun c => by rw [up2_c (by omega), hb20, hu]) (sgOK_c g1 (fun i => up2_c (by omega)) (fun i => up2_c (by omega)) (fun i hi => by
              unfold up2
              split
              · exact (g1 a (by rw [hb20]; exact a2)).2.1
              · exact (g1 i hi).2.1))
            rw [r.1, r.2.1, r.2.2, up2_c (by omega), up2_i ne, up2_c (by omega)]
            exact q
          · rw [cif_f e2]
            exact ihl u (fun e he => hl e (by simp [he])) hu hg'
      have f := fo (L (200 + t)) v (fun e he => he) (fun c => rfl) hg
      have b := b2 ((L (200 + t)).foldl (fun w e => cif (w 30 t = 0) (up2 (m_begin L n w e) 30 t (m_begin L n w e 30 e)) w) v)
      rw [b.1, b.2.1, b.2.2]
      exact f
noncomputable def bgY (w : SV) (t : Nat) : SV := up2 (m_fresh (up2 w 29 t 1)) 31 t (w 5 0)
def bgX (w : SV) (t : Nat) : SV := up2 w 30 t 1
/-- singleton t, what it still needs, begun with n to go -/
noncomputable def bgG (L : SL) (n t : Nat) : List Nat → SV → SV
  | [], w => cif (w 28 t = 0) (bgY w t) (bgX w t)
  | e :: l, w => cif (m_begin L n w e 30 e = 0) (bgG L n t l (m_begin L n w e)) (bgX (m_begin L n w e) t)
theorem bgG_e {L : SL} {rk : Nat → Nat} {n t : Nat} : ∀ (l : List Nat) (v : SV), (∀ c, v 20 c = 2 → ∀ e ∈ L (200 + c), rk e < rk c) → sgOK v L → v 20 t = 2 → v 30 t = 0 → (∀ e ∈ l, e ∈ L (200 + t)) → m_bg2 (l.foldl (fun w e => cif (w 30 t = 0) (up2 (m_begin L n w e) 30 t (m_begin L n w e 30 e)) w) v) t = bgG L n t l v := by
  intro l
  induction l with
  | nil =>
    intro v hr hg ht h0 hl
    show m_bg2 v t = _
    unfold m_bg2 bgG bgY bgX
    by_cases z : v 28 t = 0
    · rw [cif_t ⟨h0, z⟩, cif_t z]
      have : up2 v 30 t 0 = v := by rw [← h0]; exact up2_id v 30 t
      rw [this]
    · rw [cif_f (by omega), cif_f z]
  | cons a l ih =>
    intro v hr hg ht h0 hl
    rw [List.foldl_cons, bgG, cif_t h0]
    have ha : a ∈ L (200 + t) := hl a (by simp)
    have a2 : v 20 a = 2 := (hg t ht).2.2.2.2 a ha
    have hb20 : ∀ c, m_begin L n v a 20 c = v 20 c := fun c => m_begin_c n v a 20 c (by unfold bgF; omega)
    have g1 := m_begin_sg n v a hg a2
    have q := m_begin_rk n v a t hr hg a2 (hr t ht a ha)
    have b01 := (g1 a (by rw [hb20]; exact a2)).2.1
    by_cases z : m_begin L n v a 30 a = 0
    · have e1 : up2 (m_begin L n v a) 30 t (m_begin L n v a 30 a) = m_begin L n v a := by
        rw [z, show (0 : Int) = m_begin L n v a 30 t by rw [q.2.1, h0]]
        exact up2_id _ 30 t
      rw [cif_t z, e1]
      exact ih _ (fun c hc => hr c (by rw [← hb20]; exact hc)) g1 (by rw [hb20]; exact ht) (by rw [q.2.1]; exact h0) (fun e he => hl e (by simp [he]))
    · have z1 : m_begin L n v a 30 a = 1 := by omega
      rw [cif_f z, z1]
      have st := fold_stuck (fun w e => cif (w 30 t = 0) (up2 (m_begin L n w e) 30 t (m_begin L n w e 30 e)) w) (up2 (m_begin L n v a) 30 t 1) l (fun e => cif_f (by rw [up2_s]; omega))
      rw [st]
      unfold m_bg2 bgX
      rw [cif_f (fun y => by have := y.1; rw [up2_s] at this; omega)]
      funext c i
      unfold up2
      split <;> rfl
theorem m_begin_G {L : SL} {rk : Nat → Nat} {n t : Nat} {v : SV} (hr : ∀ c, v 20 c = 2 → ∀ e ∈ L (200 + c), rk e < rk c) (hg : sgOK v L) (ht : v 20 t = 2) (h29 : v 29 t = 0) (h30 : v 30 t = 0) : m_begin L (n + 1) v t = bgG L n t (L (200 + t)) v := by
  rw [m_begin, cif_f (by omega)]
  exact bgG_e _ v hr hg ht h30 (fun e he => he)
-- the two ends
theorem RS_no (h : RS own v L w) {t : Nat} (ht : v 20 t = 2) (h0 : w 109 t = 0) : RS own (bgX v t) L (up2 w 109 t 2) ∧ pot (bgX v t) L (up2 w 109 t 2) ≤ pot v L w := by
  have e : ∀ c, c ≠ 30 → bgX v t c = v c := fun c hc => funext fun j => up2_c hc
  have f : ∀ c, c ≠ 109 → up2 w 109 t 2 c = w c := fun c hc => funext fun j => up2_c hc
  have g : ∀ l, l < 100 ∨ 200 ≤ l → L l = L l := fun _ _ => rfl
  obtain ⟨hW, hA, hR, hD⟩ := h
  have t32 := (WF_tg hW (Or.inr (Or.inl ht))).1
  have a30 : ∀ j, bgX v t 30 j = if j = t then 1 else v 30 j := by intro j; unfold bgX up2; simp
  have b109 : ∀ j, up2 w 109 t 2 109 j = if j = t then 2 else w 109 j := by intro j; unfold up2; simp
  have s0 : v 29 t = 0 ∧ v 30 t = 0 := by
    rcases hA.2.2.2.1.1 t ht with q | q | q <;> omega
  have hW' : WF (bgX v t) L := by
    obtain ⟨h1, h2, h3, h4, h5, h6, h7⟩ := hW
    have e' : ∀ c, c ≠ 30 → ∀ i, bgX v t c i = v c i := fun c hc i => congrFun (e c hc) i
    refine ⟨WFc_c h1 (e' 10 (by omega)) (e' 11 (by omega)) (e' 15 (by omega)) (e' 16 (by omega)) (e' 20 (by omega)), WFl_c h2 (e' 11 (by omega)) (e' 20 (by omega)), WFt_c h3 (e' 20 (by omega)) (e' 21 (by omega)) (fun j hj => by rw [e 24 (by omega)]; exact WFt_p h3 hj), sgOK_c h4 (e' 20 (by omega)) (e' 28 (by omega)) (fun i hi => ?_), WFs_c h5 (e' 20 (by omega)) (e' 34 (by omega)) (e' 40 (by omega)) (e' 41 (by omega)) (e' 43 (by omega)), WFk_c h6 (e' 20 (by omega)) (e' 50 (by omega)), by rw [e 2 (by omega)]; exact h7⟩
    rw [a30]
    split
    · exact Or.inr rfl
    · exact (h4 i hi).2.1
  refine ⟨⟨hW', ?_, (Rl_c hR (fun c hc => e c (by simp only [List.mem_cons, List.not_mem_nil, or_false] at hc; omega)) (fun c hc => f c (by simp only [List.mem_cons, List.not_mem_nil, or_false] at hc; omega))), Rd_c hD (fun c hc => e c (by simp only [List.mem_cons, List.not_mem_nil, or_false] at hc; omega)) (fun c hc => f c (by simp only [List.mem_cons, List.not_mem_nil, or_false] at hc; omega))⟩, ?_⟩
  · obtain ⟨h0', hk, hn, hs, ho, hp, he, hc, hm, ht', hx, hw⟩ := hA
    refine ⟨(R0_c h0' (fun c hc => e c (by simp only [List.mem_cons, List.not_mem_nil, or_false] at hc; omega)) (fun c hc => f c (by simp only [List.mem_cons, List.not_mem_nil, or_false] at hc; omega)) g), (Rk_c hk (fun c hc => e c (by simp only [List.mem_cons, List.not_mem_nil, or_false] at hc; omega)) (fun c hc => f c (by simp only [List.mem_cons, List.not_mem_nil, or_false] at hc; omega))), (Rn_c hn (fun c hc => e c (by simp only [List.mem_cons, List.not_mem_nil, or_false] at hc; omega)) (fun c hc => f c (by simp only [List.mem_cons, List.not_mem_nil, or_false] at hc; omega)) g), ⟨fun c hcc => ?_, fun h3 c hcc => ?_, fun h3 c hcc => ?_⟩, ?_, (Rp_c hp (fun c hc => e c (by simp only [List.mem_cons, List.not_mem_nil, or_false] at hc; omega)) (fun c hc => f c (by simp only [List.mem_cons, List.not_mem_nil, or_false] at hc; omega))), (Re_c he (fun c hc => e c (by simp only [List.mem_cons, List.not_mem_nil, or_false] at hc; omega)) (fun c hc => f c (by simp only [List.mem_cons, List.not_mem_nil, or_false] at hc; omega)) g), ⟨fun j hj => ?_, ?_⟩, (Rm_c hm (fun c hc => e c (by simp only [List.mem_cons, List.not_mem_nil, or_false] at hc; omega))), (Rt_c ht' (fun c hc => e c (by simp only [List.mem_cons, List.not_mem_nil, or_false] at hc; omega)) (fun c hc => f c (by simp only [List.mem_cons, List.not_mem_nil, or_false] at hc; omega)) g), (Rx_c hx (fun c hc => e c (by simp only [List.mem_cons, List.not_mem_nil, or_false] at hc; omega)) (fun c hc => f c (by simp only [List.mem_cons, List.not_mem_nil, or_false] at hc; omega))), ?_⟩
    · rw [e 20 (by omega)] at hcc
      rw [e 29 (by omega), a30, b109]
      by_cases z : c = t
      · rw [if_pos z, if_pos z, z]; exact Or.inr (Or.inr ⟨s0.1, rfl, rfl⟩)
      · rw [if_neg z, if_neg z]; exact hs.1 c hcc
    · rw [e 20 (by omega)] at hcc
      rw [e 0 (by omega)] at h3
      have := hs.2.1 h3 c hcc
      rw [e 31 (by omega), f 110 (by omega), b109]
      by_cases z : c = t
      · rw [if_pos z]
        rw [z] at this ⊢
        exact ⟨fun q => by omega, fun _ => this.2 (by omega)⟩
      · rw [if_neg z]; exact this
    · rw [e 20 (by omega)] at hcc
      rw [e 0 (by omega)] at h3
      rw [e 31 (by omega)]
      exact hs.2.2 h3 c hcc
    · obtain ⟨ol, o1, o2, o3, o4, o5⟩ := ho
      refine ⟨ol, by rw [f 112 (by omega)]; exact o1, by rw [f 111 (by omega)]; exact o2, o3, fun c => ?_, by rw [f 110 (by omega)]; exact o5⟩
      rw [o4 c, e 20 (by omega), b109]
      by_cases z : c = t
      · rw [if_pos z, z]
        omega
      · rw [if_neg z]
    · obtain ⟨p1, p2, p3, p4, p5, p6, p7, p8⟩ := hc.1 j hj
      unfold cP hasM
      rw [e 10 (by omega), e 11 (by omega), e 12 (by omega), e 13 (by omega), e 14 (by omega), e 15 (by omega), e 16 (by omega), e 17 (by omega), e 18 (by omega), e 20 (by omega), e 22 (by omega), f 125 (by omega), f 126 (by omega), f 127 (by omega), f 128 (by omega), f 129 (by omega), f 130 (by omega), f 131 (by omega), f 132 (by omega), f 133 (by omega), f 134 (by omega), f 142 (by omega)]
      refine ⟨p1, p2, p3, p4, fun y => ?_, p6, p7, p8⟩
      obtain ⟨y1, y2, y3, y4, y5, y6, y7, y8⟩ := p5 y
      refine ⟨y1, y2, y3, y4, y5, y6, y7, fun y9 => ?_⟩
      rw [b109]
      by_cases z : (v 11 j).toNat = t
      · have := y8 y9
        rw [z] at this
        omega
      · rw [if_neg z]; exact y8 y9
    · unfold a_live5
      rw [e 20 (by omega), f 132 (by omega)]
      exact hc.2
    · refine ⟨?_, ?_, ?_, fun c hcc h1 => ?_⟩
      · unfold inC
        rw [e 10 (by omega), e 16 (by omega), e 17 (by omega), e 5 (by omega)]
        exact hw.1
      · rw [e 20 (by omega), e 5 (by omega), f 115 (by omega)]
        exact hw.2.1
      · rw [e 35 (by omega), e 5 (by omega)]
        exact hw.2.2.1
      · rw [e 20 (by omega)] at hcc
        rw [b109] at h1
        rw [f 110 (by omega), e 5 (by omega)]
        by_cases z : c = t
        · rw [if_pos z] at h1; omega
        · rw [if_neg z] at h1; exact hw.2.2.2 c hcc h1
  · unfold pot
    rw [f 133 (by omega), e 4 (by omega), pt2_f (e 11 (by omega)), pt3_f (e 53 (by omega)), sm_up (f := pt1 v) (g := pt1 (bgX v t)) (a := t) 32 t32 (fun k _ hk => by unfold pt1; rw [e 20 (by omega), e 25 (by omega), e 29 (by omega), e 31 (by omega), e 36 (by omega), a30, if_neg hk])]
    have a1 : pt1 (bgX v t) t = 0 := by
      unfold pt1
      rw [e 20 (by omega), e 29 (by omega), a30, if_neg (by omega), if_pos ht, if_pos s0.1, if_pos rfl]
      simp
    have a2 : pt1 v t = 2 := by
      unfold pt1
      rw [if_neg (by omega), if_pos ht, if_pos s0.1, if_pos s0.2]
    omega
def r_bg (w : SV) (t : Nat) : SV := up2 (up2 (up2 (r_fresh (up2 w 109 t 1)) 110 t (w 143 0)) 111 (w 112 0).toNat t) 112 0 (w 112 0 + 1)
theorem RS_yes (h : RS own v L w) {t : Nat} (ht : v 20 t = 2) (h0 : w 109 t = 0) (h3 : ¬ v 0 0 = 3) (hb : v 4 0 < 3100) : (∃ own', RS own' (bgY v t) L (r_bg w t)) ∧ pot (bgY v t) L (r_bg w t) ≤ pot v L w := by
  obtain ⟨hW, hA, hR, hD⟩ := h
  have h40 := hR.2.1
  obtain ⟨d1, d2, d3, d4, d5, d6, d7⟩ := hD
  have s5 : iS (v 5 0 + 1) := by constructor <;> omega
  have e143 : w 143 0 = v 5 0 := hA.1.2.2.2.2.2.1
  have E : bgY v t = up2 (m_note (up2 (up2 v 29 t 1) 5 0 (v 5 0 + 1)) 1 0 (v 5 0)) 31 t (v 5 0) := by
    unfold bgY m_fresh
    rw [up2_c (by omega), wr_s s5]
  have e : ∀ c, (c ≠ 4 ∧ c ≠ 5 ∧ c ≠ 6 ∧ c ≠ 29 ∧ c ≠ 31) → bgY v t c = v c := by
    intro c hc
    funext j
    rw [E, up2_c (by omega), m_note_c (by omega), up2_c (by omega), up2_c (by omega)]
  have f : ∀ c, (c ≠ 109 ∧ c ≠ 110 ∧ c ≠ 111 ∧ c ≠ 112 ∧ c ≠ 143 ∧ c ≠ 144 ∧ c ≠ 145) → r_bg w t c = w c := by
    intro c hc
    funext j
    unfold r_bg
    rw [up2_c (by omega), up2_c (by omega), up2_c (by omega), show r_fresh (up2 w 109 t 1) c j = up2 w 109 t 1 c j from congrFun (r_fresh_c (by omega)) j, up2_c (by omega)]
  have g : ∀ l, l < 100 ∨ 200 ≤ l → L l = L l := fun _ _ => rfl
  have t32 := (WF_tg hW (Or.inr (Or.inl ht))).1
  have s0 : v 29 t = 0 ∧ v 30 t = 0 := by
    rcases hA.2.2.2.1.1 t ht with q | q | q <;> omega
  have a29 : ∀ j, bgY v t 29 j = if j = t then 1 else v 29 j := by
    intro j
    rw [E, up2_c (by omega), m_note_c (by omega), up2_c (by omega)]
    unfold up2; simp
  have a31 : ∀ j, bgY v t 31 j = if j = t then v 5 0 else v 31 j := by
    intro j
    rw [E]
    by_cases z : j = t
    · rw [z, up2_s, if_pos rfl]
    · rw [up2_i z, if_neg z, m_note_c (by omega), up2_c (by omega), up2_c (by omega)]
  have a5 : bgY v t 5 0 = v 5 0 + 1 := by rw [E, up2_c (by omega), m_note_c (by omega), up2_s]
  have u4 : up2 (up2 v 29 t 1) 5 0 (v 5 0 + 1) 4 0 = v 4 0 := by rw [up2_c (by omega), up2_c (by omega)]
  have a4 : bgY v t 4 0 = v 4 0 + 1 := by rw [E, up2_c (by omega), m_note_4 (by omega) (by omega), u4]
  have b109 : ∀ j, r_bg w t 109 j = if j = t then 1 else w 109 j := by
    intro j
    unfold r_bg
    rw [up2_c (by omega), up2_c (by omega), up2_c (by omega), show r_fresh (up2 w 109 t 1) 109 j = up2 w 109 t 1 109 j from congrFun (r_fresh_c (by omega)) j]
    unfold up2; simp
  have b110 : ∀ j, r_bg w t 110 j = if j = t then v 5 0 else w 110 j := by
    intro j
    unfold r_bg
    rw [up2_c (by omega), up2_c (by omega), e143]
    by_cases z : j = t
    · rw [z, up2_s, if_pos rfl]
    · rw [up2_i z, if_neg z, show r_fresh (up2 w 109 t 1) 110 j = up2 w 109 t 1 110 j from congrFun (r_fresh_c (by omega)) j, up2_c (by omega)]
  have b111 : ∀ j, r_bg w t 111 j = if j = (w 112 0).toNat then (t : Int) else w 111 j := by
    intro j
    unfold r_bg
    rw [up2_c (by omega)]
    by_cases z : j = (w 112 0).toNat
    · rw [z, up2_s, if_pos rfl]
    · rw [up2_i z, if_neg z, up2_c (by omega), show r_fresh (up2 w 109 t 1) 111 j = up2 w 109 t 1 111 j from congrFun (r_fresh_c (by omega)) j, up2_c (by omega)]
  have b112 : r_bg w t 112 0 = w 112 0 + 1 := by unfold r_bg; rw [up2_s]
  have b143 : r_bg w t 143 0 = v 5 0 + 1 := by
    unfold r_bg
    rw [up2_c (by omega), up2_c (by omega), up2_c (by omega)]
    unfold r_fresh
    rw [show r_note (up2 (up2 w 109 t 1) 143 0 (wr (up2 w 109 t 1 143 0 + 1))) 1 0 (up2 w 109 t 1 143 0) 143 0 = up2 (up2 w 109 t 1) 143 0 (wr (up2 w 109 t 1 143 0 + 1)) 143 0 from congrFun (r_note_c (by omega)) 0, up2_s, up2_c (by omega), e143, wr_s s5]
  have hW' : WF (bgY v t) L := WF_c hW (fun c i hc => congrFun (e c (by unfold wfc at hc; omega)) i)
  refine ⟨⟨ownU own (v 5 0) t, hW', ?_, ?_, ?_⟩, ?_⟩
  · obtain ⟨h0', hk, hn, hs, ho, hp, he, hc, hm, ht', hx, hw⟩ := hA
    refine ⟨⟨?_, ?_, ?_, ?_, ?_, ?_, ?_⟩, (Rk_c hk (fun c hc => e c (by simp only [List.mem_cons, List.not_mem_nil, or_false] at hc; omega)) (fun c hc => f c (by simp only [List.mem_cons, List.not_mem_nil, or_false] at hc; omega))), (Rn_c hn (fun c hc => e c (by simp only [List.mem_cons, List.not_mem_nil, or_false] at hc; omega)) (fun c hc => f c (by simp only [List.mem_cons, List.not_mem_nil, or_false] at hc; omega)) g), ⟨fun c hcc => ?_, fun h3 c hcc => ?_, fun h3 c hcc => ?_⟩, ?_, (Rp_c hp (fun c hc => e c (by simp only [List.mem_cons, List.not_mem_nil, or_false] at hc; omega)) (fun c hc => f c (by simp only [List.mem_cons, List.not_mem_nil, or_false] at hc; omega))), (Re_c he (fun c hc => e c (by simp only [List.mem_cons, List.not_mem_nil, or_false] at hc; omega)) (fun c hc => f c (by simp only [List.mem_cons, List.not_mem_nil, or_false] at hc; omega)) g), ⟨fun j hj => ?_, ?_⟩, (Rm_c hm (fun c hc => e c (by simp only [List.mem_cons, List.not_mem_nil, or_false] at hc; omega))), (Rt_c ht' (fun c hc => e c (by simp only [List.mem_cons, List.not_mem_nil, or_false] at hc; omega)) (fun c hc => f c (by simp only [List.mem_cons, List.not_mem_nil, or_false] at hc; omega)) g), (Rx_c hx (fun c hc => e c (by simp only [List.mem_cons, List.not_mem_nil, or_false] at hc; omega)) (fun c hc => f c (by simp only [List.mem_cons, List.not_mem_nil, or_false] at hc; omega))), ?_⟩
    · rw [f 100 (by omega), e 0 (by omega)]; exact h0'.1
    · rw [f 101 (by omega), e 2 (by omega)]; exact h0'.2.1
    · rw [f 102 (by omega), e 1 (by omega)]; exact h0'.2.2.1
    · rw [f 118 (by omega)]; exact h0'.2.2.2.1
    · rw [f 135 (by omega)]; exact h0'.2.2.2.2.1
    · rw [b143, a5]
    · rw [e 0 (by omega), e 1 (by omega)]; exact h0'.2.2.2.2.2.2
    · rw [e 20 (by omega)] at hcc
      rw [e 30 (by omega), a29, b109]
      by_cases z : c = t
      · rw [if_pos z, if_pos z, z]; exact Or.inr (Or.inl ⟨rfl, s0.2, rfl⟩)
      · rw [if_neg z, if_neg z]; exact hs.1 c hcc
    · rw [e 20 (by omega)] at hcc
      rw [e 0 (by omega)] at h3
      have := hs.2.1 h3 c hcc
      rw [a31, b110, b109]
      by_cases z : c = t
      · rw [if_pos z, if_pos z, if_pos z]
        exact ⟨fun q => rfl, fun q => absurd rfl q⟩
      · rw [if_neg z, if_neg z, if_neg z]; exact this
    · rw [e 0 (by omega)] at h3
      omega
    · obtain ⟨ol, o1, o2, o3, o4, o5⟩ := ho
      have on : (w 112 0).toNat = ol.length := by omega
      have tn : t ∉ ol := fun z => by have := ((o4 t).mp z).2; omega
      refine ⟨ol ++ [t], ?_, fun k hk => ?_, ?_, fun c => ?_, ?_⟩
      · rw [b112, o1]; simp
      · rw [b111, on]
        by_cases z : k = ol.length
        · rw [if_pos z, z]; simp
        · rw [if_neg z]
          have hk' : k < ol.length := by simp at hk; omega
          rw [o2 k hk', List.getD_eq_getElem?_getD, List.getD_eq_getElem?_getD, List.getElem?_append_left hk']
      · rw [List.nodup_append]
        refine ⟨o3, by simp, fun a ha b hb => ?_⟩
        rw [List.mem_singleton] at hb
        subst hb
        exact fun z => tn (z ▸ ha)
      · rw [List.mem_append, o4 c, List.mem_singleton, e 20 (by omega), b109]
        by_cases z : c = t
        · rw [if_pos z, z]
          simp [ht]
        · rw [if_neg z]
          simp [z]
      · rw [List.pairwise_append]
        refine ⟨o5.imp_of_mem (fun {a b} ha hb hab => ?_), by simp, fun a ha b hb => ?_⟩
        · rw [b110, b110, if_neg (fun (z : a = t) => tn (z ▸ ha)), if_neg (fun (z : b = t) => tn (z ▸ hb))]
          exact hab
        · rw [List.mem_singleton] at hb
          rw [b110, b110, if_pos hb, if_neg (fun (z : a = t) => tn (z ▸ ha))]
          have := (o4 a).mp ha
          exact (hw.2.2.2 a this.1 this.2).2.2
    · obtain ⟨p1, p2, p3, p4, p5, p6, p7, p8⟩ := hc.1 j hj
      unfold cP hasM
      rw [e 10 (by omega), e 11 (by omega), e 12 (by omega), e 13 (by omega), e 14 (by omega), e 15 (by omega), e 16 (by omega), e 17 (by omega), e 18 (by omega), e 20 (by omega), e 22 (by omega), f 125 (by omega), f 126 (by omega), f 127 (by omega), f 128 (by omega), f 129 (by omega), f 130 (by omega), f 131 (by omega), f 132 (by omega), f 133 (by omega), f 134 (by omega), f 142 (by omega)]
      refine ⟨p1, p2, p3, p4, fun y => ?_, p6, p7, p8⟩
      obtain ⟨y1, y2, y3, y4, y5, y6, y7, y8⟩ := p5 y
      refine ⟨y1, y2, y3, y4, y5, y6, y7, fun y9 => ?_⟩
      rw [b109]
      by_cases z : (v 11 j).toNat = t
      · rw [if_pos z]
      · rw [if_neg z]; exact y8 y9
    · unfold a_live5
      rw [e 20 (by omega), f 132 (by omega)]
      exact hc.2
    · refine ⟨fun k hk => ?_, fun c hcc k hk h0 => ?_, fun s hs => ?_, fun c hcc h1 => ?_⟩
      · unfold inC at hk
        rw [e 10 (by omega)] at hk
        obtain ⟨z1, z2, z3⟩ := hw.1 k hk
        rw [e 16 (by omega), e 17 (by omega), a5]
        exact ⟨by rw [ownU_o z3]; exact z1, z2, by omega⟩
      · rw [e 20 (by omega)] at hcc
        rw [f 115 (by omega)] at h0 ⊢
        obtain ⟨z1, z2⟩ := hw.2.1 c hcc k hk h0
        rw [a5]
        exact ⟨by rw [ownU_o (by omega)]; exact z1, by omega⟩
      · obtain ⟨z1, z2, z3⟩ := hw.2.2.1 s hs
        rw [e 35 (by omega), a5]
        exact ⟨by rw [ownU_o z3]; exact z1, z2, by omega⟩
      · rw [e 20 (by omega)] at hcc
        rw [b109] at h1
        rw [b110, a5]
        by_cases z : c = t
        · rw [if_pos z, ownU_s]
          exact ⟨z.symm, by omega, by omega⟩
        · rw [if_neg z] at h1 ⊢
          obtain ⟨z1, z2, z3⟩ := hw.2.2.2 c hcc h1
          exact ⟨by rw [ownU_o z3]; exact z1, z2, by omega⟩
  · have h1 : Rl (up2 (up2 v 29 t 1) 5 0 (v 5 0 + 1)) (up2 (up2 w 109 t 1) 143 0 (wr (v 5 0 + 1))) := by
      refine Rl_c hR (fun c hc => ?_) (fun c hc => ?_)
      · simp only [List.mem_cons, List.not_mem_nil, or_false] at hc
        funext j
        rw [up2_c (by omega), up2_c (by omega)]
      · simp only [List.mem_cons, List.not_mem_nil, or_false] at hc
        funext j
        rw [up2_c (by omega), up2_c (by omega)]
    have h2 := Rl_note h1 1 0 (v 5 0) (by rw [u4]; omega)
    refine Rl_c h2 (fun c hc => ?_) (fun c hc => ?_)
    · simp only [List.mem_cons, List.not_mem_nil, or_false] at hc
      rw [E]
      funext j
      rw [up2_c (by omega)]
    · simp only [List.mem_cons, List.not_mem_nil, or_false] at hc
      unfold r_bg r_fresh
      rw [up2_c (by omega), e143]
      funext j
      rw [up2_c (by omega), up2_c (by omega), up2_c (by omega)]
  · unfold Rd
    rw [a4, a5, e 3 (by omega), f 124 (by omega), f 133 (by omega)]
    omega
  · unfold pot
    rw [f 133 (by omega), a4, pt2_f (e 11 (by omega)), pt3_f (e 53 (by omega)), sm_up (f := pt1 v) (g := pt1 (bgY v t)) (a := t) 32 t32 (fun k _ hk => by unfold pt1; rw [e 20 (by omega), e 25 (by omega), e 30 (by omega), e 36 (by omega), a29, a31, if_neg hk, if_neg hk])]
    have a1 : pt1 (bgY v t) t = 1 := by
      unfold pt1
      rw [e 20 (by omega), a29, a31, if_neg (by omega), if_pos ht, if_pos rfl, if_neg (by omega), if_pos rfl, if_neg (by omega)]
    have a2 : pt1 v t = 2 := by
      unfold pt1
      rw [if_neg (by omega), if_pos ht, if_pos s0.1, if_pos s0.2]
    omega
end
