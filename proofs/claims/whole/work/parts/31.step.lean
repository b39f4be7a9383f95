/-! Steps of the reference as functions; what they keep of the relation: notes, results, lines. -/
section
variable {v v' w w' : SV} {L L' : SL} {own : Int → Nat}
theorem bAnd_63 {x : Int} (h0 : 0 ≤ x) (h1 : x < 2 ^ 31) : (bAnd x 63).toNat = x.toNat % 64 := by
  unfold bAnd
  have h : (iI x &&& iI 63).toInt = ((iI x).toBitVec &&& 63#32).toInt := rfl
  have e : (iI x).toBitVec.toNat = x.toNat := by
    show (BitVec.ofInt 32 x).toNat = _
    rw [BitVec.toNat_ofInt]
    congr 1
    exact Int.emod_eq_of_lt h0 (by omega)
  have h2 : ((iI x).toBitVec &&& 63#32).toNat = x.toNat % 64 := by
    rw [BitVec.toNat_and, e]
    exact Nat.and_two_pow_sub_one_eq_mod x.toNat 6
  rw [h, BitVec.toInt_eq_toNat_of_lt (by omega), h2]
  omega
def r_note (w : SV) (k x y : Int) : SV := up2 (up2 w 145 (w 144 0).toNat (wr (k + 16 * x + 256 * y))) 144 0 (wr (w 144 0 + 1))
theorem r_note_c {k x y : Int} {c : Nat} (h : c ≠ 144 ∧ c ≠ 145) : r_note w k x y c = w c := by
  funext i
  unfold r_note
  rw [up2_c h.1, up2_c h.2]
theorem m_note_f {k x y : Int} {c : Nat} (h : c ≠ 4 ∧ c ≠ 6) : m_note v k x y c = v c := funext fun i => m_note_c h
theorem m_note_4 {k x y : Int} (h0 : 0 ≤ v 4 0) (h : v 4 0 < 3200) : m_note v k x y 4 0 = v 4 0 + 1 := by
  unfold m_note
  rw [up2_s, wr_s]
  constructor <;> omega
theorem Rl_note (h : Rl v w) (k x y : Int) (hb : v 4 0 < 3200) : Rl (m_note v k x y) (r_note w k x y) := by
  obtain ⟨h1, h2, h3⟩ := h
  have e4 : m_note v k x y 4 0 = v 4 0 + 1 := m_note_4 h2 hb
  refine ⟨?_, by omega, fun n n1 n2 => ?_⟩
  · rw [e4]
    unfold r_note
    rw [up2_s, h1, wr_s]
    constructor <;> omega
  · rw [e4] at n1 n2
    have a6 : m_note v k x y 6 (n % 64) = if n % 64 = (v 4 0).toNat % 64 then wr (k + 16 * x + 256 * y) else v 6 (n % 64) := by
      unfold m_note up2
      rw [bAnd_63 h2 (by omega)]
      simp
    have b6 : r_note w k x y 145 n = if n = (v 4 0).toNat then wr (k + 16 * x + 256 * y) else w 145 n := by
      unfold r_note up2
      rw [h1]
      simp
    rw [a6, b6]
    by_cases e : (n : Int) = v 4 0
    · have en : n = (v 4 0).toNat := by omega
      rw [if_pos en, if_pos (by rw [en])]
    · rw [if_neg (by omega), if_neg (by omega)]
      exact h3 n (by omega) (by omega)
/-- the reference's results -/
def r_give (w : SV) (i : Nat) (r : Int) : SV := if w 125 i = 0 ∧ 0 ≤ w 142 i then up2 (up2 (up2 (up2 w 134 i r) 136 (w 142 i).toNat 4) 139 (w 142 i).toNat r) 142 i (-1) else up2 w 134 i r
theorem r_give_c {i : Nat} {r : Int} {c : Nat} (h : c ≠ 134 ∧ c ≠ 136 ∧ c ≠ 139 ∧ c ≠ 142) : r_give w i r c = w c := by
  funext j
  unfold r_give
  split
  · rw [up2_c h.2.2.2, up2_c h.2.2.1, up2_c h.2.1, up2_c h.1]
  · rw [up2_c h.1]
theorem m_gets_f {i c : Nat} {r : Int} (h : c ≠ 14 ∧ c ≠ 15 ∧ c ≠ 53 ∧ c ≠ 55) : m_gets v i r c = v c := funext fun j => m_gets_c h
/-- two stores' values at one place -/
theorem RA_gets (h : RA own v L w) {i : Nat} (hi : i < 8) (r : Int) (hr : -1 ≤ r ∧ r ≤ 20) : RA own (m_gets v i r) L (r_give w i r) := by
  have e : ∀ c, (c ≠ 14 ∧ c ≠ 15 ∧ c ≠ 53 ∧ c ≠ 55) → m_gets v i r c = v c := fun c hc => m_gets_f hc
  have f : ∀ c, (c ≠ 134 ∧ c ≠ 136 ∧ c ≠ 139 ∧ c ≠ 142) → r_give w i r c = w c := fun c hc => r_give_c hc
  have g : ∀ l, l < 100 ∨ 200 ≤ l → L l = L l := fun _ _ => rfl
  obtain ⟨h0, hk, hn, hs, ho, hp, he, hc, hm, ht, hx, hw⟩ := h
  obtain ⟨q1, q2, q3, q4, q5, q6, q7, q8⟩ := hc.1 i hi
  refine ⟨(R0_c h0 (fun c hc => e c (by simp only [List.mem_cons, List.not_mem_nil, or_false] at hc; omega)) (fun c hc => f c (by simp only [List.mem_cons, List.not_mem_nil, or_false] at hc; omega)) g), (Rk_c hk (fun c hc => e c (by simp only [List.mem_cons, List.not_mem_nil, or_false] at hc; omega)) (fun c hc => f c (by simp only [List.mem_cons, List.not_mem_nil, or_false] at hc; omega))), (Rn_c hn (fun c hc => e c (by simp only [List.mem_cons, List.not_mem_nil, or_false] at hc; omega)) (fun c hc => f c (by simp only [List.mem_cons, List.not_mem_nil, or_false] at hc; omega)) g), (Rs_c hs (fun c hc => e c (by simp only [List.mem_cons, List.not_mem_nil, or_false] at hc; omega)) (fun c hc => f c (by simp only [List.mem_cons, List.not_mem_nil, or_false] at hc; omega))), (Ro_c ho (fun c hc => e c (by simp only [List.mem_cons, List.not_mem_nil, or_false] at hc; omega)) (fun c hc => f c (by simp only [List.mem_cons, List.not_mem_nil, or_false] at hc; omega))), (Rp_c hp (fun c hc => e c (by simp only [List.mem_cons, List.not_mem_nil, or_false] at hc; omega)) (fun c hc => f c (by simp only [List.mem_cons, List.not_mem_nil, or_false] at hc; omega))), (Re_c he (fun c hc => e c (by simp only [List.mem_cons, List.not_mem_nil, or_false] at hc; omega)) (fun c hc => f c (by simp only [List.mem_cons, List.not_mem_nil, or_false] at hc; omega)) g), ⟨fun j hj => ?_, ?_⟩, (Rm_c hm (fun c hc => e c (by simp only [List.mem_cons, List.not_mem_nil, or_false] at hc; omega))), fun k hk => ?_, (Rx_c hx (fun c hc => e c (by simp only [List.mem_cons, List.not_mem_nil, or_false] at hc; omega)) (fun c hc => f c (by simp only [List.mem_cons, List.not_mem_nil, or_false] at hc; omega))), (Rw_c hw (fun c hc => e c (by simp only [List.mem_cons, List.not_mem_nil, or_false] at hc; omega)) (fun c hc => f c (by simp only [List.mem_cons, List.not_mem_nil, or_false] at hc; omega)) g)⟩
  · obtain ⟨p1, p2, p3, p4, p5, p6, p7, p8⟩ := hc.1 j hj
    unfold cP hasM
    rw [e 10 (by omega), e 11 (by omega), e 12 (by omega), e 13 (by omega), e 16 (by omega), e 17 (by omega), e 18 (by omega), e 20 (by omega), e 22 (by omega), f 109 (by omega), f 125 (by omega), f 126 (by omega), f 127 (by omega), f 128 (by omega), f 129 (by omega), f 130 (by omega), f 131 (by omega), f 132 (by omega), f 133 (by omega)]
    refine ⟨p1, p2, p3, p4, p5, ?_, ?_, ?_⟩
    · unfold m_gets r_give up2
      by_cases z : j = i
      · split <;> split <;> simp [z]
      · split <;> split <;> simp [z, p6]
    · unfold m_gets r_give up2
      by_cases z : j = i
      · subst z
        by_cases c1 : v 15 j < 0 ∨ v 10 j ≠ 0
        · rw [if_pos c1, if_neg (by omega)]
          simp [q7]
        · rw [if_neg c1, if_pos (by omega)]
          simp
      · split <;> split <;> simp [z, p7]
    · rw [m_gets_15]
      split <;> omega
  · have e20 : (m_gets v i r) 20 = v 20 := e 20 (by omega)
    unfold a_live5
    rw [e20, f 132 (by omega)]
    exact hc.2
  · obtain ⟨p1, p2, p3, p4, p5, p6, p7, p8, p9, p10, p11⟩ := ht k hk
    unfold tP
    rw [e 50 (by omega), e 51 (by omega), e 52 (by omega), e 54 (by omega), e 22 (by omega), f 137 (by omega), f 138 (by omega), f 140 (by omega), f 141 (by omega)]
    by_cases c1 : v 15 i < 0 ∨ v 10 i ≠ 0
    · have e1 : m_gets v i r = up2 v 14 i r := by rw [m_gets, if_pos c1]
      have e2 : r_give w i r = up2 w 134 i r := by rw [r_give, if_neg (by omega)]
      rw [e1, e2, up2_c (by omega), up2_c (by omega), up2_c (by omega), up2_c (by omega)]
      exact ⟨p1, p2, p3, p4, p5, p6, p7, p8, p9, p10, p11⟩
    · have e1 : m_gets v i r = up2 (up2 (up2 (up2 v 14 i r) 53 (v 15 i).toNat 4) 55 (v 15 i).toNat r) 15 i (-1) := by rw [m_gets, if_neg c1]
      have e2 : r_give w i r = up2 (up2 (up2 (up2 w 134 i r) 136 (w 142 i).toNat 4) 139 (w 142 i).toNat r) 142 i (-1) := by rw [r_give, if_pos (by omega)]
      have a53 : m_gets v i r 53 k = if k = (v 15 i).toNat then 4 else v 53 k := by
        rw [e1]; unfold up2; simp
      have a55 : m_gets v i r 55 k = if k = (v 15 i).toNat then r else v 55 k := by
        rw [e1]; unfold up2; simp
      have a136 : r_give w i r 136 k = if k = (v 15 i).toNat then 4 else w 136 k := by
        rw [e2, q7]; unfold up2; simp
      have a139 : r_give w i r 139 k = if k = (v 15 i).toNat then r else w 139 k := by
        rw [e2, q7]; unfold up2; simp
      rw [a53, a55, a136, a139]
      by_cases z : k = (v 15 i).toNat
      · simp only [z, if_true]
        rw [← z]
        exact ⟨by trivial, by omega, by omega, p4, p5, p6, p7, fun _ => by trivial, hr.1, hr.2, p11⟩
      · simp only [z, if_false]
        exact ⟨p1, p2, p3, p4, p5, p6, p7, p8, p9, p10, p11⟩
/-- leaving a line -/
def r_lv (w : SV) (i : Nat) : SV := up2 w 129 i (-1)
theorem RA_leave (hW : WF v L) (h : RA own v L w) {i : Nat} (hi : i < 8) (hl : 0 ≤ v 11 i) : RA own (lvV v i) (lvL v L i) (r_lv w i) := by
  have e : ∀ c, c ≠ 11 → lvV v i c = v c := fun c hc => funext fun j => up2_c hc
  have f : ∀ c, c ≠ 129 → r_lv w i c = w c := fun c hc => funext fun j => up2_c hc
  have z1 := ((hW.1 i hi).2.2.1 hl).1
  have g : ∀ l, l < 100 ∨ 200 ≤ l → lvL v L i l = L l := fun l hq => lvL_n hq z1
  obtain ⟨h0, hk, hn, hs, ho, hp, he, hc, hm, ht, hx, hw⟩ := h
  refine ⟨(R0_c h0 (fun c hc => e c (by simp only [List.mem_cons, List.not_mem_nil, or_false] at hc; omega)) (fun c hc => f c (by simp only [List.mem_cons, List.not_mem_nil, or_false] at hc; omega)) g), (Rk_c hk (fun c hc => e c (by simp only [List.mem_cons, List.not_mem_nil, or_false] at hc; omega)) (fun c hc => f c (by simp only [List.mem_cons, List.not_mem_nil, or_false] at hc; omega))), (Rn_c hn (fun c hc => e c (by simp only [List.mem_cons, List.not_mem_nil, or_false] at hc; omega)) (fun c hc => f c (by simp only [List.mem_cons, List.not_mem_nil, or_false] at hc; omega)) g), (Rs_c hs (fun c hc => e c (by simp only [List.mem_cons, List.not_mem_nil, or_false] at hc; omega)) (fun c hc => f c (by simp only [List.mem_cons, List.not_mem_nil, or_false] at hc; omega))), (Ro_c ho (fun c hc => e c (by simp only [List.mem_cons, List.not_mem_nil, or_false] at hc; omega)) (fun c hc => f c (by simp only [List.mem_cons, List.not_mem_nil, or_false] at hc; omega))), (Rp_c hp (fun c hc => e c (by simp only [List.mem_cons, List.not_mem_nil, or_false] at hc; omega)) (fun c hc => f c (by simp only [List.mem_cons, List.not_mem_nil, or_false] at hc; omega))), (Re_c he (fun c hc => e c (by simp only [List.mem_cons, List.not_mem_nil, or_false] at hc; omega)) (fun c hc => f c (by simp only [List.mem_cons, List.not_mem_nil, or_false] at hc; omega)) g), ⟨fun j hj => ?_, fun t ht => ?_⟩, (Rm_c hm (fun c hc => e c (by simp only [List.mem_cons, List.not_mem_nil, or_false] at hc; omega))), (Rt_c ht (fun c hc => e c (by simp only [List.mem_cons, List.not_mem_nil, or_false] at hc; omega)) (fun c hc => f c (by simp only [List.mem_cons, List.not_mem_nil, or_false] at hc; omega)) g), (Rx_c hx (fun c hc => e c (by simp only [List.mem_cons, List.not_mem_nil, or_false] at hc; omega)) (fun c hc => f c (by simp only [List.mem_cons, List.not_mem_nil, or_false] at hc; omega))), (Rw_c hw (fun c hc => e c (by simp only [List.mem_cons, List.not_mem_nil, or_false] at hc; omega)) (fun c hc => f c (by simp only [List.mem_cons, List.not_mem_nil, or_false] at hc; omega)) g)⟩
  · obtain ⟨p1, p2, p3, p4, p5, p6, p7, p8⟩ := hc.1 j hj
    unfold cP hasM
    rw [e 20 (by omega), f 109 (by omega), e 10 (by omega), e 12 (by omega), e 13 (by omega), e 14 (by omega), e 15 (by omega), e 16 (by omega), e 17 (by omega), e 18 (by omega), e 22 (by omega), f 125 (by omega), f 126 (by omega), f 127 (by omega), f 128 (by omega), f 130 (by omega), f 131 (by omega), f 132 (by omega), f 133 (by omega), f 134 (by omega), f 142 (by omega)]
    have a1 : lvV v i 11 j = if j = i then -1 else v 11 j := by unfold lvV up2; simp only [true_and]
    have a2 : r_lv w i 129 j = if j = i then -1 else w 129 j := by unfold r_lv up2; simp only [true_and]
    rw [a1, a2]
    by_cases z : j = i
    · simp only [z, if_true]
      rw [← z]
      exact ⟨p1, p2, by trivial, by omega, fun q => absurd q (by omega), p6, p7, p8⟩
    · simp only [z, if_false]
      exact ⟨p1, p2, p3, p4, p5, p6, p7, p8⟩
  · have ht' : a_live5 v t := by unfold a_live5 at *; rw [e 20 (by omega)] at ht; exact ht
    have hp := hc.2 t ht'
    rw [f 132 (by omega)]
    by_cases et : t = (v 11 i).toNat
    · have eL : lvL v L i (100 + t) = (L (100 + t)).erase i := by
        rw [et]; exact upL_s
      rw [eL]
      exact hp.sublist List.erase_sublist
    · have eL : lvL v L i (100 + t) = L (100 + t) := upL_n (by omega)
      rw [eL]
      exact hp
/-- joining a line -/
def r_jn (w : SV) (i t : Nat) (m : Int) : SV := up2 (up2 (up2 (up2 (up2 w 129 i t) 130 i m) 131 i (w 101 0)) 132 i (w 133 0)) 133 0 (w 133 0 + 1)
theorem r_jn_c {i t : Nat} {m : Int} {c : Nat} (h : c ≠ 129 ∧ c ≠ 130 ∧ c ≠ 131 ∧ c ≠ 132 ∧ c ≠ 133) : r_jn w i t m c = w c := by
  funext j
  unfold r_jn
  rw [up2_c h.2.2.2.2, up2_c h.2.2.2.1, up2_c h.2.2.1, up2_c h.2.1, up2_c h.1]
theorem RA_join (hW : WF v L) (h : RA own v L w) {i t : Nat} (hi : i < 8) (hl : v 11 i < 0) (ht : a_live5 v t) (hno : ¬ v 20 t = 1 → ¬ hasM v i t) (hbg : v 20 t = 2 → w 109 t = 1) {m : Int} (hm : 0 ≤ m ∧ m < v 22 t) : RA own (jnV v i t m) (jnL L i t) (r_jn w i t m) := by
  have e : ∀ c, (c ≠ 11 ∧ c ≠ 12 ∧ c ≠ 13) → jnV v i t m c = v c := fun c hc => funext fun j => jnV_c hc
  have f : ∀ c, (c ≠ 129 ∧ c ≠ 130 ∧ c ≠ 131 ∧ c ≠ 132 ∧ c ≠ 133) → r_jn w i t m c = w c := fun c hc => r_jn_c hc
  have ht2 := (WF_tg hW ht).1
  have g : ∀ l, l < 100 ∨ 200 ≤ l → jnL L i t l = L l := fun l hq => upL_n (by omega)
  have hn0 := hW.2.2.2.2.2.2
  obtain ⟨h0, hk, hn, hs, ho, hp, he, hc, hm', ht', hx, hw⟩ := h
  refine ⟨(R0_c h0 (fun c hc => e c (by simp only [List.mem_cons, List.not_mem_nil, or_false] at hc; omega)) (fun c hc => f c (by simp only [List.mem_cons, List.not_mem_nil, or_false] at hc; omega)) g), (Rk_c hk (fun c hc => e c (by simp only [List.mem_cons, List.not_mem_nil, or_false] at hc; omega)) (fun c hc => f c (by simp only [List.mem_cons, List.not_mem_nil, or_false] at hc; omega))), (Rn_c hn (fun c hc => e c (by simp only [List.mem_cons, List.not_mem_nil, or_false] at hc; omega)) (fun c hc => f c (by simp only [List.mem_cons, List.not_mem_nil, or_false] at hc; omega)) g), (Rs_c hs (fun c hc => e c (by simp only [List.mem_cons, List.not_mem_nil, or_false] at hc; omega)) (fun c hc => f c (by simp only [List.mem_cons, List.not_mem_nil, or_false] at hc; omega))), (Ro_c ho (fun c hc => e c (by simp only [List.mem_cons, List.not_mem_nil, or_false] at hc; omega)) (fun c hc => f c (by simp only [List.mem_cons, List.not_mem_nil, or_false] at hc; omega))), (Rp_c hp (fun c hc => e c (by simp only [List.mem_cons, List.not_mem_nil, or_false] at hc; omega)) (fun c hc => f c (by simp only [List.mem_cons, List.not_mem_nil, or_false] at hc; omega))), (Re_c he (fun c hc => e c (by simp only [List.mem_cons, List.not_mem_nil, or_false] at hc; omega)) (fun c hc => f c (by simp only [List.mem_cons, List.not_mem_nil, or_false] at hc; omega)) g), ⟨fun j hj => ?_, fun s hs => ?_⟩, (Rm_c hm' (fun c hc => e c (by simp only [List.mem_cons, List.not_mem_nil, or_false] at hc; omega))), (Rt_c ht' (fun c hc => e c (by simp only [List.mem_cons, List.not_mem_nil, or_false] at hc; omega)) (fun c hc => f c (by simp only [List.mem_cons, List.not_mem_nil, or_false] at hc; omega)) g), (Rx_c hx (fun c hc => e c (by simp only [List.mem_cons, List.not_mem_nil, or_false] at hc; omega)) (fun c hc => f c (by simp only [List.mem_cons, List.not_mem_nil, or_false] at hc; omega))), (Rw_c hw (fun c hc => e c (by simp only [List.mem_cons, List.not_mem_nil, or_false] at hc; omega)) (fun c hc => f c (by simp only [List.mem_cons, List.not_mem_nil, or_false] at hc; omega)) g)⟩
  · obtain ⟨p1, p2, p3, p4, p5, p6, p7, p8⟩ := hc.1 j hj
    unfold cP hasM
    rw [e 20 (by omega), f 109 (by omega), e 10 (by omega), e 14 (by omega), e 15 (by omega), e 16 (by omega), e 17 (by omega), e 18 (by omega), e 22 (by omega), f 125 (by omega), f 126 (by omega), f 127 (by omega), f 128 (by omega), f 134 (by omega), f 142 (by omega)]
    have a1 : jnV v i t m 11 j = if j = i then (t : Int) else v 11 j := by unfold jnV up2; simp
    have a2 : jnV v i t m 12 j = if j = i then m else v 12 j := by unfold jnV up2; simp
    have a3 : jnV v i t m 13 j = if j = i then v 2 0 else v 13 j := by unfold jnV up2; simp
    have b1 : r_jn w i t m 129 j = if j = i then (t : Int) else w 129 j := by unfold r_jn up2; simp
    have b2 : r_jn w i t m 130 j = if j = i then m else w 130 j := by unfold r_jn up2; simp
    have b3 : r_jn w i t m 131 j = if j = i then w 101 0 else w 131 j := by unfold r_jn up2; simp
    have b4 : r_jn w i t m 132 j = if j = i then w 133 0 else w 132 j := by unfold r_jn up2; simp
    have b5 : r_jn w i t m 133 0 = w 133 0 + 1 := by unfold r_jn up2; simp
    rw [a1, a2, a3, b1, b2, b3, b4, b5]
    by_cases z : j = i
    · simp only [z, if_true]
      rw [← z]
      refine ⟨p1, p2, by trivial, by omega, fun _ => ⟨by trivial, ?_, by omega, hm.1, ?_, hn0, ?_, ?_⟩, p6, p7, p8⟩
      · exact h0.2.1
      · rw [Int.toNat_natCast]; exact hm.2
      · rw [Int.toNat_natCast, z]; exact hno
      · rw [Int.toNat_natCast]; exact hbg
    · simp only [z, if_false]
      refine ⟨p1, p2, p3, p4, fun q => ?_, p6, p7, p8⟩
      obtain ⟨q1, q2, q3, q4⟩ := p5 q
      exact ⟨q1, q2, by omega, q4⟩
  · have hs' : a_live5 v s := by unfold a_live5 at *; rw [e 20 (by omega)] at hs; exact hs
    have hp := hc.2 s hs'
    have hmem := (hW.2.1 s hs').2
    have b4 : ∀ j, r_jn w i t m 132 j = if j = i then w 133 0 else w 132 j := by intro j; unfold r_jn up2; simp
    have ne : ∀ a, a ∈ L (100 + s) → a ≠ i := fun a ha z => by
      have := ((hmem a).mp ha).2
      rw [z] at this
      omega
    have hp2 : (L (100 + s)).Pairwise (fun a b => r_jn w i t m 132 a < r_jn w i t m 132 b) := by
      refine hp.imp_of_mem (fun {a b} ha hb hab => ?_)
      rw [b4, b4, if_neg (ne a ha), if_neg (ne b hb)]
      exact hab
    by_cases et : s = t
    · subst et
      have eL : jnL L i s (100 + s) = L (100 + s) ++ [i] := upL_s
      rw [eL, List.pairwise_append]
      refine ⟨hp2, by simp, fun a ha b hb => ?_⟩
      rw [List.mem_singleton] at hb
      subst hb
      rw [b4, b4, if_neg (ne a ha), if_pos rfl]
      have := (hmem a).mp ha
      exact ((hc.1 a this.1).2.2.2.2.1 (by omega)).2.2.1
    · have eL : jnL L i t (100 + s) = L (100 + s) := upL_n (by omega)
      rw [eL]
      exact hp2
end
