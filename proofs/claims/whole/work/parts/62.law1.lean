/-! What the class's calls leave to the reference; the relation over one store. -/
section
variable {v v' w w' : SV} {L L' : SL} {own : Int → Nat}
theorem RS_w2 (h : RS own v L w) (f : ∀ c, 100 ≤ c → w' c = w c) : RS own v L w' ∧ pot v L w' = pot v L w := by
  have e : ∀ c, c ≠ 999999 → v c = v c := fun _ _ => rfl
  have g : ∀ l, l < 100 ∨ 200 ≤ l → L l = L l := fun _ _ => rfl
  obtain ⟨hW, ⟨h0, hk, hn, hs, ho, hp, he, hc, hm, ht', hx, hw⟩, hR, hD⟩ := h
  refine ⟨⟨hW, ⟨(R0_c h0 (fun c hc => e c (by simp only [List.mem_cons, List.not_mem_nil, or_false] at hc; omega)) (fun c hc => f c (by simp only [List.mem_cons, List.not_mem_nil, or_false] at hc; omega)) g), (Rk_c hk (fun c hc => e c (by simp only [List.mem_cons, List.not_mem_nil, or_false] at hc; omega)) (fun c hc => f c (by simp only [List.mem_cons, List.not_mem_nil, or_false] at hc; omega))), (Rn_c hn (fun c hc => e c (by simp only [List.mem_cons, List.not_mem_nil, or_false] at hc; omega)) (fun c hc => f c (by simp only [List.mem_cons, List.not_mem_nil, or_false] at hc; omega)) g), (Rs_c hs (fun c hc => e c (by simp only [List.mem_cons, List.not_mem_nil, or_false] at hc; omega)) (fun c hc => f c (by simp only [List.mem_cons, List.not_mem_nil, or_false] at hc; omega))), (Ro_c ho (fun c hc => e c (by simp only [List.mem_cons, List.not_mem_nil, or_false] at hc; omega)) (fun c hc => f c (by simp only [List.mem_cons, List.not_mem_nil, or_false] at hc; omega))), (Rp_c hp (fun c hc => e c (by simp only [List.mem_cons, List.not_mem_nil, or_false] at hc; omega)) (fun c hc => f c (by simp only [List.mem_cons, List.not_mem_nil, or_false] at hc; omega))), (Re_c he (fun c hc => e c (by simp only [List.mem_cons, List.not_mem_nil, or_false] at hc; omega)) (fun c hc => f c (by simp only [List.mem_cons, List.not_mem_nil, or_false] at hc; omega)) g), (Rc_c hc (fun c hc => e c (by simp only [List.mem_cons, List.not_mem_nil, or_false] at hc; omega)) (fun c hc => f c (by simp only [List.mem_cons, List.not_mem_nil, or_false] at hc; omega))), hm, (Rt_c ht' (fun c hc => e c (by simp only [List.mem_cons, List.not_mem_nil, or_false] at hc; omega)) (fun c hc => f c (by simp only [List.mem_cons, List.not_mem_nil, or_false] at hc; omega)) g), (Rx_c hx (fun c hc => e c (by simp only [List.mem_cons, List.not_mem_nil, or_false] at hc; omega)) (fun c hc => f c (by simp only [List.mem_cons, List.not_mem_nil, or_false] at hc; omega))), (Rw_c hw (fun c hc => e c (by simp only [List.mem_cons, List.not_mem_nil, or_false] at hc; omega)) (fun c hc => f c (by simp only [List.mem_cons, List.not_mem_nil, or_false] at hc; omega)) g)⟩, (Rl_c hR (fun c hc => e c (by simp only [List.mem_cons, List.not_mem_nil, or_false] at hc; omega)) (fun c hc => f c (by simp only [List.mem_cons, List.not_mem_nil, or_false] at hc; omega))), Rd_c hD (fun c hc => rfl) (fun c hc => f c (by simp only [List.mem_cons, List.not_mem_nil, or_false] at hc; omega))⟩, ?_⟩
  unfold pot
  rw [f 133 (by omega)]
theorem RS_v2 (h : RS own v L w) (e : ∀ c, c < 100 → v' c = v c) : RS own v' L w ∧ pot v' L w = pot v L w := by
  have f : ∀ c, c ≠ 999999 → w c = w c := fun _ _ => rfl
  have g : ∀ l, l < 100 ∨ 200 ≤ l → L l = L l := fun _ _ => rfl
  obtain ⟨hW, ⟨h0, hk, hn, hs, ho, hp, he, hc, hm, ht', hx, hw⟩, hR, hD⟩ := h
  refine ⟨⟨WF_c hW (fun c i hc => congrFun (e c (by unfold wfc at hc; omega)) i), ⟨(R0_c h0 (fun c hc => e c (by simp only [List.mem_cons, List.not_mem_nil, or_false] at hc; omega)) (fun c hc => f c (by simp only [List.mem_cons, List.not_mem_nil, or_false] at hc; omega)) g), (Rk_c hk (fun c hc => e c (by simp only [List.mem_cons, List.not_mem_nil, or_false] at hc; omega)) (fun c hc => f c (by simp only [List.mem_cons, List.not_mem_nil, or_false] at hc; omega))), (Rn_c hn (fun c hc => e c (by simp only [List.mem_cons, List.not_mem_nil, or_false] at hc; omega)) (fun c hc => f c (by simp only [List.mem_cons, List.not_mem_nil, or_false] at hc; omega)) g), (Rs_c hs (fun c hc => e c (by simp only [List.mem_cons, List.not_mem_nil, or_false] at hc; omega)) (fun c hc => f c (by simp only [List.mem_cons, List.not_mem_nil, or_false] at hc; omega))), (Ro_c ho (fun c hc => e c (by simp only [List.mem_cons, List.not_mem_nil, or_false] at hc; omega)) (fun c hc => f c (by simp only [List.mem_cons, List.not_mem_nil, or_false] at hc; omega))), (Rp_c hp (fun c hc => e c (by simp only [List.mem_cons, List.not_mem_nil, or_false] at hc; omega)) (fun c hc => f c (by simp only [List.mem_cons, List.not_mem_nil, or_false] at hc; omega))), (Re_c he (fun c hc => e c (by simp only [List.mem_cons, List.not_mem_nil, or_false] at hc; omega)) (fun c hc => f c (by simp only [List.mem_cons, List.not_mem_nil, or_false] at hc; omega)) g), (Rc_c hc (fun c hc => e c (by simp only [List.mem_cons, List.not_mem_nil, or_false] at hc; omega)) (fun c hc => f c (by simp only [List.mem_cons, List.not_mem_nil, or_false] at hc; omega))), (Rm_c hm (fun c hc => e c (by simp only [List.mem_cons, List.not_mem_nil, or_false] at hc; omega))), (Rt_c ht' (fun c hc => e c (by simp only [List.mem_cons, List.not_mem_nil, or_false] at hc; omega)) (fun c hc => f c (by simp only [List.mem_cons, List.not_mem_nil, or_false] at hc; omega)) g), (Rx_c hx (fun c hc => e c (by simp only [List.mem_cons, List.not_mem_nil, or_false] at hc; omega)) (fun c hc => f c (by simp only [List.mem_cons, List.not_mem_nil, or_false] at hc; omega))), (Rw_c hw (fun c hc => e c (by simp only [List.mem_cons, List.not_mem_nil, or_false] at hc; omega)) (fun c hc => f c (by simp only [List.mem_cons, List.not_mem_nil, or_false] at hc; omega)) g)⟩, (Rl_c hR (fun c hc => e c (by simp only [List.mem_cons, List.not_mem_nil, or_false] at hc; omega)) (fun c hc => f c (by simp only [List.mem_cons, List.not_mem_nil, or_false] at hc; omega))), Rd_c hD (fun c hc => e c (by simp only [List.mem_cons, List.not_mem_nil, or_false] at hc; omega)) (fun c hc => rfl)⟩, ?_⟩
  unfold pot
  rw [e 4 (by omega), pt1_f (e 20 (by omega)) (e 25 (by omega)) (e 29 (by omega)) (e 30 (by omega)) (e 31 (by omega)) (e 36 (by omega)), pt2_f (e 11 (by omega)), pt3_f (e 53 (by omega))]
-- codes from 60 on are not the class's
theorem mkV_hi {i t c j : Nat} {m : Int} (hc : 60 ≤ c) : mkV v L i t m c j = v c j := by
  have e : bgT v L t c j = v c j := bgT_c (by unfold bgF; omega)
  unfold mkV cif
  repeat' split
  · rw [jnV_c (by omega), e]
  · rw [m_enter_c (by omega), e]
  · rw [m_gets_c (by omega), e]
theorem slS_hi {t c j : Nat} (hc : 60 ≤ c) : ∀ (n : Nat) (s : SV × SL), (slS t n s).1 c j = s.1 c j := by
  intro n
  induction n with
  | zero => exact fun s => rfl
  | succ n ih =>
    intro s
    rw [slS]
    by_cases e : (s.2 (100 + t)).length = 0 ∨ vdF s.1 s.2 t = 21
    · rw [cif_t e]
    · rw [cif_f e, ih]
      exact slV_c (by omega)
theorem lnS_hi {c j : Nat} (hc : 60 ≤ c) : ∀ (n t : Nat) (s : SV × SL), (lnS n t s).1 c j = s.1 c j := by
  intro n
  induction n with
  | zero => exact fun t s => rfl
  | succ n ih =>
    intro t s
    rw [lnS, ih]
    by_cases e : s.1 20 t = 0
    · rw [cif_t e]
    · rw [cif_f e, slS_hi hc]
theorem tkS_hi {c j : Nat} (hc : 60 ≤ c) : ∀ (n k : Nat) (s : SV × SL), (tkS n k s).1 c j = s.1 c j := by
  intro n
  induction n with
  | zero => exact fun k s => rfl
  | succ n ih =>
    intro k s
    rw [tkS, ih]
    unfold hoS
    by_cases e : hoP s.1 k
    · rw [cif_t e]
      exact (mkV_hi hc).trans (hoW_c (by omega))
    · rw [cif_f e]
theorem stl_hi {s : SV × SL} {c j : Nat} (hc : 60 ≤ c) : (stl s).1 c j = s.1 c j := (paS_c _ _ _ _ _ (by omega)).trans ((tkS_hi hc _ _ _).trans (lnS_hi hc _ _ _))
theorem caS_hi {s : SV × SL} {i t c j : Nat} {m : Int} (hc : 60 ≤ c) : (caS i t m s).1 c j = s.1 c j := (stl_hi hc).trans (mkV_hi hc)
theorem laS_hi {P : SV → Nat → Prop} {r : Int} {c j : Nat} (hc : 60 ≤ c) : ∀ (n i : Nat) (s : SV × SL), (laS P r n i s).1 c j = s.1 c j := by
  intro n
  induction n with
  | zero => exact fun i s => rfl
  | succ n ih =>
    intro i s
    rw [laS, ih]
    unfold lgS
    by_cases e : P s.1 i
    · rw [cif_t e]
      exact (m_gets_c (by omega)).trans (lvV_c (by omega))
    · rw [cif_f e]
theorem tkO_hi {s : SV × SL} {c j : Nat} (hc : 60 ≤ c) : (tkO s).1 c j = s.1 c j := (rtS_c _ _ _ _ _ (by omega)).trans ((stl_hi hc).trans ((laS_hi hc _ _ _).trans (show up2 s.1 2 0 (s.1 2 0 + 1) c j = _ from up2_c (by omega))))
theorem tkN_hi {c j : Nat} (hc : 60 ≤ c) : ∀ (n : Nat) (s : SV × SL), (tkN n s).1 c j = s.1 c j := by
  intro n
  induction n with
  | zero => exact fun s => rfl
  | succ n ih =>
    intro s
    rw [tkN, ih, tkO_hi hc]
theorem dpS_hi {c j : Nat} (hc : 60 ≤ c) : ∀ (n q : Nat) (v : SV), dpS n q v c j = v c j := by
  intro n
  induction n with
  | zero => exact fun q v => rfl
  | succ n ih =>
    intro q v
    rw [dpS, ih]
    by_cases e : v 20 q = 1
    · rw [cif_t e, m_destroyAll_c (by omega)]
    · rw [cif_f e]
theorem eaV_hi {c j : Nat} (hc : 60 ≤ c) : eaV v L c j = v c j := (dsS_c _ _ _ _ (by omega)).trans ((dpS_hi hc _ _ _).trans ((rtS_c _ _ _ _ _ (by omega)).trans (up2_c (by omega))))
theorem eiV_hi {c j : Nat} (hc : 60 ≤ c) : eiV v L c j = v c j := by
  unfold eiV cif
  split
  · rfl
  · exact eaV_hi hc
theorem fiS_hi {s : SV × SL} {i o c j : Nat} (hc : 60 ≤ c) : (fiS i o s).1 c j = s.1 c j := by
  have e : emV s.1 i o c j = s.1 c j := (m_gets_c (by omega)).trans (emG_c (by omega))
  unfold fiS
  by_cases z : s.1 0 0 = 1
  · rw [cif_t z]; exact (stl_hi hc).trans e
  · rw [cif_f z]; exact (eiV_hi hc).trans e
theorem sdS_hi {s : SV × SL} {c j : Nat} (hc : 60 ≤ c) : (sdS s).1 c j = s.1 c j := (eiV_hi hc).trans ((up2_c (by omega)).trans ((laS_hi hc _ _ _).trans (drS_c _ _ _ _ _ (by omega))))
theorem bgS_hi {c j : Nat} (hc : 60 ≤ c) : ∀ (n q : Nat) (v : SV), bgS L n q v c j = v c j := by
  intro n
  induction n with
  | zero => exact fun q v => rfl
  | succ n ih =>
    intro q v
    rw [bgS, ih]
    by_cases e : v 20 q = 2 ∧ ¬ v 27 q = 0
    · rw [cif_t e]; exact m_begin_c 8 v q c j (by unfold bgF; omega)
    · rw [cif_f e]
theorem saV_hi {c j : Nat} (hc : 60 ≤ c) : saV v L c j = v c j := (bgS_hi hc _ _ _).trans (up2_c (by omega))
/-- one store: class and reference stand as they should, after n calls -/
def RI (own : Int → Nat) (n : Nat) (v : SV) (L : SL) : Prop := RS own v L v ∧ v 60 0 = 1 ∧ pot v L v ≤ 4 * n ∧ v 2 0 ≤ 50 * n ∧ (v 0 0 = 3 → ∀ i, i < 8 → v 10 i = 0)
/-- the class has made its call, the reference not yet: the relation speaks of the old values -/
theorem RI_mid {n : Nat} {v1 : SV} (h : RI own n v L) (hh : ∀ c, 60 ≤ c → v1 c = v c) : RS own v L v1 ∧ v1 60 0 = 1 ∧ pot v L v1 ≤ 4 * n := by
  obtain ⟨g1, g2⟩ := RS_w2 h.1 (fun c hc => hh c (by omega))
  exact ⟨g1, by rw [hh 60 (by omega)]; exact h.2.1, by rw [g2]; exact h.2.2.1⟩
/-- both have made it -/
theorem RI_end {n : Nat} {v1 v2 : SV} {L1 : SL} (h60 : v1 60 0 = 1) (hs : same v1 v2) (hR : RS own v1 L1 v2) (hp : pot v1 L1 v2 ≤ 4 * n) (h2 : v1 2 0 ≤ 50 * n) (h3 : v1 0 0 = 3 → ∀ i, i < 8 → v1 10 i = 0) : RI own n v2 L1 := by
  obtain ⟨g1, g2⟩ := RS_v2 hR (fun c hc => hs c (Or.inl hc))
  refine ⟨g1, by rw [hs 60 (by omega)]; exact h60, by rw [g2]; exact hp, by rw [hs 2 (by omega)]; exact h2, ?_⟩
  rw [hs 0 (by omega), hs 10 (by omega)]
  exact h3
end
