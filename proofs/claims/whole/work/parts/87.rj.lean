/-! What the law keeps between calls. -/
section
variable {v v1 v2 w w' : SV} {L L1 : SL} {own : Int → Nat}
theorem upL_1 {M : List Nat} {k : Nat} : upL L (100 + k) M 1 = L 1 := upL_n (by omega)
theorem mkL_1 {i t : Nat} {m : Int} : mkL v L i t m 1 = L 1 := by
  unfold mkL cif
  split
  · exact upL_1
  · rfl
theorem slS_1 {t : Nat} : ∀ (n : Nat) (s : SV × SL), (slS t n s).2 1 = s.2 1 := by
  intro n
  induction n with
  | zero => exact fun s => rfl
  | succ n ih =>
    intro s
    rw [slS]
    by_cases e : (s.2 (100 + t)).length = 0 ∨ vdF s.1 s.2 t = 21
    · rw [cif_t e]
    · rw [cif_f e, ih]
      exact upL_1
theorem lnS_1 : ∀ (n t : Nat) (s : SV × SL), (lnS n t s).2 1 = s.2 1 := by
  intro n
  induction n with
  | zero => exact fun t s => rfl
  | succ n ih =>
    intro t s
    rw [lnS, ih]
    by_cases e : s.1 20 t = 0
    · rw [cif_t e]
    · rw [cif_f e, slS_1]
theorem tkS_1 : ∀ (n k : Nat) (s : SV × SL), (tkS n k s).2 1 = s.2 1 := by
  intro n
  induction n with
  | zero => exact fun k s => rfl
  | succ n ih =>
    intro k s
    rw [tkS, ih]
    unfold hoS
    by_cases e : hoP s.1 k
    · rw [cif_t e]
      exact mkL_1
    · rw [cif_f e]
theorem stl_1 {s : SV × SL} : (stl s).2 1 = s.2 1 := (tkS_1 _ _ _).trans (lnS_1 _ _ _)
theorem caS_1 {s : SV × SL} {i t : Nat} {m : Int} : (caS i t m s).2 1 = s.2 1 := stl_1.trans mkL_1
theorem laS_1 {P : SV → Nat → Prop} {r : Int} : ∀ (n i : Nat) (s : SV × SL), (laS P r n i s).2 1 = s.2 1 := by
  intro n
  induction n with
  | zero => exact fun i s => rfl
  | succ n ih =>
    intro i s
    rw [laS, ih]
    unfold lgS
    by_cases e : P s.1 i
    · rw [cif_t e]
      exact upL_1
    · rw [cif_f e]
theorem tkN_1 : ∀ (n : Nat) (s : SV × SL), (tkN n s).2 1 = s.2 1 := by
  intro n
  induction n with
  | zero => exact fun s => rfl
  | succ n ih =>
    intro s
    rw [tkN, ih]
    exact stl_1.trans (laS_1 _ _ _)
theorem fiS_1 {s : SV × SL} {i o : Nat} : (fiS i o s).2 1 = s.2 1 := by
  unfold fiS
  by_cases z : s.1 0 0 = 1
  · rw [cif_t z]; exact stl_1
  · rw [cif_f z]
theorem sdS_1 {s : SV × SL} : (sdS s).2 1 = s.2 1 := laS_1 _ _ _
theorem caS_00 {s : SV × SL} {i t : Nat} {m : Int} : (caS i t m s).1 0 0 = s.1 0 0 := stl_00.trans mkV_00
theorem caS_2 {s : SV × SL} {i t : Nat} {m : Int} : (caS i t m s).1 2 0 = s.1 2 0 := stl_2.trans mkV_2
theorem tkO_00 {s : SV × SL} : (tkO s).1 0 0 = s.1 0 0 := (rtS_c _ _ _ _ _ (by omega)).trans (stl_00.trans ((laS_00 _ _ _).trans (show up2 s.1 2 0 (s.1 2 0 + 1) 0 0 = _ from up2_c (by omega))))
theorem tkN_00 : ∀ (n : Nat) (s : SV × SL), (tkN n s).1 0 0 = s.1 0 0 := by
  intro n
  induction n with
  | zero => exact fun s => rfl
  | succ n ih =>
    intro s
    rw [tkN, ih, tkO_00]
theorem tkN_2 : ∀ (n : Nat) (s : SV × SL), (tkN n s).1 2 0 = s.1 2 0 + n := by
  intro n
  induction n with
  | zero => intro s; show s.1 2 0 = s.1 2 0 + 0; omega
  | succ n ih =>
    intro s
    rw [tkN, ih, tkO_2]
    omega
theorem dpS_c2 {c j : Nat} (hc : c ≠ 4 ∧ c ≠ 6 ∧ c ≠ 24 ∧ c ≠ 25 ∧ c ≠ 26) : ∀ (n q : Nat) (v : SV), dpS n q v c j = v c j := by
  intro n
  induction n with
  | zero => exact fun q v => rfl
  | succ n ih =>
    intro q v
    rw [dpS, ih]
    by_cases e : v 20 q = 1
    · rw [cif_t e, m_destroyAll_c (by omega)]
    · rw [cif_f e]
theorem eaV_00 : eaV v L 0 0 = 3 := (dsS_c _ _ _ _ (by omega)).trans ((dpS_c2 (by omega) _ _ _).trans ((rtS_c _ _ _ _ _ (by omega)).trans up2_s))
theorem eaV_c {c j : Nat} (hc : c = 2 ∨ c = 10) : eaV v L c j = v c j := (dsS_c _ _ _ _ (by omega)).trans ((dpS_c2 (by omega) _ _ _).trans ((rtS_c _ _ _ _ _ (by omega)).trans (up2_c (by omega))))
theorem eiV_2 : eiV v L 2 0 = v 2 0 := by
  unfold eiV cif
  split
  · rfl
  · exact eaV_c (by omega)
/-- the end comes only where no method is left -/
theorem eiV_3 (h : ¬ v 0 0 = 3) : eiV v L 0 0 = 3 → ∀ i, i < 8 → eiV v L 10 i ≤ 0 := by
  unfold eiV
  by_cases z : anyM v
  · rw [cif_t z]
    exact fun y => absurd y h
  · rw [cif_f z]
    intro _ i hi
    rw [eaV_c (by omega)]
    rcases Int.lt_or_le 0 (v 10 i) with q | q
    · exact absurd ⟨i, hi, q⟩ z
    · exact q
theorem eiV_0 (h : ¬ v 0 0 = 0) : ¬ eiV v L 0 0 = 0 := by
  unfold eiV
  by_cases z : anyM v
  · rw [cif_t z]; exact h
  · rw [cif_f z, eaV_00]; decide
theorem emV_00 {i o : Nat} : emV v i o 0 0 = v 0 0 := (m_gets_c (by omega)).trans (emG_c (by omega))
theorem emV_2 {i o : Nat} : emV v i o 2 0 = v 2 0 := (m_gets_c (by omega)).trans (emG_c (by omega))
theorem fiS_2 {s : SV × SL} {i o : Nat} : (fiS i o s).1 2 0 = s.1 2 0 := by
  unfold fiS
  by_cases z : s.1 0 0 = 1
  · rw [cif_t z]; exact stl_2.trans emV_2
  · rw [cif_f z]; exact eiV_2.trans emV_2
theorem shS_c2 {s : SV × SL} : (shS s).1 2 0 = s.1 2 0 := (laS_2 _ _ _).trans (drS_c _ _ _ _ _ (by omega))
theorem sdS_2 {s : SV × SL} : (sdS s).1 2 0 = s.1 2 0 := eiV_2.trans ((up2_c (by omega)).trans shS_c2)
theorem saV_00 : saV v L 0 0 = 1 := (bgS_00 _ _ _).trans up2_s
theorem bgS_2 : ∀ (n q : Nat) (v : SV), bgS L n q v 2 0 = v 2 0 := by
  intro n
  induction n with
  | zero => exact fun q v => rfl
  | succ n ih =>
    intro q v
    rw [bgS, ih]
    by_cases e : v 20 q = 2 ∧ ¬ v 27 q = 0
    · rw [cif_t e]; exact m_begin_c 8 v q 2 0 (by unfold bgF; omega)
    · rw [cif_f e]
theorem saV_2 : saV v L 2 0 = v 2 0 := (bgS_2 _ _ _).trans (up2_c (by omega))
/-- after n calls -/
def RJ (own : Int → Nat) (n : Nat) (v : SV) (L : SL) : Prop := RI own n v L ∧ (v 0 0 = 0 → (∀ i, i < 8 → v 10 i = 0) ∧ L 1 = [] ∧ ∀ c : Nat, c < 8 → v 1 0 ≤ c → v 108 c = 0 ∧ v 109 c = 0) ∧ ∀ k, (L 1).length ≤ k → v 141 k = 0
theorem RJ_up {n : Nat} (h : RJ own n v L) : RJ own (n + 1) v L := by
  obtain ⟨⟨h1, h2, h3, h4, h5⟩, h6, h7⟩ := h
  exact ⟨⟨h1, h2, by omega, by omega, h5⟩, h6, h7⟩
theorem RJ_end {n : Nat} (h60 : v1 60 0 = 1) (hs : same v1 v2) (hR : RS own v1 L1 v2) (hp : pot v1 L1 v2 ≤ 4 * n) (h2 : v1 2 0 ≤ 50 * n) (h3 : v1 0 0 = 3 → ∀ i, i < 8 → v1 10 i ≤ 0) (h0 : ¬ v1 0 0 = 0) (h141 : ∀ k, (L1 1).length ≤ k → v1 141 k = 0) : RJ own n v2 L1 := by
  refine ⟨RI_end h60 hs hR hp h2 (fun z i hi => ?_), fun z => ?_, fun k hk => ?_⟩
  · have q1 := h3 z i hi
    have q2 := (hR.1.1 i hi).1.1.1
    omega
  · rw [hs 0 (by omega)] at z
    exact absurd z h0
  · rw [hs 141 (by omega)]
    exact h141 k hk
/-- in the class's own codes nothing above 59 -/
theorem RJ_141 {n : Nat} (h : RJ own n v L) (hh : ∀ c, 60 ≤ c → v1 c = v c) (hl : (L1 1).length = (L 1).length) : ∀ k, (L1 1).length ≤ k → v1 141 k = 0 := by
  intro k hk
  rw [hh 141 (by omega)]
  exact h.2.2 k (by omega)
end
