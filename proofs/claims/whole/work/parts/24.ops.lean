/-! The host's other steps as functions: ending a method, time, retiring, the end. -/
section
variable {v w : SV} {L : SL}
-- a method ends
noncomputable def emB (v : SV) (o : Nat) : Int := cif (¬ o = 0 ∧ ¬ isApp v o) 1 0
noncomputable def emR (v : SV) (o : Nat) : Int := cif (¬ o = 0 ∧ ¬ isApp v o) 8 o
def emA (v : SV) (i : Nat) : Nat := i + 8 * (v 10 i - 1).toNat
def emN (v : SV) (i : Nat) : SV := m_note (up2 v 10 i (v 10 i - 1)) 8 ((i : Int) + 1) (v 17 (emA v i))
noncomputable def emG (v : SV) (i o : Nat) : SV := cif (0 ≤ v 16 (emA v i)) (m_gb (emN v i) (v 16 (emA v i)).toNat (v 17 (emA v i)) (v 18 (emA v i)) o (emB v o)) (emN v i)
noncomputable def emV (v : SV) (i o : Nat) : SV := m_gets (emG v i o) i (emR v o)
theorem emN_c {i c j : Nat} (h : c ≠ 4 ∧ c ≠ 6 ∧ c ≠ 10) : emN v i c j = v c j := by
  unfold emN
  rw [m_note_c (by omega), up2_c h.2.2]
theorem emN_10 {i j : Nat} : emN v i 10 j = if j = i then v 10 i - 1 else v 10 j := by
  unfold emN
  rw [m_note_c (by omega)]
  unfold up2
  simp only [true_and]
theorem WF_emN (h : WF v L) {i : Nat} (hi : i < 8) (hd : 0 < v 10 i) (hl : v 11 i < 0) : WF (emN v i) L := by
  have e : ∀ c, (c ≠ 4 ∧ c ≠ 6 ∧ c ≠ 10) → ∀ j, emN v i c j = v c j := fun c hc j => emN_c hc
  obtain ⟨h1, h2, h3, h4, h5, h6, h7⟩ := h
  have e20 := e 20 (by omega)
  have e11 := e 11 (by omega)
  refine ⟨fun k hk => ?_, WFl_c h2 e11 e20, WFt_c h3 e20 (e 21 (by omega)) (fun j hj => by rw [e 24 (by omega)]; exact WFt_p h3 hj), sgOK_c h4 e20 (e 28 (by omega)) (fun i hi => by rw [e 30 (by omega)]; exact (h4 i hi).2.1), WFs_c h5 e20 (e 34 (by omega)) (e 40 (by omega)) (e 41 (by omega)) (e 43 (by omega)), WFk_c h6 e20 (e 50 (by omega)), by rw [e 2 (by omega)]; exact h7⟩
  obtain ⟨⟨q1, q2⟩, q3, q4, q5⟩ := h1 k hk
  unfold clOK rowOK a_live5
  rw [e 15 (by omega), e11, emN_10]
  simp only [e20, e 16 (by omega)]
  refine ⟨⟨?_, q2⟩, q3, fun z => ⟨(q4 z).1, (q4 z).2.1, ?_⟩, fun z1 z2 => ⟨?_, (q5 z1 z2).2⟩⟩
  · split
    · rename_i z; subst z; omega
    · exact q1
  · split
    · rename_i z; subst z; omega
    · exact (q4 z).2.2
  · split
    · rename_i z; subst z; have := (q5 z1 z2).1; omega
    · exact (q5 z1 z2).1
theorem WF_row (h : WF v L) {i j : Nat} (hi : i < 8) (hj : j < 4) (h0 : 0 ≤ v 16 (i + 8 * j)) : a_live5 v (v 16 (i + 8 * j)).toNat := ((h.1 i hi).1.2 j (Nat.zero_le j)).2 h0
theorem WF_emG (h : WF v L) {i : Nat} (hi : i < 8) (hd : 0 < v 10 i) (hl : v 11 i < 0) (o : Nat) : WF (emG v i o) L := by
  have h1 := WF_emN h hi hd hl
  have hr := (h.1 i hi).1.1
  unfold emG
  by_cases e : 0 ≤ v 16 (emA v i)
  · rw [cif_t e]
    refine WF_back h1 ?_ _ _ _ _
    exact live_c (WF_row h hi (j := (v 10 i - 1).toNat) (by omega) e) (emN_c (by omega))
  · rw [cif_f e]; exact h1
theorem emG_c {i o c j : Nat} (h : c ≠ 10 ∧ c ≠ 3 ∧ c ≠ 4 ∧ c ≠ 6 ∧ c ≠ 24 ∧ c ≠ 25 ∧ c ≠ 26 ∧ c ≠ 32 ∧ c ≠ 33 ∧ c ≠ 36 ∧ c ≠ 37 ∧ c ≠ 38 ∧ c ≠ 39) : emG v i o c j = v c j := by
  unfold emG cif
  split
  · rw [m_gb_c (by omega), emN_c (by omega)]
  · rw [emN_c (by omega)]
theorem WF_emV (h : WF v L) {i : Nat} (hi : i < 8) (hd : 0 < v 10 i) (hl : v 11 i < 0) (o : Nat) : WF (emV v i o) L := WF_gets (WF_emG h hi hd hl o) hi (by rw [emG_c (by omega)]; exact hl) _
-- time goes by
def woP (v : SV) (i : Nat) : Prop := 0 ≤ v 11 i ∧ ¬ v 21 (v 11 i).toNat = -1 ∧ v 13 i ≤ v 2 0 - v 21 (v 11 i).toNat
/-- caller i leaves its line with r, where P is so -/
noncomputable def lgS (P : SV → Nat → Prop) (r : Int) (i : Nat) (s : SV × SL) : SV × SL := cif (P s.1 i) (m_gets (lvV s.1 i) i r, lvL s.1 s.2 i) s
noncomputable def laS (P : SV → Nat → Prop) (r : Int) : Nat → Nat → SV × SL → SV × SL
  | 0, _, s => s
  | n + 1, i, s => laS P r n (i + 1) (lgS P r i s)
noncomputable def laN (P : SV → Nat → Prop) (r : Int) : Nat → Nat → SV × SL → Nat
  | 0, _, _ => 0
  | n + 1, i, s => cif (P s.1 i) 1 0 + laN P r n (i + 1) (lgS P r i s)
theorem laN_le {P : SV → Nat → Prop} {r : Int} : ∀ (n i : Nat) (s : SV × SL), laN P r n i s ≤ n := by
  intro n
  induction n with
  | zero => exact fun i s => Nat.le_refl 0
  | succ n ih =>
    intro i s
    rw [laN]
    have := ih (i + 1) (lgS P r i s)
    have h2 : cif (P s.1 i) 1 0 ≤ 1 := by unfold cif; split <;> omega
    omega
theorem WF_lgS {P : SV → Nat → Prop} {r : Int} {i : Nat} {s : SV × SL} (hP : P s.1 i → 0 ≤ s.1 11 i) (h : WF s.1 s.2) (hi : i < 8) : WF (lgS P r i s).1 (lgS P r i s).2 := by
  unfold lgS
  by_cases e : P s.1 i
  · rw [cif_t e]
    exact WF_gets (WF_leave h hi (hP e)) hi (by rw [lvV_s]; omega) _
  · rw [cif_f e]; exact h
theorem WF_laS {P : SV → Nat → Prop} {r : Int} (hP : ∀ v i, P v i → 0 ≤ v 11 i) : ∀ (n i : Nat) (s : SV × SL), i + n ≤ 8 → WF s.1 s.2 → WF (laS P r n i s).1 (laS P r n i s).2 := by
  intro n
  induction n with
  | zero => exact fun i s _ h => h
  | succ n ih =>
    intro i s hi h
    rw [laS]
    exact ih (i + 1) _ (by omega) (WF_lgS (hP _ _) h (by omega))
noncomputable def rtV (v : SV) (t : Nat) : SV := m_vanish v t (cif (v 36 t = 1) 2 6)
/-- sessions from j on, n of them, retire where P is so -/
noncomputable def rtS (P : SV → Nat → Prop) : Nat → Nat → SV → SV
  | 0, _, v => v
  | n + 1, j, v => rtS P n (j + 1) (cif (P v (8 + j)) (rtV v (8 + j)) v)
noncomputable def rtN (P : SV → Nat → Prop) : Nat → Nat → SV → Nat
  | 0, _, _ => 0
  | n + 1, j, v => cif (P v (8 + j)) 1 0 + rtN P n (j + 1) (cif (P v (8 + j)) (rtV v (8 + j)) v)
theorem rtN_le {P : SV → Nat → Prop} : ∀ (n i : Nat) (v : SV), rtN P n i v ≤ n := by
  intro n
  induction n with
  | zero => exact fun i s => Nat.le_refl 0
  | succ n ih =>
    intro i s
    rw [rtN]
    have := ih (i + 1) (cif (P s (8 + i)) (rtV s (8 + i)) s)
    have h2 : cif (P s (8 + i)) 1 0 ≤ 1 := by unfold cif; split <;> omega
    omega
theorem rtS_c {P : SV → Nat → Prop} : ∀ (n j : Nat) (v : SV) (d i : Nat), (d ≠ 4 ∧ d ≠ 6 ∧ d ≠ 36) → rtS P n j v d i = v d i := by
  intro n
  induction n with
  | zero => exact fun c v d i h => rfl
  | succ n ih =>
    intro c v d i h
    rw [rtS, ih _ _ d i h]
    by_cases e : P v (8 + c)
    · rw [cif_t e]; exact m_vanish_c h
    · rw [cif_f e]
theorem WF_rtS {P : SV → Nat → Prop} (h : WF v L) (n j : Nat) : WF (rtS P n j v) L := WF_c h (fun d i hd => rtS_c n j v d i (by unfold wfc at hd; omega))
/-- one tick; n ticks -/
def nwV (v : SV) : SV := up2 v 2 0 (v 2 0 + 1)
theorem WF_nwV (h : WF v L) : WF (nwV v) L := by
  have e : ∀ c, c ≠ 2 → ∀ j, nwV v c j = v c j := fun c hc j => up2_c hc
  obtain ⟨h1, h2, h3, h4, h5, h6, h7⟩ := h
  have e20 := e 20 (by omega)
  have e11 := e 11 (by omega)
  refine ⟨WFc_c h1 (e 10 (by omega)) e11 (e 15 (by omega)) (e 16 (by omega)) e20, WFl_c h2 e11 e20, WFt_c h3 e20 (e 21 (by omega)) (fun j hj => by rw [e 24 (by omega)]; exact WFt_p h3 hj), sgOK_c h4 e20 (e 28 (by omega)) (fun i hi => by rw [e 30 (by omega)]; exact (h4 i hi).2.1), WFs_c h5 e20 (e 34 (by omega)) (e 40 (by omega)) (e 41 (by omega)) (e 43 (by omega)), WFk_c h6 e20 (e 50 (by omega)), ?_⟩
  have : nwV v 2 0 = v 2 0 + 1 := up2_s
  omega
noncomputable def tk1 (s : SV × SL) : SV × SL := laS woP 10 8 0 (nwV s.1, s.2)
noncomputable def tk2 (s : SV × SL) : SV × SL := stl (tk1 s)
noncomputable def tkO (s : SV × SL) : SV × SL := (rtS idleLong ((tk2 s).2 0).length 0 (tk2 s).1, (tk2 s).2)
theorem WF_tk1 {s : SV × SL} (h : WF s.1 s.2) : WF (tk1 s).1 (tk1 s).2 := WF_laS (fun _ _ h => h.1) 8 0 _ (by omega) (WF_nwV h)
theorem WF_tk2 {s : SV × SL} (h : WF s.1 s.2) : WF (tk2 s).1 (tk2 s).2 := WF_stl (WF_tk1 h)
theorem WF_tkO {s : SV × SL} (h : WF s.1 s.2) : WF (tkO s).1 (tkO s).2 := WF_rtS (WF_tk2 h) _ _
noncomputable def tkN : Nat → SV × SL → SV × SL
  | 0, s => s
  | n + 1, s => tkN n (tkO s)
noncomputable def tkA : Nat → SV × SL → Nat
  | 0, _ => 0
  | n + 1, s => laN woP 10 8 0 (nwV s.1, s.2) + tkA n (tkO s)
noncomputable def tkB : Nat → SV × SL → Nat
  | 0, _ => 0
  | n + 1, s => rtN idleLong ((tk2 s).2 0).length 0 (tk2 s).1 + tkB n (tkO s)
-- the end
def plc (v : SV) (t : Nat) : Prop := ¬ v 36 t = 0
noncomputable def dpS : Nat → Nat → SV → SV
  | 0, _, v => v
  | n + 1, c, v => dpS n (c + 1) (cif (v 20 c = 1) (m_destroyAll v c) v)
theorem m_destroyAll_c {t c i : Nat} (h : c ≠ 4 ∧ c ≠ 6 ∧ c ≠ 24 ∧ c ≠ 25 ∧ c ≠ 26) : m_destroyAll v t c i = v c i := by
  unfold m_destroyAll
  rw [up2_c h.2.2.2.1, m_dst_c 4 v c i (by omega)]
theorem m_dst_p {t : Nat} : ∀ (n : Nat) (v : SV), poolOK v t → poolOK (m_dst v t n) t := by
  intro n
  induction n with
  | zero => exact fun v h => h
  | succ n ih =>
    intro v h
    rw [m_dst]
    by_cases e : 0 < v 24 t
    · rw [cif_t e]; exact ih _ (m_low_p h e 2 0 _)
    · rw [cif_f e]; exact h
theorem m_dst_o {t j : Nat} (hj : j ≠ t) : ∀ (n : Nat) (v : SV), m_dst v t n 24 j = v 24 j := by
  intro n
  induction n with
  | zero => exact fun v => rfl
  | succ n ih =>
    intro v
    rw [m_dst]
    by_cases e : 0 < v 24 t
    · rw [cif_t e, ih, m_note_c (by omega)]
      unfold m_low
      rw [up2_c (by omega), up2_i hj]
    · rw [cif_f e]
theorem WF_destroyAll (h : WF v L) {t : Nat} (ht : v 20 t = 1) : WF (m_destroyAll v t) L := by
  have e : ∀ c, (c ≠ 4 ∧ c ≠ 6 ∧ c ≠ 24 ∧ c ≠ 25 ∧ c ≠ 26) → ∀ i, m_destroyAll v t c i = v c i := fun c hc i => m_destroyAll_c hc
  have hp := (WF_tg h (Or.inl ht)).2.2 ht
  obtain ⟨h1, h2, h3, h4, h5, h6, h7⟩ := h
  have e20 := e 20 (by omega)
  have e11 := e 11 (by omega)
  refine ⟨WFc_c h1 (e 10 (by omega)) e11 (e 15 (by omega)) (e 16 (by omega)) e20, WFl_c h2 e11 e20, WFt_c h3 e20 (e 21 (by omega)) (fun j hj => ?_), sgOK_c h4 e20 (e 28 (by omega)) (fun i hi => by rw [e 30 (by omega)]; exact (h4 i hi).2.1), WFs_c h5 e20 (e 34 (by omega)) (e 40 (by omega)) (e 41 (by omega)) (e 43 (by omega)), WFk_c h6 e20 (e 50 (by omega)), by rw [e 2 (by omega)]; exact h7⟩
  unfold m_destroyAll
  rw [up2_c (by omega)]
  by_cases e : j = t
  · subst e
    exact (m_dst_p 4 v hp).2.2
  · rw [m_dst_o e]; exact WFt_p h3 hj
theorem WF_dpS : ∀ (n c : Nat) (v : SV), WF v L → WF (dpS n c v) L := by
  intro n
  induction n with
  | zero => exact fun c v h => h
  | succ n ih =>
    intro c v h
    rw [dpS]
    refine ih _ _ ?_
    by_cases e : v 20 c = 1
    · rw [cif_t e]; exact WF_destroyAll h e
    · rw [cif_f e]; exact h
/-- the latest begun of singletons below n -/
noncomputable def lbg (v : SV) : Nat → Option Nat
  | 0 => none
  | n + 1 => cif (v 20 n = 2 ∧ ¬ v 31 n = -1) (match lbg v n with | none => some n | some l => cif (v 31 l < v 31 n) (some n) (some l)) (lbg v n)
noncomputable def dsV (v : SV) (t : Nat) : SV := up2 (m_note v 2 0 (v 31 t)) 31 t (-1)
noncomputable def dsS : Nat → SV → SV
  | 0, v => v
  | n + 1, v => dsS n (match lbg v 8 with | none => v | some l => dsV v l)
theorem dsV_c {t c i : Nat} (h : c ≠ 4 ∧ c ≠ 6 ∧ c ≠ 31) : dsV v t c i = v c i := by
  unfold dsV
  rw [up2_c h.2.2, m_note_c (by omega)]
theorem dsS_c : ∀ (n : Nat) (v : SV) (c i : Nat), (c ≠ 4 ∧ c ≠ 6 ∧ c ≠ 31) → dsS n v c i = v c i := by
  intro n
  induction n with
  | zero => exact fun v c i h => rfl
  | succ n ih =>
    intro v c i h
    rw [dsS, ih _ c i h]
    cases e : lbg v 8 with
    | none => rfl
    | some q => exact dsV_c h
noncomputable def eaV (v : SV) (L : SL) : SV := dsS 8 (dpS 8 0 (rtS plc (L 0).length 0 (up2 v 0 0 3)))
theorem WF_ph (h : WF v L) (x : Int) : WF (up2 v 0 0 x) L := WF_c h (fun c i hc => up2_c (by unfold wfc at hc; omega))
theorem WF_eaV (h : WF v L) : WF (eaV v L) L := WF_c (WF_dpS 8 0 _ (WF_rtS (WF_ph h 3) _ _)) (fun c i hc => dsS_c 8 _ c i (by unfold wfc at hc; omega))
/-- some caller is in a method -/
def anyM (v : SV) : Prop := ∃ i, i < 8 ∧ 0 < v 10 i
noncomputable def eiV (v : SV) (L : SL) : SV := cif (anyM v) v (eaV v L)
theorem WF_eiV (h : WF v L) : WF (eiV v L) L := by
  unfold eiV
  by_cases e : anyM v
  · rw [cif_t e]; exact h
  · rw [cif_f e]; exact WF_eaV h
-- finish
noncomputable def fiS (i o : Nat) (s : SV × SL) : SV × SL := cif (s.1 0 0 = 1) (stl (emV s.1 i o, s.2)) (eiV (emV s.1 i o) s.2, s.2)
theorem WF_fiS {s : SV × SL} (h : WF s.1 s.2) {i : Nat} (hi : i < 8) (hd : 0 < s.1 10 i) (hl : s.1 11 i < 0) (o : Nat) : WF (fiS i o s).1 (fiS i o s).2 := by
  have h1 := WF_emV h hi hd hl o
  unfold fiS
  by_cases e : s.1 0 0 = 1
  · rw [cif_t e]; exact WF_stl (s := (emV s.1 i o, s.2)) h1
  · rw [cif_f e]; exact WF_eiV h1
-- call
noncomputable def caS (i t : Nat) (m : Int) (s : SV × SL) : SV × SL := stl (mkV s.1 s.2 i t m, mkL s.1 s.2 i t m)
-- shutdown
noncomputable def drS : Nat → Nat → SV → SV
  | 0, _, v => v
  | n + 1, k, v => drS n (k + 1) (cif (v 53 k = 1) (up2 v 53 k 3) v)
theorem drS_c : ∀ (n k : Nat) (v : SV) (d i : Nat), d ≠ 53 → drS n k v d i = v d i := by
  intro n
  induction n with
  | zero => exact fun c v d i h => rfl
  | succ n ih =>
    intro c v d i h
    rw [drS, ih _ _ d i h]
    by_cases e : v 53 c = 1
    · rw [cif_t e]; exact up2_c h
    · rw [cif_f e]
theorem WF_drS (h : WF v L) (n k : Nat) : WF (drS n k v) L := WF_c h (fun d i hd => drS_c n k v d i (by unfold wfc at hd; omega))
def wtP (v : SV) (i : Nat) : Prop := 0 ≤ v 11 i
noncomputable def shS (s : SV × SL) : SV × SL := laS wtP 13 8 0 (drS (s.2 1).length 0 s.1, s.2)
noncomputable def sdS (s : SV × SL) : SV × SL := (eiV (up2 (shS s).1 0 0 2) (shS s).2, (shS s).2)
theorem WF_sdS {s : SV × SL} (h : WF s.1 s.2) : WF (sdS s).1 (sdS s).2 := WF_eiV (WF_ph (WF_laS (fun _ _ h => h) 8 0 _ (by omega) (WF_drS h _ _)) 2)
-- start
noncomputable def bgS (L : SL) : Nat → Nat → SV → SV
  | 0, _, v => v
  | n + 1, c, v => bgS L n (c + 1) (cif (v 20 c = 2 ∧ ¬ v 27 c = 0) (m_begin L 8 v c) v)
theorem WF_bgS : ∀ (n c : Nat) (v : SV), WF v L → WF (bgS L n c v) L := by
  intro n
  induction n with
  | zero => exact fun c v h => h
  | succ n ih =>
    intro c v h
    rw [bgS]
    refine ih _ _ ?_
    by_cases e : v 20 c = 2 ∧ ¬ v 27 c = 0
    · rw [cif_t e]; exact WF_begin h e.1 8
    · rw [cif_f e]; exact h
noncomputable def cbN (v : SV) : Nat → Nat → Nat
  | 0, _ => 0
  | n + 1, c => cif (v 20 c = 2 ∧ ¬ v 29 c = 0) 1 0 + cbN v n (c + 1)
noncomputable def saV (v : SV) (L : SL) : SV := bgS L 8 0 (up2 v 0 0 1)
theorem WF_saV (h : WF v L) : WF (saV v L) L := WF_bgS 8 0 _ (WF_ph h 1)
-- the time is changed by ticks alone
theorem mkV_2 {i t : Nat} {m : Int} : mkV v L i t m 2 0 = v 2 0 := by
  have e : bgT v L t 2 0 = v 2 0 := bgT_c (by unfold bgF; omega)
  unfold mkV cif
  repeat' split
  · rw [jnV_c (by omega), e]
  · rw [m_enter_c (by omega), e]
  · rw [m_gets_c (by omega), e]
theorem slS_2 {t : Nat} : ∀ (n : Nat) (s : SV × SL), (slS t n s).1 2 0 = s.1 2 0 := by
  intro n
  induction n with
  | zero => exact fun s => rfl
  | succ n ih =>
    intro s
    rw [slS]
    by_cases e : (s.2 (100 + t)).length = 0 ∨ vdF s.1 s.2 t = 21
    · rw [cif_t e]
    · rw [cif_f e, ih]
      exact slV_c (by omega)
theorem lnS_2 : ∀ (n t : Nat) (s : SV × SL), (lnS n t s).1 2 0 = s.1 2 0 := by
  intro n
  induction n with
  | zero => exact fun t s => rfl
  | succ n ih =>
    intro t s
    rw [lnS, ih]
    by_cases e : s.1 20 t = 0
    · rw [cif_t e]
    · rw [cif_f e, slS_2]
theorem tkS_2 : ∀ (n k : Nat) (s : SV × SL), (tkS n k s).1 2 0 = s.1 2 0 := by
  intro n
  induction n with
  | zero => exact fun k s => rfl
  | succ n ih =>
    intro k s
    rw [tkS, ih]
    unfold hoS
    by_cases e : hoP s.1 k
    · rw [cif_t e]
      exact mkV_2.trans (hoW_c (by omega))
    · rw [cif_f e]
theorem stl_2 {s : SV × SL} : (stl s).1 2 0 = s.1 2 0 := (paS_c _ _ _ _ _ (by omega)).trans ((tkS_2 _ _ _).trans (lnS_2 _ _ _))
theorem laS_2 {P : SV → Nat → Prop} {r : Int} : ∀ (n i : Nat) (s : SV × SL), (laS P r n i s).1 2 0 = s.1 2 0 := by
  intro n
  induction n with
  | zero => exact fun i s => rfl
  | succ n ih =>
    intro i s
    rw [laS, ih]
    unfold lgS
    by_cases e : P s.1 i
    · rw [cif_t e]
      exact (m_gets_c (by omega)).trans (lvV_c (by omega))
    · rw [cif_f e]
theorem tkO_2 {s : SV × SL} : (tkO s).1 2 0 = s.1 2 0 + 1 := (rtS_c _ _ _ _ _ (by omega)).trans (stl_2.trans ((laS_2 _ _ _).trans (show up2 s.1 2 0 (s.1 2 0 + 1) 2 0 = _ from up2_s)))
end
