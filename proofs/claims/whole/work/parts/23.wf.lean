/-! The class's structure: what every call keeps; the host's steps as functions. -/
section
variable {v w : SV} {L : SL}
theorem nd_len : ∀ (n : Nat) (l : List Nat), l.Nodup → (∀ a ∈ l, a < n) → l.length ≤ n := by
  intro n
  induction n with
  | zero =>
    intro l _ h
    cases l with
    | nil => exact Nat.le_refl 0
    | cons a l => exact absurd (h a (by simp)) (by omega)
  | succ n ih =>
    intro l hd h
    have h1 := ih (l.erase n) (hd.erase n) (fun a ha => by
      have := h a (List.mem_of_mem_erase ha)
      have : a ≠ n := fun e => by subst e; exact (hd.not_mem_erase) ha
      omega)
    have := List.length_erase (a := n) (l := l)
    split at this <;> omega
/-- a caller: its row, its work, where it waits -/
def clOK (v : SV) (L : SL) (i : Nat) : Prop := rowOK v i ∧ v 15 i < (L 1).length ∧ (0 ≤ v 11 i → v 11 i < 32 ∧ a_live5 v (v 11 i).toNat ∧ v 10 i < 4) ∧ (6 ≤ i → v 15 i < 0 → v 10 i = 0 ∧ v 11 i < 0)
def WFc (v : SV) (L : SL) : Prop := ∀ i, i < 8 → clOK v L i
def WFl (v : SV) (L : SL) : Prop := ∀ t, a_live5 v t → (L (100 + t)).Nodup ∧ ∀ i, i ∈ L (100 + t) ↔ i < 8 ∧ v 11 i = t
def WFt (v : SV) : Prop := ∀ t, ¬ v 20 t = 0 → tgOK v t ∧ -1 ≤ v 21 t
def WFs (v : SV) (L : SL) : Prop := (∀ c, c < 8 → v 40 c = 0 ∨ stOK v L c ∧ 0 ≤ v 41 c) ∧ (L 0).length ≤ 24 ∧ ∀ j, j < (L 0).length → (L 0).getD j 0 = 8 + j ∧ v 20 (8 + j) = 3 ∧ v 40 (v 34 (8 + j)).toNat = 1 ∧ 0 ≤ v 43 (v 34 (8 + j)).toNat
def WFk (v : SV) (L : SL) : Prop := (L 1).length ≤ 24 ∧ ∀ k, k < (L 1).length → (L 1).getD k 0 = k ∧ 0 ≤ v 50 k ∧ a_live5 v (v 50 k).toNat
def WF (v : SV) (L : SL) : Prop := WFc v L ∧ WFl v L ∧ WFt v ∧ sgOK v L ∧ WFs v L ∧ WFk v L ∧ 0 ≤ v 2 0
def wfc (c : Nat) : Prop := c = 2 ∨ c = 10 ∨ c = 11 ∨ c = 15 ∨ c = 16 ∨ c = 20 ∨ c = 21 ∨ c = 24 ∨ c = 28 ∨ c = 30 ∨ c = 34 ∨ c = 40 ∨ c = 41 ∨ c = 43 ∨ c = 50
theorem rowOK_c {i : Nat} (h : rowOK v i) (h10 : w 10 i = v 10 i) (h16 : ∀ j, w 16 j = v 16 j) (h20 : ∀ j, w 20 j = v 20 j) : rowOK w i := by
  unfold rowOK a_live5 at *
  simp only [h10, h16, h20]
  exact h
theorem WFc_c (h : WFc v L) (h10 : ∀ i, w 10 i = v 10 i) (h11 : ∀ i, w 11 i = v 11 i) (h15 : ∀ i, w 15 i = v 15 i) (h16 : ∀ j, w 16 j = v 16 j) (h20 : ∀ j, w 20 j = v 20 j) : WFc w L := by
  unfold WFc clOK rowOK a_live5 at *
  simp only [h10, h11, h15, h16, h20]
  exact h
theorem WFl_c (h : WFl v L) (h11 : ∀ i, w 11 i = v 11 i) (h20 : ∀ j, w 20 j = v 20 j) : WFl w L := by
  unfold WFl a_live5 at *
  simp only [h11, h20]
  exact h
theorem WFt_c (h : WFt v) (h20 : ∀ j, w 20 j = v 20 j) (h21 : ∀ j, w 21 j = v 21 j) (h24 : ∀ j, v 20 j = 1 → 0 ≤ w 24 j ∧ w 24 j ≤ 4) : WFt w := by
  intro t ht
  rw [h20] at ht
  obtain ⟨⟨h1, h2, h3⟩, h4⟩ := h t ht
  rw [h21]
  refine ⟨⟨h1, by unfold a_live5; rw [h20]; exact h2, fun e => ?_⟩, h4⟩
  rw [h20] at e
  exact ⟨by rw [h20]; exact e, h1, (h24 t e).1, (h24 t e).2⟩
theorem WFs_c (h : WFs v L) (h20 : ∀ j, w 20 j = v 20 j) (h34 : ∀ j, w 34 j = v 34 j) (h40 : ∀ j, w 40 j = v 40 j) (h41 : ∀ j, w 41 j = v 41 j) (h43 : ∀ j, w 43 j = v 43 j) : WFs w L := by
  unfold WFs stOK at *
  simp only [h20, h34, h40, h41, h43]
  exact h
theorem WFk_c (h : WFk v L) (h20 : ∀ j, w 20 j = v 20 j) (h50 : ∀ j, w 50 j = v 50 j) : WFk w L := by
  unfold WFk a_live5 at *
  simp only [h20, h50]
  exact h
theorem WFt_p (h : WFt v) {t : Nat} (e : v 20 t = 1) : 0 ≤ v 24 t ∧ v 24 t ≤ 4 := ((h t (by omega)).1.2.2 e).2.2
theorem WF_c (h : WF v L) (hc : ∀ c i, wfc c → w c i = v c i) : WF w L := by
  obtain ⟨h1, h2, h3, h4, h5, h6, h7⟩ := h
  have e : ∀ c, wfc c → ∀ i, w c i = v c i := fun c h i => hc c i h
  have e20 := e 20 (by unfold wfc; omega)
  have e24 := e 24 (by unfold wfc; omega)
  have e30 := e 30 (by unfold wfc; omega)
  have e11 := e 11 (by unfold wfc; omega)
  refine ⟨WFc_c h1 (e 10 (by unfold wfc; omega)) e11 (e 15 (by unfold wfc; omega)) (e 16 (by unfold wfc; omega)) e20, WFl_c h2 e11 e20, WFt_c h3 e20 (e 21 (by unfold wfc; omega)) (fun j hj => by rw [e24]; exact WFt_p h3 hj), sgOK_c h4 e20 (e 28 (by unfold wfc; omega)) (fun i hi => by rw [e30]; exact (h4 i hi).2.1), WFs_c h5 e20 (e 34 (by unfold wfc; omega)) (e 40 (by unfold wfc; omega)) (e 41 (by unfold wfc; omega)) (e 43 (by unfold wfc; omega)), WFk_c h6 e20 (e 50 (by unfold wfc; omega)), ?_⟩
  rw [hc 2 0 (by unfold wfc; omega)]
  exact h7
theorem m_note_c {k x y : Int} {c i : Nat} (h : c ≠ 4 ∧ c ≠ 6) : m_note v k x y c i = v c i := by
  unfold m_note
  rw [up2_c h.1, up2_c h.2]
theorem WF_note (h : WF v L) (k x y : Int) : WF (m_note v k x y) L := WF_c h (fun c i hc => m_note_c (by unfold wfc at hc; omega))
theorem WF_line (h : WF v L) {t : Nat} (ht : a_live5 v t) : (L (100 + t)).length ≤ 8 ∧ ∀ j, j < (L (100 + t)).length → (L (100 + t)).getD j 0 < 8 := by
  obtain ⟨h1, h2⟩ := h.2.1 t ht
  refine ⟨nd_len 8 _ h1 (fun a ha => ((h2 a).mp ha).1), fun j hj => ?_⟩
  refine ((h2 _).mp ?_).1
  rw [List.getD_eq_getElem?_getD, List.getElem?_eq_getElem hj]
  exact List.getElem_mem hj
theorem WF_tg (h : WF v L) {t : Nat} (ht : a_live5 v t) : tgOK v t := (h.2.2.1 t (by rcases ht with e | e | e <;> omega)).1
theorem WF_take (h : WF v L) {t : Nat} (ht : a_live5 v t) (m : Int) : WF (m_tv v t m) L := by
  have e : ∀ c, (c ≠ 4 ∧ c ≠ 5 ∧ c ≠ 6 ∧ c ≠ 24 ∧ c ≠ 25 ∧ c ≠ 32 ∧ c ≠ 33 ∧ c ≠ 36 ∧ c ≠ 37) → ∀ i, m_tv v t m c i = v c i := fun c hc i => m_tv_c hc
  obtain ⟨h1, h2, h3, h4, h5, h6, h7⟩ := h
  have e20 := e 20 (by omega)
  have e11 := e 11 (by omega)
  refine ⟨WFc_c h1 (e 10 (by omega)) e11 (e 15 (by omega)) (e 16 (by omega)) e20, WFl_c h2 e11 e20, WFt_c h3 e20 (e 21 (by omega)) (fun j hj => ?_), sgOK_c h4 e20 (e 28 (by omega)) (fun i hi => by rw [e 30 (by omega)]; exact (h4 i hi).2.1), WFs_c h5 e20 (e 34 (by omega)) (e 40 (by omega)) (e 41 (by omega)) (e 43 (by omega)), WFk_c h6 e20 (e 50 (by omega)), by rw [e 2 (by omega)]; exact h7⟩
  have hp := WFt_p h3 hj
  unfold m_tv cif
  repeat' split
  all_goals simp only [m_fresh, m_note, up2, Nat.reduceEqDiff, false_and, true_and, if_false, ↓reduceIte]
  all_goals first | exact hp | skip
  split
  · rename_i q
    subst q
    omega
  · exact hp
theorem WF_push (h : WF v L) {i t : Nat} (hi : i < 8) (ht : a_live5 v t) (hd : v 10 i < 4) (hl : v 11 i < 0) (hw : 6 ≤ i → 0 ≤ v 15 i) (x m : Int) : WF (m_push v i t x m) L := by
  have e : ∀ c, (c ≠ 10 ∧ c ≠ 16 ∧ c ≠ 17 ∧ c ≠ 18) → ∀ j, m_push v i t x m c j = v c j := by
    intro c hc j
    unfold m_push
    rw [up2_c hc.1, up2_c hc.2.2.2, up2_c hc.2.2.1, up2_c hc.2.1]
  have ht2 := (WF_tg h ht).1
  obtain ⟨h1, h2, h3, h4, h5, h6, h7⟩ := h
  have e20 := e 20 (by omega)
  have e11 := e 11 (by omega)
  refine ⟨fun k hk => ?_, WFl_c h2 e11 e20, WFt_c h3 e20 (e 21 (by omega)) (fun j hj => by rw [e 24 (by omega)]; exact WFt_p h3 hj), sgOK_c h4 e20 (e 28 (by omega)) (fun i hi => by rw [e 30 (by omega)]; exact (h4 i hi).2.1), WFs_c h5 e20 (e 34 (by omega)) (e 40 (by omega)) (e 41 (by omega)) (e 43 (by omega)), WFk_c h6 e20 (e 50 (by omega)), by rw [e 2 (by omega)]; exact h7⟩
  obtain ⟨⟨q1, q2⟩, q3, q4, q5⟩ := h1 k hk
  have hr := (h1 i hi).1.1
  unfold clOK rowOK a_live5
  rw [e 15 (by omega), e11]
  simp only [e20]
  have e10 : m_push v i t x m 10 k = if k = i then v 10 i + 1 else v 10 k := by
    unfold m_push
    simp only [up2, Nat.reduceEqDiff, false_and, true_and, if_false, ↓reduceIte]
  have e16 : ∀ j, m_push v i t x m 16 j = if j = i + 8 * (v 10 i).toNat then (t : Int) else v 16 j := by
    intro j
    unfold m_push
    simp only [up2, Nat.reduceEqDiff, false_and, true_and, if_false, ↓reduceIte]
  refine ⟨⟨?_, fun j hj => ?_⟩, q3, fun z => ⟨(q4 z).1, (q4 z).2.1, ?_⟩, fun z1 z2 => ?_⟩
  · rw [e10]
    split <;> omega
  · rw [e16]
    split
    · exact ⟨by omega, fun _ => by simpa using ht⟩
    · exact q2 j hj
  · rw [e10]
    split
    · rename_i z3; subst z3; omega
    · exact (q4 z).2.2
  · rw [e10]
    split
    · rename_i z3; subst z3; have := hw z1; omega
    · exact q5 z1 z2
theorem m_push_c {i t c j : Nat} {x m : Int} (h : c ≠ 10 ∧ c ≠ 16 ∧ c ≠ 17 ∧ c ≠ 18) : m_push v i t x m c j = v c j := by
  unfold m_push
  rw [up2_c h.1, up2_c h.2.2.2, up2_c h.2.2.1, up2_c h.2.1]
theorem m_enter_c {i t c j : Nat} {m : Int} (h : c ≠ 4 ∧ c ≠ 5 ∧ c ≠ 6 ∧ c ≠ 24 ∧ c ≠ 25 ∧ c ≠ 32 ∧ c ≠ 33 ∧ c ≠ 36 ∧ c ≠ 37 ∧ c ≠ 10 ∧ c ≠ 16 ∧ c ≠ 17 ∧ c ≠ 18) : m_enter v i t m c j = v c j := by
  unfold m_enter
  rw [m_note_c (by omega), m_push_c (by omega), m_tv_c (by omega)]
theorem WF_enter (h : WF v L) {i t : Nat} (hi : i < 8) (ht : a_live5 v t) (hd : v 10 i < 4) (hl : v 11 i < 0) (hw : 6 ≤ i → 0 ≤ v 15 i) (m : Int) : WF (m_enter v i t m) L := by
  unfold m_enter
  refine WF_note (WF_push (WF_take h ht m) hi (live_c ht (m_tv_c (by omega))) ?_ ?_ ?_ _ _) _ _ _
  · rw [m_tv_c (by omega)]; exact hd
  · rw [m_tv_c (by omega)]; exact hl
  · rw [m_tv_c (by omega)]; exact hw
theorem m_gets_c {i c j : Nat} {r : Int} (h : c ≠ 14 ∧ c ≠ 15 ∧ c ≠ 53 ∧ c ≠ 55) : m_gets v i r c j = v c j := by
  unfold m_gets
  split
  · rw [up2_c h.1]
  · rw [up2_c h.2.1, up2_c h.2.2.2, up2_c h.2.2.1, up2_c h.1]
theorem m_gets_15 {i j : Nat} {r : Int} : m_gets v i r 15 j = if j = i ∧ 0 ≤ v 15 i ∧ v 10 i = 0 then -1 else v 15 j := by
  unfold m_gets
  split
  · rw [up2_c (by omega), if_neg (by omega)]
  · unfold up2
    simp only [Nat.reduceEqDiff, false_and, true_and, if_false, ↓reduceIte]
    by_cases e : j = i
    · rw [if_pos e, if_pos (by omega)]
    · rw [if_neg e, if_neg (by omega)]
theorem WF_gets (h : WF v L) {i : Nat} (hi : i < 8) (hl : v 11 i < 0) (r : Int) : WF (m_gets v i r) L := by
  have e : ∀ c, (c ≠ 14 ∧ c ≠ 15 ∧ c ≠ 53 ∧ c ≠ 55) → ∀ j, m_gets v i r c j = v c j := fun c hc j => m_gets_c hc
  obtain ⟨h1, h2, h3, h4, h5, h6, h7⟩ := h
  have e20 := e 20 (by omega)
  have e11 := e 11 (by omega)
  refine ⟨fun k hk => ?_, WFl_c h2 e11 e20, WFt_c h3 e20 (e 21 (by omega)) (fun j hj => by rw [e 24 (by omega)]; exact WFt_p h3 hj), sgOK_c h4 e20 (e 28 (by omega)) (fun i hi => by rw [e 30 (by omega)]; exact (h4 i hi).2.1), WFs_c h5 e20 (e 34 (by omega)) (e 40 (by omega)) (e 41 (by omega)) (e 43 (by omega)), WFk_c h6 e20 (e 50 (by omega)), by rw [e 2 (by omega)]; exact h7⟩
  obtain ⟨q1, q3, q4, q5⟩ := h1 k hk
  unfold clOK
  refine ⟨rowOK_c q1 (e 10 (by omega) k) (e 16 (by omega)) e20, ?_, ?_, ?_⟩
  · rw [m_gets_15]
    split <;> omega
  · rw [e11, e 10 (by omega)]
    unfold a_live5
    rw [e20]
    exact q4
  · rw [e11, e 10 (by omega), m_gets_15]
    split
    · rename_i z
      obtain ⟨rfl, z1, z2⟩ := z
      exact fun _ _ => ⟨z2, hl⟩
    · exact q5
/-- a caller leaves its line -/
def lvV (v : SV) (i : Nat) : SV := up2 v 11 i (-1)
def lvL (v : SV) (L : SL) (i : Nat) : SL := upL L (100 + (v 11 i).toNat) ((L (100 + (v 11 i).toNat)).erase i)
theorem lvL_n {i l : Nat} (h : l < 100 ∨ 200 ≤ l) (hl : v 11 i < 32) : lvL v L i l = L l := upL_n (by omega)
theorem WF_leave (h : WF v L) {i : Nat} (hi : i < 8) (hl : 0 ≤ v 11 i) : WF (lvV v i) (lvL v L i) := by
  have e : ∀ c, c ≠ 11 → ∀ j, lvV v i c j = v c j := fun c hc j => up2_c hc
  have e11 : ∀ j, lvV v i 11 j = if j = i then -1 else v 11 j := by
    intro j
    unfold lvV up2
    simp only [true_and]
  obtain ⟨h1, h2, h3, h4, h5, h6, h7⟩ := h
  have e20 := e 20 (by omega)
  obtain ⟨z1, z2, z3⟩ := (h1 i hi).2.2.1 hl
  have ln : ∀ l, l < 100 ∨ 200 ≤ l → lvL v L i l = L l := fun l hq => lvL_n hq z1
  refine ⟨fun k hk => ?_, fun t ht => ?_, WFt_c h3 e20 (e 21 (by omega)) (fun j hj => by rw [e 24 (by omega)]; exact WFt_p h3 hj), ?_, ?_, ?_, by rw [e 2 (by omega)]; exact h7⟩
  · obtain ⟨q1, q3, q4, q5⟩ := h1 k hk
    unfold clOK
    rw [ln 1 (by omega), e 15 (by omega), e11, e 10 (by omega)]
    refine ⟨rowOK_c q1 (e 10 (by omega) k) (e 16 (by omega)) e20, q3, ?_, ?_⟩
    · split
      · intro z; omega
      · unfold a_live5; rw [e20]; exact q4
    · split
      · exact fun a b => ⟨(q5 a b).1, by omega⟩
      · exact q5
  · have ht' : a_live5 v t := by unfold a_live5 at *; rw [e20] at ht; exact ht
    obtain ⟨g1, g2⟩ := h2 t ht'
    by_cases et : t = (v 11 i).toNat
    · have eL : lvL v L i (100 + t) = (L (100 + t)).erase i := by
        rw [et]; exact upL_s
      rw [eL]
      refine ⟨g1.erase i, fun k => ?_⟩
      rw [g1.mem_erase_iff, g2 k, e11]
      by_cases ek : k = i
      · simp [ek] <;> omega
      · simp [ek]
    · have eL : lvL v L i (100 + t) = L (100 + t) := upL_n (by omega)
      rw [eL]
      refine ⟨g1, fun k => ?_⟩
      rw [g2 k, e11]
      by_cases ek : k = i
      · simp [ek] <;> omega
      · simp [ek]
  · intro t ht
    rw [e20] at ht
    obtain ⟨g1, g2, g3, g4, g5⟩ := h4 t ht
    rw [ln (200 + t) (by omega), e 30 (by omega), e 28 (by omega)]
    exact ⟨g1, g2, g3, g4, fun q hq => by rw [e20]; exact g5 q hq⟩
  · have := WFs_c h5 e20 (e 34 (by omega)) (e 40 (by omega)) (e 41 (by omega)) (e 43 (by omega))
    unfold WFs stOK at *
    rw [ln 0 (by omega)]
    simp only [fun c => ln (300 + c) (by omega)]
    exact this
  · have := WFk_c h6 e20 (e 50 (by omega))
    unfold WFk at *
    rw [ln 1 (by omega)]
    exact this
/-- a caller joins the line of t -/
def jnV (v : SV) (i t : Nat) (m : Int) : SV := up2 (up2 (up2 v 11 i t) 12 i m) 13 i (v 2 0)
def jnL (L : SL) (i t : Nat) : SL := upL L (100 + t) (L (100 + t) ++ [i])
theorem jnV_c {i t c j : Nat} {m : Int} (h : c ≠ 11 ∧ c ≠ 12 ∧ c ≠ 13) : jnV v i t m c j = v c j := by
  unfold jnV
  rw [up2_c h.2.2, up2_c h.2.1, up2_c h.1]
theorem WF_join (h : WF v L) {i t : Nat} (hi : i < 8) (ht : a_live5 v t) (hl : v 11 i < 0) (hd : v 10 i < 4) (hw : 6 ≤ i → 0 ≤ v 15 i) (m : Int) : WF (jnV v i t m) (jnL L i t) := by
  have e : ∀ c, (c ≠ 11 ∧ c ≠ 12 ∧ c ≠ 13) → ∀ j, jnV v i t m c j = v c j := fun c hc j => jnV_c hc
  have e11 : ∀ j, jnV v i t m 11 j = if j = i then (t : Int) else v 11 j := by
    intro j
    unfold jnV up2
    simp only [Nat.reduceEqDiff, false_and, true_and, if_false, ↓reduceIte]
  have ht2 := (WF_tg h ht).1
  obtain ⟨h1, h2, h3, h4, h5, h6, h7⟩ := h
  have e20 := e 20 (by omega)
  have ln : ∀ l, l < 100 ∨ 200 ≤ l → jnL L i t l = L l := fun l hq => upL_n (by omega)
  refine ⟨fun k hk => ?_, fun s hs => ?_, WFt_c h3 e20 (e 21 (by omega)) (fun j hj => by rw [e 24 (by omega)]; exact WFt_p h3 hj), ?_, ?_, ?_, by rw [e 2 (by omega)]; exact h7⟩
  · obtain ⟨q1, q3, q4, q5⟩ := h1 k hk
    unfold clOK
    rw [ln 1 (by omega), e 15 (by omega), e11, e 10 (by omega)]
    refine ⟨rowOK_c q1 (e 10 (by omega) k) (e 16 (by omega)) e20, q3, ?_, ?_⟩
    · split
      · rename_i z
        subst z
        refine fun _ => ⟨by omega, ?_, hd⟩
        unfold a_live5; rw [e20]; simpa using ht
      · unfold a_live5; rw [e20]; exact q4
    · split
      · rename_i z
        subst z
        intro a b
        have := hw a
        omega
      · exact q5
  · have hs' : a_live5 v s := by unfold a_live5 at *; rw [e20] at hs; exact hs
    obtain ⟨g1, g2⟩ := h2 s hs'
    by_cases et : s = t
    · subst et
      have eL : jnL L i s (100 + s) = L (100 + s) ++ [i] := upL_s
      rw [eL]
      have ni : i ∉ L (100 + s) := fun z => by have := ((g2 i).mp z).2; omega
      refine ⟨?_, fun k => ?_⟩
      · rw [List.nodup_append]
        refine ⟨g1, by simp, fun a ha b hb => ?_⟩
        rw [List.mem_singleton] at hb
        subst hb
        exact fun z => ni (z ▸ ha)
      · rw [List.mem_append, g2 k, e11, List.mem_singleton]
        by_cases ek : k = i
        · simp [ek, hi]
        · simp [ek]
    · have eL : jnL L i t (100 + s) = L (100 + s) := upL_n (by omega)
      rw [eL]
      refine ⟨g1, fun k => ?_⟩
      rw [g2 k, e11]
      by_cases ek : k = i
      · subst ek
        rw [if_pos rfl]
        omega
      · rw [if_neg ek]
  · intro s hs
    rw [e20] at hs
    obtain ⟨g1, g2, g3, g4, g5⟩ := h4 s hs
    rw [ln (200 + s) (by omega), e 30 (by omega), e 28 (by omega)]
    exact ⟨g1, g2, g3, g4, fun q hq => by rw [e20]; exact g5 q hq⟩
  · have := WFs_c h5 e20 (e 34 (by omega)) (e 40 (by omega)) (e 41 (by omega)) (e 43 (by omega))
    unfold WFs stOK at *
    rw [ln 0 (by omega)]
    simp only [fun c => ln (300 + c) (by omega)]
    exact this
  · have := WFk_c h6 e20 (e 50 (by omega))
    unfold WFk at *
    rw [ln 1 (by omega)]
    exact this
theorem WF_begin (h : WF v L) {t : Nat} (ht : v 20 t = 2) (n : Nat) : WF (m_begin L n v t) L := by
  have e : ∀ c, bgF c → ∀ j, m_begin L n v t c j = v c j := fun c hc j => m_begin_c n v t c j hc
  obtain ⟨h1, h2, h3, h4, h5, h6, h7⟩ := h
  have e20 := e 20 (by unfold bgF; omega)
  have e11 := e 11 (by unfold bgF; omega)
  exact ⟨WFc_c h1 (e 10 (by unfold bgF; omega)) e11 (e 15 (by unfold bgF; omega)) (e 16 (by unfold bgF; omega)) e20, WFl_c h2 e11 e20, WFt_c h3 e20 (e 21 (by unfold bgF; omega)) (fun j hj => by rw [e 24 (by unfold bgF; omega)]; exact WFt_p h3 hj), m_begin_sg n v t h4 ht, WFs_c h5 e20 (e 34 (by unfold bgF; omega)) (e 40 (by unfold bgF; omega)) (e 41 (by unfold bgF; omega)) (e 43 (by unfold bgF; omega)), WFk_c h6 e20 (e 50 (by unfold bgF; omega)), by rw [e 2 (by unfold bgF; omega)]; exact h7⟩
theorem m_gb_c {t c i : Nat} {x m o b : Int} (h : c ≠ 3 ∧ c ≠ 4 ∧ c ≠ 6 ∧ c ≠ 24 ∧ c ≠ 25 ∧ c ≠ 26 ∧ c ≠ 32 ∧ c ≠ 33 ∧ c ≠ 36 ∧ c ≠ 37 ∧ c ≠ 38 ∧ c ≠ 39) : m_gb v t x m o b c i = v c i := by
  obtain ⟨h1, h2, h3, h4, h5, h6, h7, h8, h9, h10, h11, h12⟩ := h
  unfold m_gb cif
  repeat' split
  all_goals simp only [m_note, m_vanish, m_markUsed, up2, h1, h2, h3, h4, h5, h6, h7, h8, h9, h10, h11, h12, false_and, ↓reduceIte]
theorem WF_back (h : WF v L) {t : Nat} (ht : a_live5 v t) (x m o b : Int) : WF (m_gb v t x m o b) L := by
  have e : ∀ c, (c ≠ 3 ∧ c ≠ 4 ∧ c ≠ 6 ∧ c ≠ 24 ∧ c ≠ 25 ∧ c ≠ 26 ∧ c ≠ 32 ∧ c ≠ 33 ∧ c ≠ 36 ∧ c ≠ 37 ∧ c ≠ 38 ∧ c ≠ 39) → ∀ i, m_gb v t x m o b c i = v c i := fun c hc i => m_gb_c hc
  obtain ⟨h1, h2, h3, h4, h5, h6, h7⟩ := h
  have e20 := e 20 (by omega)
  have e11 := e 11 (by omega)
  refine ⟨WFc_c h1 (e 10 (by omega)) e11 (e 15 (by omega)) (e 16 (by omega)) e20, WFl_c h2 e11 e20, WFt_c h3 e20 (e 21 (by omega)) (fun j hj => ?_), sgOK_c h4 e20 (e 28 (by omega)) (fun i hi => by rw [e 30 (by omega)]; exact (h4 i hi).2.1), WFs_c h5 e20 (e 34 (by omega)) (e 40 (by omega)) (e 41 (by omega)) (e 43 (by omega)), WFk_c h6 e20 (e 50 (by omega)), by rw [e 2 (by omega)]; exact h7⟩
  have hp := WFt_p h3 hj
  unfold m_gb cif
  repeat' split
  all_goals try simp only [m_vanish, m_markUsed, m_note, up2, Nat.reduceEqDiff, false_and, true_and, ↓reduceIte]
  all_goals first | exact hp | skip
  split
  · rename_i q
    subst q
    omega
  · exact hp
theorem m_vanish_c {t c i : Nat} {k : Int} (h : c ≠ 4 ∧ c ≠ 6 ∧ c ≠ 36) : m_vanish v t k c i = v c i := by
  unfold m_vanish m_note
  rw [up2_c h.1, up2_c h.2.1, up2_c h.2.2]
theorem WF_vanish (h : WF v L) (t : Nat) (k : Int) : WF (m_vanish v t k) L := WF_c h (fun c i hc => m_vanish_c (by unfold wfc at hc; omega))
theorem paN_c {l : List Nat} : ∀ (n : Nat) (v : SV) (c i : Nat), (c ≠ 4 ∧ c ≠ 6 ∧ c ≠ 36) → paN l n v c i = v c i := by
  intro n
  induction n with
  | zero => exact fun v c i h => rfl
  | succ n ih =>
    intro v c i h
    rw [paN, ih _ c i h]
    cases e : lu v l with
    | none => rfl
    | some q => exact m_putAway_c h
theorem WF_pabs (h : WF v L) (l : List Nat) (c : Nat) : WF (m_pabs v l c) L := WF_c h (fun c i hc => paN_c _ _ _ _ (by unfold wfc at hc; omega))
theorem m_low_c {t c i : Nat} (h : c ≠ 24 ∧ c ≠ 26) : m_low v t c i = v c i := by
  unfold m_low
  rw [up2_c h.2, up2_c h.1]
theorem m_dst_c {t : Nat} : ∀ (n : Nat) (v : SV) (c i : Nat), (c ≠ 4 ∧ c ≠ 6 ∧ c ≠ 24 ∧ c ≠ 26) → m_dst v t n c i = v c i := by
  intro n
  induction n with
  | zero => exact fun v c i h => rfl
  | succ n ih =>
    intro v c i h
    rw [m_dst]
    by_cases e : 0 < v 24 t
    · rw [cif_t e, ih _ c i h, m_note_c (by omega), m_low_c (by omega)]
    · rw [cif_f e]
-- the host's steps
/-- a singleton that is called begins -/
noncomputable def bgT (v : SV) (L : SL) (t : Nat) : SV := cif (v 20 t = 2) (m_begin L 8 v t) v
theorem bgT_c {t c i : Nat} (h : bgF c) : bgT v L t c i = v c i := by
  unfold bgT
  by_cases e : v 20 t = 2
  · rw [cif_t e, m_begin_c 8 v t c i h]
  · rw [cif_f e]
theorem WF_bgT (h : WF v L) (t : Nat) : WF (bgT v L t) L := by
  unfold bgT
  by_cases e : v 20 t = 2
  · rw [cif_t e]; exact WF_begin h e 8
  · rw [cif_f e]; exact h
def nE (L : SL) (t : Nat) : Int := if (L (100 + t)).length = 0 then 1 else 0
theorem nE_b (t : Nat) : nE L t = 0 ∨ nE L t = 1 := by
  unfold nE
  split
  · exact Or.inr rfl
  · exact Or.inl rfl
/-- the verdict on a call -/
noncomputable def jd (v : SV) (L : SL) (i t : Nat) (m : Int) : Int := m_judge (bgT v L t) i t m (nE L t)
def joins (v : SV) (L : SL) (i t : Nat) (m : Int) : Prop := jd v L i t m = 21 ∧ ¬ v 21 t = 0
noncomputable def mkR (v : SV) (L : SL) (i t : Nat) (m : Int) : Int := cif (joins v L i t m) 21 (cif (jd v L i t m = 21) 11 (jd v L i t m))
noncomputable def mkV (v : SV) (L : SL) (i t : Nat) (m : Int) : SV := cif (joins v L i t m) (jnV (bgT v L t) i t m) (cif (jd v L i t m = 20) (m_enter (bgT v L t) i t m) (m_gets (bgT v L t) i (mkR v L i t m)))
noncomputable def mkL (v : SV) (L : SL) (i t : Nat) (m : Int) : SL := cif (joins v L i t m) (jnL L i t) L
/-- new cells of a call -/
noncomputable def mkC (v : SV) (L : SL) (i t : Nat) (m : Int) : Nat := cif (joins v L i t m) 1 0
theorem WF_make (h : WF v L) {i t : Nat} (hi : i < 8) (ht : a_live5 v t) (hl : v 11 i < 0) (hd : v 10 i < 4) (hw : 6 ≤ i → 0 ≤ v 15 i) (m : Int) : WF (mkV v L i t m) (mkL v L i t m) := by
  have hb := WF_bgT h t
  have e10 : bgT v L t 10 i = v 10 i := bgT_c (by unfold bgF; omega)
  have e11 : bgT v L t 11 i = v 11 i := bgT_c (by unfold bgF; omega)
  have e15 : bgT v L t 15 i = v 15 i := bgT_c (by unfold bgF; omega)
  have e20 := live_c ht (bgT_c (L := L) (t := t) (i := t) (v := v) (c := 20) (by unfold bgF; omega))
  unfold mkV mkL
  by_cases c1 : joins v L i t m
  · rw [cif_t c1, cif_t c1]
    exact WF_join hb hi e20 (by rw [e11]; exact hl) (by rw [e10]; exact hd) (by rw [e15]; exact hw) m
  · rw [cif_f c1, cif_f c1]
    by_cases c2 : jd v L i t m = 20
    · rw [cif_t c2]
      exact WF_enter hb hi e20 (by rw [e10]; exact hd) (by rw [e11]; exact hl) (by rw [e15]; exact hw) m
    · rw [cif_f c2]
      exact WF_gets hb hi (by rw [e11]; exact hl) _
theorem mkV_20 {i t j : Nat} {m : Int} : mkV v L i t m 20 j = v 20 j := by
  have e20 : bgT v L t 20 j = v 20 j := bgT_c (by unfold bgF; omega)
  unfold mkV cif
  repeat' split
  · rw [jnV_c (by omega), e20]
  · rw [m_enter_c (by omega), e20]
  · rw [m_gets_c (by omega), e20]
/-- the first of a line, the verdict on it, its step -/
def fC (L : SL) (t : Nat) : Nat := (L (100 + t)).getD 0 0
noncomputable def vdF (v : SV) (L : SL) (t : Nat) : Int := m_judge v (fC L t) t (v 12 (fC L t)) 1
noncomputable def slV (v : SV) (L : SL) (t : Nat) : SV := cif (vdF v L t = 20) (m_enter (lvV v (fC L t)) (fC L t) t (v 12 (fC L t))) (m_gets (lvV v (fC L t)) (fC L t) (vdF v L t))
/-- a line is settled: at most n callers leave it -/
noncomputable def slS (t : Nat) : Nat → SV × SL → SV × SL
  | 0, s => s
  | n + 1, s => cif ((s.2 (100 + t)).length = 0 ∨ vdF s.1 s.2 t = 21) s (slS t n (slV s.1 s.2 t, lvL s.1 s.2 (fC s.2 t)))
theorem hd_mem {l : List Nat} (h : ¬ l.length = 0) : l.getD 0 0 ∈ l := by
  cases l with
  | nil => exact absurd rfl h
  | cons a l => simp
theorem WF_first (h : WF v L) {t : Nat} (ht : a_live5 v t) (hn : ¬ (L (100 + t)).length = 0) : fC L t < 8 ∧ v 11 (fC L t) = t ∧ v 10 (fC L t) < 4 ∧ (6 ≤ fC L t → 0 ≤ v 15 (fC L t)) := by
  have h1 : fC L t < 8 ∧ v 11 (fC L t) = t := ((h.2.1 t ht).2 _).mp (hd_mem hn)
  obtain ⟨q1, q2, q3, q4⟩ := h.1 _ h1.1
  refine ⟨h1.1, h1.2, (q3 (by omega)).2.2, fun z => ?_⟩
  rcases Int.lt_or_le (v 15 (fC L t)) 0 with z2 | z2
  · have := (q4 z z2).2; omega
  · exact z2
theorem lvV_c {i c j : Nat} (h : c ≠ 11) : lvV v i c j = v c j := up2_c h
theorem lvV_s {i : Nat} : lvV v i 11 i = -1 := up2_s
theorem slV_c {t c j : Nat} (h : c ≠ 4 ∧ c ≠ 5 ∧ c ≠ 6 ∧ c ≠ 24 ∧ c ≠ 25 ∧ c ≠ 32 ∧ c ≠ 33 ∧ c ≠ 36 ∧ c ≠ 37 ∧ c ≠ 10 ∧ c ≠ 16 ∧ c ≠ 17 ∧ c ≠ 18 ∧ c ≠ 11 ∧ c ≠ 14 ∧ c ≠ 15 ∧ c ≠ 53 ∧ c ≠ 55) : slV v L t c j = v c j := by
  unfold slV cif
  split
  · rw [m_enter_c (by omega), lvV_c (by omega)]
  · rw [m_gets_c (by omega), lvV_c (by omega)]
theorem WF_slV (h : WF v L) {t : Nat} (ht : a_live5 v t) (hn : ¬ (L (100 + t)).length = 0) : WF (slV v L t) (lvL v L (fC L t)) := by
  obtain ⟨f1, f2, f3, f4⟩ := WF_first h ht hn
  have h1 := WF_leave h f1 (by omega)
  have hl : lvV v (fC L t) 11 (fC L t) < 0 := by rw [lvV_s]; omega
  unfold slV
  by_cases e : vdF v L t = 20
  · rw [cif_t e]
    exact WF_enter h1 f1 (live_c ht (lvV_c (by omega))) (by rw [lvV_c (by omega)]; exact f3) hl (by rw [lvV_c (by omega)]; exact f4) _
  · rw [cif_f e]
    exact WF_gets h1 f1 hl _
theorem WF_slS {t : Nat} : ∀ (n : Nat) (s : SV × SL), WF s.1 s.2 → a_live5 s.1 t → WF (slS t n s).1 (slS t n s).2 ∧ ∀ j, (slS t n s).1 20 j = s.1 20 j := by
  intro n
  induction n with
  | zero => exact fun s h _ => ⟨h, fun j => rfl⟩
  | succ n ih =>
    intro s h ht
    rw [slS]
    by_cases e : (s.2 (100 + t)).length = 0 ∨ vdF s.1 s.2 t = 21
    · rw [cif_t e]; exact ⟨h, fun j => rfl⟩
    · rw [cif_f e]
      have e2 : ∀ j, slV s.1 s.2 t 20 j = s.1 20 j := fun j => slV_c (by omega)
      obtain ⟨h1, h2⟩ := ih (slV s.1 s.2 t, lvL s.1 s.2 (fC s.2 t)) (WF_slV h ht (by omega)) (live_c ht (e2 t))
      exact ⟨h1, fun j => (h2 j).trans (e2 j)⟩
/-- all lines from target t on, n of them -/
noncomputable def lnS : Nat → Nat → SV × SL → SV × SL
  | 0, _, s => s
  | n + 1, t, s => lnS n (t + 1) (cif (s.1 20 t = 0) s (slS t 8 s))
theorem WF_live (h : WF v L) {t : Nat} (ht : ¬ v 20 t = 0) : a_live5 v t := (h.2.2.1 t ht).1.2.1
theorem WF_lnS : ∀ (n t : Nat) (s : SV × SL), WF s.1 s.2 → WF (lnS n t s).1 (lnS n t s).2 := by
  intro n
  induction n with
  | zero => exact fun t s h => h
  | succ n ih =>
    intro t s h
    rw [lnS]
    refine ih _ _ ?_
    by_cases e : s.1 20 t = 0
    · rw [cif_t e]; exact h
    · rw [cif_f e]; exact (WF_slS 8 s h (WF_live h e)).1
/-- a task is handed out -/
noncomputable def fwk (v : SV) : Nat := cif (v 15 6 < 0) 6 7
def hoP (v : SV) (k : Nat) : Prop := v 53 k = 1 ∧ (v 15 6 < 0 ∨ v 15 7 < 0)
noncomputable def hoW (v : SV) (k : Nat) : SV := up2 (up2 v 53 k 2) 15 (fwk v) k
noncomputable def hoS (k : Nat) (s : SV × SL) : SV × SL := cif (hoP s.1 k) (mkV (hoW s.1 k) s.2 (fwk s.1) (s.1 50 k).toNat (s.1 51 k), mkL (hoW s.1 k) s.2 (fwk s.1) (s.1 50 k).toNat (s.1 51 k)) s
noncomputable def hoC (k : Nat) (s : SV × SL) : Nat := cif (hoP s.1 k) (mkC (hoW s.1 k) s.2 (fwk s.1) (s.1 50 k).toNat (s.1 51 k)) 0
theorem fwk_b : fwk v < 8 ∧ 6 ≤ fwk v := by
  unfold fwk cif
  split <;> omega
theorem hoW_c {k c j : Nat} (h : c ≠ 53 ∧ c ≠ 15) : hoW v k c j = v c j := by
  unfold hoW
  rw [up2_c h.2, up2_c h.1]
theorem WF_hoW (h : WF v L) {k : Nat} (hk : k < (L 1).length) (hf : hoP v k) : WF (hoW v k) L ∧ hoW v k 11 (fwk v) < 0 ∧ hoW v k 10 (fwk v) < 4 ∧ hoW v k 15 (fwk v) = k := by
  have e : ∀ c, (c ≠ 53 ∧ c ≠ 15) → ∀ j, hoW v k c j = v c j := fun c hc j => hoW_c hc
  obtain ⟨h1, h2, h3, h4, h5, h6, h7⟩ := h
  have e20 := e 20 (by omega)
  have e11 := e 11 (by omega)
  have e15 : ∀ j, hoW v k 15 j = if j = fwk v then (k : Int) else v 15 j := by
    intro j
    unfold hoW up2
    simp only [Nat.reduceEqDiff, false_and, true_and, ↓reduceIte]
  have hw : v 15 (fwk v) < 0 := by
    unfold fwk cif
    split
    · assumption
    · have := hf.2; omega
  obtain ⟨r1, r2⟩ := (h1 (fwk v) fwk_b.1).2.2.2 fwk_b.2 hw
  refine ⟨⟨fun i hi => ?_, WFl_c h2 e11 e20, WFt_c h3 e20 (e 21 (by omega)) (fun j hj => by rw [e 24 (by omega)]; exact WFt_p h3 hj), sgOK_c h4 e20 (e 28 (by omega)) (fun i hi => by rw [e 30 (by omega)]; exact (h4 i hi).2.1), WFs_c h5 e20 (e 34 (by omega)) (e 40 (by omega)) (e 41 (by omega)) (e 43 (by omega)), WFk_c h6 e20 (e 50 (by omega)), by rw [e 2 (by omega)]; exact h7⟩, by rw [e11]; exact r2, by rw [e 10 (by omega)]; omega, by rw [e15, if_pos rfl]⟩
  obtain ⟨q1, q3, q4, q5⟩ := h1 i hi
  unfold clOK
  rw [e15, e11, e 10 (by omega)]
  refine ⟨rowOK_c q1 (e 10 (by omega) i) (e 16 (by omega)) e20, ?_, ?_, ?_⟩
  · split <;> omega
  · unfold a_live5; rw [e20]; exact q4
  · split
    · intro _ z; omega
    · exact q5
theorem WF_hoS {k : Nat} {s : SV × SL} (h : WF s.1 s.2) (hk : k < (s.2 1).length) : WF (hoS k s).1 (hoS k s).2 ∧ (hoS k s).2 1 = s.2 1 := by
  unfold hoS
  by_cases e : hoP s.1 k
  · rw [cif_t e]
    obtain ⟨w1, w2, w3, w4⟩ := WF_hoW h hk e
    obtain ⟨t1, t2, t3⟩ := h.2.2.2.2.2.1.2 k hk
    refine ⟨WF_make w1 fwk_b.1 (live_c t3 (hoW_c (by omega))) w2 w3 (fun _ => by rw [w4]; omega) _, ?_⟩
    show mkL _ _ _ _ _ 1 = _
    unfold mkL cif
    split
    · exact upL_n (by omega)
    · rfl
  · rw [cif_f e]; exact ⟨h, rfl⟩
/-- tasks k and on, n of them -/
noncomputable def tkS : Nat → Nat → SV × SL → SV × SL
  | 0, _, s => s
  | n + 1, k, s => tkS n (k + 1) (hoS k s)
theorem WF_tkS : ∀ (n k : Nat) (s : SV × SL), WF s.1 s.2 → k + n ≤ (s.2 1).length → WF (tkS n k s).1 (tkS n k s).2 := by
  intro n
  induction n with
  | zero => exact fun k s h _ => h
  | succ n ih =>
    intro k s h hk
    rw [tkS]
    obtain ⟨h1, h2⟩ := WF_hoS (k := k) h (by omega)
    exact ih (k + 1) _ h1 (by rw [h2]; omega)
/-- stateful components c and on, n of them, put sessions away -/
noncomputable def paS (L : SL) : Nat → Nat → SV → SV
  | 0, _, v => v
  | n + 1, c, v => paS L n (c + 1) (cif (v 40 c = 0) v (m_pabs v (L (300 + c)) c))
theorem paS_c : ∀ (n c : Nat) (v : SV) (d i : Nat), (d ≠ 4 ∧ d ≠ 6 ∧ d ≠ 36) → paS L n c v d i = v d i := by
  intro n
  induction n with
  | zero => exact fun c v d i h => rfl
  | succ n ih =>
    intro c v d i h
    rw [paS, ih _ _ d i h]
    by_cases e : v 40 c = 0
    · rw [cif_t e]
    · rw [cif_f e]; exact paN_c _ _ _ _ h
theorem WF_paS (h : WF v L) (n c : Nat) : WF (paS L n c v) L := WF_c h (fun d i hd => paS_c n c v d i (by unfold wfc at hd; omega))
/-- settling -/
noncomputable def stl1 (s : SV × SL) : SV × SL := lnS 32 0 s
noncomputable def stl2 (s : SV × SL) : SV × SL := tkS (s.2 1).length 0 s
noncomputable def stl (s : SV × SL) : SV × SL := (paS (stl2 (stl1 s)).2 8 0 (stl2 (stl1 s)).1, (stl2 (stl1 s)).2)
theorem WF_stl {s : SV × SL} (h : WF s.1 s.2) : WF (stl s).1 (stl s).2 := WF_paS (WF_tkS _ _ _ (WF_lnS 32 0 s h) (Nat.le_of_eq (Nat.zero_add _))) 8 0
/-- free workers -/
noncomputable def fW (v : SV) : Nat := cif (v 15 6 < 0) 1 0 + cif (v 15 7 < 0) 1 0
theorem hoS_cost {k : Nat} {s : SV × SL} : fW (hoS k s).1 + hoC k s ≤ fW s.1 := by
  unfold hoS hoC
  by_cases e : hoP s.1 k
  · rw [cif_t e, cif_t e]
    have e15 : ∀ j, hoW s.1 k 15 j = if j = fwk s.1 then (k : Int) else s.1 15 j := by
      intro j
      unfold hoW up2
      simp only [Nat.reduceEqDiff, false_and, true_and, ↓reduceIte]
    have b15 : ∀ j, bgT (hoW s.1 k) s.2 (s.1 50 k).toNat 15 j = hoW s.1 k 15 j := fun j => bgT_c (by unfold bgF; omega)
    have hw : s.1 15 (fwk s.1) < 0 := by
      unfold fwk cif
      split
      · assumption
      · have := e.2; omega
    show fW (mkV _ _ _ _ _) + mkC _ _ _ _ _ ≤ _
    unfold mkV mkC
    by_cases c1 : joins (hoW s.1 k) s.2 (fwk s.1) (s.1 50 k).toNat (s.1 51 k)
    · rw [cif_t c1, cif_t c1]
      unfold fW
      rw [jnV_c (by omega), jnV_c (by omega), b15, b15, e15, e15]
      have hk : ¬ ((k : Int) < 0) := by omega
      unfold fwk at hw ⊢
      by_cases d6 : s.1 15 6 < 0
      · rw [cif_t d6] at hw ⊢
        rw [if_pos rfl, if_neg (by omega), cif_f hk, cif_t d6]
        omega
      · rw [cif_f d6] at hw ⊢
        rw [if_neg (by omega), if_pos rfl, cif_f hk, cif_t hw, cif_f d6]
        omega
    · rw [cif_f c1, cif_f c1]
      have : ∀ w : SV, (∀ j, w 15 j = s.1 15 j ∨ (j = fwk s.1)) → fW w ≤ fW s.1 := by
        intro w hwj
        unfold fW
        have a6 := hwj 6
        have a7 := hwj 7
        unfold fwk cif at a6 a7 hw
        unfold cif
        by_cases d6 : s.1 15 6 < 0
        · simp only [d6, if_true] at a6 a7 hw ⊢
          have a7 : w 15 7 = s.1 15 7 := by omega
          rw [a7]
          split <;> omega
        · simp only [d6, if_false] at a6 a7 hw ⊢
          have a6 : w 15 6 = s.1 15 6 := by omega
          rw [a6]
          simp only [d6, if_false, hw, if_true]
          split <;> omega
      refine this _ (fun j => ?_)
      by_cases ej : j = fwk s.1
      · exact Or.inr ej
      · left
        unfold cif
        split
        · rw [m_enter_c (by omega), b15, e15, if_neg ej]
        · rw [m_gets_15, if_neg (by omega), b15, e15, if_neg ej]
  · rw [cif_f e, cif_f e]; omega
end
