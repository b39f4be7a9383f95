/-! The host's own methods: entering, calling, ending. -/
section
variable {X : XC} {v : SV} {L : SL}
theorem a_vi {fr lo mc ms nc ns fr' lo' mc' ms' a b c t : Nat} {av : List AV} {k : Option AV → SV → SL → Nat → Nat → Prop} {Q : AQ} (hl : a_live5 v t) (h1 : v 20 t = 1 → AHolds X a av v L fr' lo' mc' ms' Q) (h2 : v 20 t = 2 → AHolds X b av v L fr' lo' mc' ms' Q) (h3 : v 20 t = 3 → AHolds X c av v L fr' lo' mc' ms' Q) (hr : (8 + ((x_mt a).2.2.1 + 11) + lo' ≤ lo ∧ 8 + ((x_mt b).2.2.1 + 11) + lo' ≤ lo ∧ 8 + ((x_mt c).2.2.1 + 11) + lo' ≤ lo) ∧ fr' + 1 ≤ fr ∧ nc + mc' ≤ mc ∧ ns + ms' ≤ ms) (hk : ∀ r v' L', Q r v' L' → (∀ c i, iS (v' c i)) → k r v' L' (nc + mc') (ns + ms')) : a_vcall X fr lo mc ms [(6, a), (7, b), (8, c)] t av v L nc ns k := by
  refine ⟨fr', lo', mc', ms', fun r v' L' => Q r v' L' ∧ ∀ c i, iS (v' c i), ⟨hl, fun y hy => ?_⟩, ⟨rfl, rfl, rfl, hr.2⟩, fun r v' L' q => hk r v' L' q.1 q.2⟩
  rcases hl with e | e | e
  · rw [e] at hy
    cases hy
    exact ⟨a_sv (h1 e), hr.1.1⟩
  · rw [e] at hy
    cases hy
    exact ⟨a_sv (h2 e), hr.1.2.1⟩
  · rw [e] at hy
    cases hy
    exact ⟨a_sv (h3 e), hr.1.2.2⟩
/-- a contract with more room -/
theorem a_rm {y fr lo fr' lo' mc ms : Nat} {av : List AV} {Q : AQ} (h : AHolds X y av v L fr lo mc ms Q) (h1 : fr ≤ fr') (h2 : lo ≤ lo') : AHolds X y av v L fr' lo' mc ms Q := by
  intro f A DA hP
  have h3 := h f A DA hP
  exact x_rm h3 h1 h2
-- a target is asked
noncomputable def m_judge (v : SV) (i t : Nat) (m e : Int) : Int := cif (v 20 t = 1) (cif (e = 1 ∧ (0 < v 24 t ∨ v 25 t < v 23 t)) 20 21) (cif (v 20 t = 2) (cif (¬ v 30 t = 0) 9 (cif (hasM v i t) (cif (m = 0 ∨ hasW v i t) 20 12) (cif (e = 1 ∧ (m = 0 ∧ v 33 t = 0 ∨ ¬ m = 0 ∧ v 32 t = 0)) 20 21))) (cif (v 36 t = 0) 9 (cif (hasM v i t) 12 (cif (v 37 t = 0) 20 21))))
theorem m_judge_in (v : SV) (i t : Nat) (m e : Int) : m_judge v i t m e = 20 ∨ m_judge v i t m e = 21 ∨ m_judge v i t m e = 9 ∨ m_judge v i t m e = 12 := by
  unfold m_judge cif
  repeat' split
  all_goals decide
noncomputable def m_ti (v : SV) (t : Nat) : Int := cif (v 20 t = 1) (cif (0 < v 24 t) (v 26 (t + 32 * (v 24 t - 1).toNat)) (v 5 0)) (cif (v 20 t = 2) (v 31 t) (v 35 t))
noncomputable def m_tv (v : SV) (t : Nat) (m : Int) : SV := cif (v 20 t = 1) (cif (0 < v 24 t) (up2 v 24 t (v 24 t - 1)) (m_fresh (up2 v 25 t (wr (v 25 t + 1))))) (cif (v 20 t = 2) (cif (m = 1) (up2 (up2 v 32 t (wr (v 32 t + 1))) 33 t (wr (v 33 t + 1))) (up2 v 32 t (wr (v 32 t + 1)))) (up2 (cif (v 36 t = 3) (m_note (up2 v 36 t 1) 5 0 (v 35 t)) v) 37 t 1))
noncomputable def m_gb (v : SV) (t : Nat) (x m o b : Int) : SV := cif (v 20 t = 1) (cif (b = 1) (m_note (up2 v 25 t (wr (v 25 t - 1))) 3 0 x) (cif (v 24 t < 4) (up2 (up2 v 26 (t + 32 * (v 24 t).toNat) x) 24 t (v 24 t + 1)) v)) (cif (v 20 t = 2) (cif (m = 1) (up2 (up2 v 32 t (wr (v 32 t - 1))) 33 t (wr (v 33 t - 1))) (up2 v 32 t (wr (v 32 t - 1)))) (cif (b = 1) (m_vanish (m_markUsed (up2 v 37 t 0) t) t 3) (cif (m = 1 ∨ m = 2 ∧ o = 0) (m_vanish (m_markUsed (up2 v 37 t 0) t) t 2) (m_markUsed (up2 v 37 t 0) t))))
/-- a target: it is there, a pool is in order -/
def tgOK (v : SV) (t : Nat) : Prop := t < 32 ∧ a_live5 v t ∧ (v 20 t = 1 → poolOK v t)
theorem c_judge {fr lo mc ms nc ns t i : Nat} (m e : Int) {k : Option AV → SV → SL → Nat → Nat → Prop} (ht : tgOK v t) (hi : i < 8) (hr : rowOK v i) (hm : iS m) (he : e = 0 ∨ e = 1) (h1 : 600 ≤ lo ∧ 11 ≤ fr ∧ nc ≤ mc ∧ ns ≤ ms) (hk : k (some (aI (m_judge v i t m e))) v L nc ns) : a_vcall X fr lo mc ms [(6, 50), (7, 53), (8, 51)] t [aR 5 t, aR 1 i, aI m, aI e] v L nc ns k := by
  refine a_vi (fr' := 10) (lo' := 400) (mc' := 0) (ms' := 0) (Q := fun r v' L' => r = some (aI (m_judge v i t m e)) ∧ v = v' ∧ L = L') ht.2.1 (fun h => ?_) (fun h => ?_) (fun h => ?_) ⟨⟨Nat.le_trans (m := 600) (by decide) h1.1, Nat.le_trans (m := 600) (by decide) h1.1, Nat.le_trans (m := 600) (by decide) h1.1⟩, h1.2.1, h1.2.2.1, h1.2.2.2⟩ ?_
  · refine a_wk (a_rm (c_Pool_judge m e (ht.2.2 h) he) (by omega) (by omega)) ?_
    rintro _ _ _ ⟨⟨hb, rfl⟩ | ⟨hb, rfl⟩, rfl, rfl⟩
    · exact ⟨by rw [m_judge, cif_t h, cif_t hb], rfl, rfl⟩
    · exact ⟨by rw [m_judge, cif_t h, cif_f hb], rfl, rfl⟩
  · refine a_wk (c_Singleton_judge m e h hi hr hm he) ?_
    rintro _ _ _ ⟨rfl, rfl, rfl⟩
    exact ⟨by rw [m_judge, cif_f (show ¬ v 20 t = 1 by omega), cif_t h], rfl, rfl⟩
  · refine a_wk (c_Session_judge m e h hi hr) ?_
    rintro _ _ _ ⟨rfl, rfl, rfl⟩
    exact ⟨by rw [m_judge, cif_f (show ¬ v 20 t = 1 by omega), cif_f (show ¬ v 20 t = 2 by omega)], rfl, rfl⟩
  · rintro _ _ _ ⟨rfl, rfl, rfl⟩ _
    exact hk
theorem c_take {fr lo mc ms nc ns t : Nat} (m : Int) {k : Option AV → SV → SL → Nat → Nat → Prop} (ht : tgOK v t) (hm : iS m) (h1 : 600 ≤ lo ∧ 11 ≤ fr ∧ nc ≤ mc ∧ ns ≤ ms) (hk : (∀ c i, iS (m_tv v t m c i)) → k (some (aI (m_ti v t))) (m_tv v t m) L nc ns) : a_vcall X fr lo mc ms [(6, 59), (7, 61), (8, 60)] t [aR 5 t, aI m] v L nc ns k := by
  refine a_vi (fr' := 10) (lo' := 400) (mc' := 0) (ms' := 0) (Q := fun r v' L' => r = some (aI (m_ti v t)) ∧ v' = m_tv v t m ∧ L = L') ht.2.1 (fun h => ?_) (fun h => ?_) (fun h => ?_) ⟨⟨Nat.le_trans (m := 600) (by decide) h1.1, Nat.le_trans (m := 600) (by decide) h1.1, Nat.le_trans (m := 600) (by decide) h1.1⟩, h1.2.1, h1.2.2.1, h1.2.2.2⟩ ?_
  · refine a_wk (c_Pool_take m (ht.2.2 h)) ?_
    rintro _ _ _ ⟨rfl, rfl, rfl⟩
    exact ⟨by rw [m_ti, cif_t h], by rw [m_tv, cif_t h], rfl⟩
  · refine a_wk (a_rm (c_Singleton_take m h hm) (by omega) (by omega)) ?_
    rintro _ _ _ ⟨rfl, rfl, rfl⟩
    exact ⟨by rw [m_ti, cif_f (show ¬ v 20 t = 1 by omega), cif_t h], by rw [m_tv, cif_f (show ¬ v 20 t = 1 by omega), cif_t h], rfl⟩
  · refine a_wk (c_Session_take m h) ?_
    rintro _ _ _ ⟨rfl, rfl, rfl⟩
    exact ⟨by rw [m_ti, cif_f (show ¬ v 20 t = 1 by omega), cif_f (show ¬ v 20 t = 2 by omega)], by rw [m_tv, cif_f (show ¬ v 20 t = 1 by omega), cif_f (show ¬ v 20 t = 2 by omega)], rfl⟩
  · rintro _ _ _ ⟨rfl, rfl, rfl⟩ h
    exact hk h
theorem c_giveBack {fr lo mc ms nc ns t : Nat} (x m o b : Int) {k : Option AV → SV → SL → Nat → Nat → Prop} (ht : tgOK v t) (hx : iS x) (hm : iS m) (ho : iS o) (hb : b = 0 ∨ b = 1) (h1 : 1000 ≤ lo ∧ 21 ≤ fr ∧ nc ≤ mc ∧ ns ≤ ms) (hk : (∀ c i, iS (m_gb v t x m o b c i)) → k none (m_gb v t x m o b) L nc ns) : a_vcall X fr lo mc ms [(6, 83), (7, 86), (8, 84)] t [aR 5 t, aI x, aI m, aI o, aI b] v L nc ns k := by
  refine a_vi (fr' := 20) (lo' := 800) (mc' := 0) (ms' := 0) (Q := fun r v' L' => r = none ∧ v' = m_gb v t x m o b ∧ L = L') ht.2.1 (fun h => ?_) (fun h => ?_) (fun h => ?_) ⟨⟨Nat.le_trans (m := 1000) (by decide) h1.1, Nat.le_trans (m := 1000) (by decide) h1.1, Nat.le_trans (m := 1000) (by decide) h1.1⟩, h1.2.1, h1.2.2.1, h1.2.2.2⟩ ?_
  · refine a_wk (a_rm (c_Pool_giveBack x m o b (ht.2.2 h) hx hb) (by omega) (by omega)) ?_
    rintro _ _ _ ⟨rfl, rfl, rfl⟩
    exact ⟨rfl, by rw [m_gb, cif_t h], rfl⟩
  · refine a_wk (a_rm (c_Singleton_giveBack x m o b h hm) (by omega) (by omega)) ?_
    rintro _ _ _ ⟨rfl, rfl, rfl⟩
    exact ⟨rfl, by rw [m_gb, cif_f (show ¬ v 20 t = 1 by omega), cif_t h], rfl⟩
  · refine a_wk (c_Session_giveBack x m o b h hm ho hb) ?_
    rintro _ _ _ ⟨rfl, rfl, rfl⟩
    exact ⟨rfl, by rw [m_gb, cif_f (show ¬ v 20 t = 1 by omega), cif_f (show ¬ v 20 t = 2 by omega)], rfl⟩
  · rintro _ _ _ ⟨rfl, rfl, rfl⟩ h
    exact hk h
/-- what taking leaves alone -/
theorem m_tv_c {t c i : Nat} {m : Int} (h : c ≠ 4 ∧ c ≠ 5 ∧ c ≠ 6 ∧ c ≠ 24 ∧ c ≠ 25 ∧ c ≠ 32 ∧ c ≠ 33 ∧ c ≠ 36 ∧ c ≠ 37) : m_tv v t m c i = v c i := by
  unfold m_tv cif
  repeat' split
  all_goals simp only [m_fresh, m_note, up2, h.1, h.2.1, h.2.2.1, h.2.2.2.1, h.2.2.2.2.1, h.2.2.2.2.2.1, h.2.2.2.2.2.2.1, h.2.2.2.2.2.2.2.1, h.2.2.2.2.2.2.2.2, false_and, if_false, ↓reduceIte]
theorem live_c {w : SV} {t : Nat} (h : a_live5 v t) (e : w 20 t = v 20 t) : a_live5 w t := by
  unfold a_live5
  rw [e]
  exact h
noncomputable def m_enter (v : SV) (i t : Nat) (m : Int) : SV := m_note (m_push (m_tv v t m) i t (m_ti v t) m) 7 ((i : Int) + 1) (m_ti v t)
theorem c_enter {i t : Nat} (m : Int) (hi : i < 8) (ht : tgOK v t) (hm : iS m) (hd : 0 ≤ v 10 i ∧ v 10 i < 4) : AHolds X y_H_enter [aR 0 0, aR 1 i, aR 5 t, aI m] v L 20 800 0 0 (fun r v' L' => r = none ∧ v' = m_enter v i t m ∧ L = L') := by
  have e10 : m_tv v t m 10 i = v 10 i := m_tv_c (by omega)
  have e20 : m_tv v t m 20 t = v 20 t := m_tv_c (by omega)
  have hl5 := live_c ht.2.1 e20
  have hti : (∀ c i, iS (v c i)) → iS (m_ti v t) := by
    intro hS
    unfold m_ti cif
    repeat' split
    all_goals exact hS _ _
  refine a_sm fun hS => ?_
  refine a_met ok_H_enter (by decide +kernel) (Nat.le_of_ble_eq_true rfl) fun go st => ?_
  have hx := hti hS
  repeat' first | (refine a_si ?sd ?_; case sd => (first | (first | assumption | exact hS _ _ | omega | (constructor <;> omega) | (show _ = (1 : Int) ∨ _ = (2 : Int) ∨ _ = (3 : Int); omega)) | (refine ⟨?_, ?_⟩ <;> (first | assumption | exact hS _ _ | omega | (constructor <;> omega) | (show _ = (1 : Int) ∨ _ = (2 : Int) ∨ _ = (3 : Int); omega))) | (refine ⟨?_, ?_, ?_⟩ <;> (first | assumption | exact hS _ _ | omega | (constructor <;> omega) | (show _ = (1 : Int) ∨ _ = (2 : Int) ∨ _ = (3 : Int); omega))) | (refine ⟨?_, ?_, ?_, ?_⟩ <;> (first | assumption | exact hS _ _ | omega | (constructor <;> omega) | (show _ = (1 : Int) ∨ _ = (2 : Int) ∨ _ = (3 : Int); omega))) | (refine ⟨⟨?_, ?_⟩, ?_, ?_⟩ <;> (first | assumption | exact hS _ _ | omega | (constructor <;> omega) | (show _ = (1 : Int) ∨ _ = (2 : Int) ∨ _ = (3 : Int); omega))) | decide | (simp only [m_note, m_markUsed, m_vanish, up2, Int.toNat_natCast, a_live5, not_true_eq_false, not_false_eq_true, Nat.reduceEqDiff, false_and, true_and, and_true, and_false, and_self, if_true, if_false, ↓reduceIte, reduceCtorEq]; first | (first | assumption | exact hS _ _ | omega | (constructor <;> omega) | (show _ = (1 : Int) ∨ _ = (2 : Int) ∨ _ = (3 : Int); omega)) | (refine ⟨?_, ?_⟩ <;> (first | assumption | exact hS _ _ | omega | (constructor <;> omega) | (show _ = (1 : Int) ∨ _ = (2 : Int) ∨ _ = (3 : Int); omega))) | (refine ⟨?_, ?_, ?_⟩ <;> (first | assumption | exact hS _ _ | omega | (constructor <;> omega) | (show _ = (1 : Int) ∨ _ = (2 : Int) ∨ _ = (3 : Int); omega))) | (refine ⟨?_, ?_, ?_, ?_⟩ <;> (first | assumption | exact hS _ _ | omega | (constructor <;> omega) | (show _ = (1 : Int) ∨ _ = (2 : Int) ∨ _ = (3 : Int); omega))) | (refine ⟨⟨?_, ?_⟩, ?_, ?_⟩ <;> (first | assumption | exact hS _ _ | omega | (constructor <;> omega) | (show _ = (1 : Int) ∨ _ = (2 : Int) ∨ _ = (3 : Int); omega))) | decide))) | (refine And.intro ?_ ?_ <;> (intro hc; (try simp only [m_note, m_markUsed, m_vanish, up2, Int.toNat_natCast, a_live5, not_true_eq_false, not_false_eq_true, Nat.reduceEqDiff, false_and, true_and, and_true, and_false, and_self, if_true, if_false, ↓reduceIte, reduceCtorEq] at hc); try (exfalso; first | assumption | omega))) | (refine x_som_i l0 ?_) | (refine x_som_i l1 ?_) | (refine x_som_i l2 ?_) | (refine x_som_i l3 ?_) | (refine x_som_i l4 ?_) | (refine x_som_i l5 ?_) | (refine x_som_i l6 ?_) | (refine a_wo ?sd ?_; case sd => (first | exact hS _ _ | assumption | (constructor <;> omega) | (simp only [m_note, m_markUsed, m_vanish, up2, Int.toNat_natCast, a_live5, not_true_eq_false, not_false_eq_true, Nat.reduceEqDiff, false_and, true_and, and_true, and_false, and_self, if_true, if_false, ↓reduceIte, reduceCtorEq]; first | exact hS _ _ | assumption | (constructor <;> omega)))) | (refine st 0 _ _ _ _ _ _ _ rfl ?_)
  refine c_take m ht hm ?room (fun hS' => ?_)
  case room => decide
  repeat' first | (refine a_si ?sd ?_; case sd => (first | (first | assumption | exact hS _ _ | omega | (constructor <;> omega) | (show _ = (1 : Int) ∨ _ = (2 : Int) ∨ _ = (3 : Int); omega)) | (refine ⟨?_, ?_⟩ <;> (first | assumption | exact hS _ _ | omega | (constructor <;> omega) | (show _ = (1 : Int) ∨ _ = (2 : Int) ∨ _ = (3 : Int); omega))) | (refine ⟨?_, ?_, ?_⟩ <;> (first | assumption | exact hS _ _ | omega | (constructor <;> omega) | (show _ = (1 : Int) ∨ _ = (2 : Int) ∨ _ = (3 : Int); omega))) | (refine ⟨?_, ?_, ?_, ?_⟩ <;> (first | assumption | exact hS _ _ | omega | (constructor <;> omega) | (show _ = (1 : Int) ∨ _ = (2 : Int) ∨ _ = (3 : Int); omega))) | (refine ⟨⟨?_, ?_⟩, ?_, ?_⟩ <;> (first | assumption | exact hS _ _ | omega | (constructor <;> omega) | (show _ = (1 : Int) ∨ _ = (2 : Int) ∨ _ = (3 : Int); omega))) | decide | (simp only [m_note, m_markUsed, m_vanish, up2, Int.toNat_natCast, a_live5, not_true_eq_false, not_false_eq_true, Nat.reduceEqDiff, false_and, true_and, and_true, and_false, and_self, if_true, if_false, ↓reduceIte, reduceCtorEq]; first | (first | assumption | exact hS _ _ | omega | (constructor <;> omega) | (show _ = (1 : Int) ∨ _ = (2 : Int) ∨ _ = (3 : Int); omega)) | (refine ⟨?_, ?_⟩ <;> (first | assumption | exact hS _ _ | omega | (constructor <;> omega) | (show _ = (1 : Int) ∨ _ = (2 : Int) ∨ _ = (3 : Int); omega))) | (refine ⟨?_, ?_, ?_⟩ <;> (first | assumption | exact hS _ _ | omega | (constructor <;> omega) | (show _ = (1 : Int) ∨ _ = (2 : Int) ∨ _ = (3 : Int); omega))) | (refine ⟨?_, ?_, ?_, ?_⟩ <;> (first | assumption | exact hS _ _ | omega | (constructor <;> omega) | (show _ = (1 : Int) ∨ _ = (2 : Int) ∨ _ = (3 : Int); omega))) | (refine ⟨⟨?_, ?_⟩, ?_, ?_⟩ <;> (first | assumption | exact hS _ _ | omega | (constructor <;> omega) | (show _ = (1 : Int) ∨ _ = (2 : Int) ∨ _ = (3 : Int); omega))) | decide))) | (refine And.intro ?_ ?_ <;> (intro hc; (try simp only [m_note, m_markUsed, m_vanish, up2, Int.toNat_natCast, a_live5, not_true_eq_false, not_false_eq_true, Nat.reduceEqDiff, false_and, true_and, and_true, and_false, and_self, if_true, if_false, ↓reduceIte, reduceCtorEq] at hc); try (exfalso; first | assumption | omega))) | (refine x_som_i l0 ?_) | (refine x_som_i l1 ?_) | (refine x_som_i l2 ?_) | (refine x_som_i l3 ?_) | (refine x_som_i l4 ?_) | (refine x_som_i l5 ?_) | (refine x_som_i l6 ?_) | (refine a_wo ?sd ?_; case sd => (first | exact hS _ _ | assumption | (constructor <;> omega) | (simp only [m_note, m_markUsed, m_vanish, up2, Int.toNat_natCast, a_live5, not_true_eq_false, not_false_eq_true, Nat.reduceEqDiff, false_and, true_and, and_true, and_false, and_self, if_true, if_false, ↓reduceIte, reduceCtorEq]; first | exact hS _ _ | assumption | (constructor <;> omega)))) | (refine st 0 _ _ _ _ _ _ _ rfl ?_)
  refine a_cs (c_push (m_ti v t) m hi hl5 ht.1 hx hm (by rw [e10]; exact hd)) ?room ?_
  case room => decide
  rintro _ _ _ ⟨rfl, rfl, rfl⟩ hS''
  repeat' first | (refine a_si ?sd ?_; case sd => (first | (first | assumption | exact hS _ _ | omega | (constructor <;> omega) | (show _ = (1 : Int) ∨ _ = (2 : Int) ∨ _ = (3 : Int); omega)) | (refine ⟨?_, ?_⟩ <;> (first | assumption | exact hS _ _ | omega | (constructor <;> omega) | (show _ = (1 : Int) ∨ _ = (2 : Int) ∨ _ = (3 : Int); omega))) | (refine ⟨?_, ?_, ?_⟩ <;> (first | assumption | exact hS _ _ | omega | (constructor <;> omega) | (show _ = (1 : Int) ∨ _ = (2 : Int) ∨ _ = (3 : Int); omega))) | (refine ⟨?_, ?_, ?_, ?_⟩ <;> (first | assumption | exact hS _ _ | omega | (constructor <;> omega) | (show _ = (1 : Int) ∨ _ = (2 : Int) ∨ _ = (3 : Int); omega))) | (refine ⟨⟨?_, ?_⟩, ?_, ?_⟩ <;> (first | assumption | exact hS _ _ | omega | (constructor <;> omega) | (show _ = (1 : Int) ∨ _ = (2 : Int) ∨ _ = (3 : Int); omega))) | decide | (simp only [m_note, m_markUsed, m_vanish, up2, Int.toNat_natCast, a_live5, not_true_eq_false, not_false_eq_true, Nat.reduceEqDiff, false_and, true_and, and_true, and_false, and_self, if_true, if_false, ↓reduceIte, reduceCtorEq]; first | (first | assumption | exact hS _ _ | omega | (constructor <;> omega) | (show _ = (1 : Int) ∨ _ = (2 : Int) ∨ _ = (3 : Int); omega)) | (refine ⟨?_, ?_⟩ <;> (first | assumption | exact hS _ _ | omega | (constructor <;> omega) | (show _ = (1 : Int) ∨ _ = (2 : Int) ∨ _ = (3 : Int); omega))) | (refine ⟨?_, ?_, ?_⟩ <;> (first | assumption | exact hS _ _ | omega | (constructor <;> omega) | (show _ = (1 : Int) ∨ _ = (2 : Int) ∨ _ = (3 : Int); omega))) | (refine ⟨?_, ?_, ?_, ?_⟩ <;> (first | assumption | exact hS _ _ | omega | (constructor <;> omega) | (show _ = (1 : Int) ∨ _ = (2 : Int) ∨ _ = (3 : Int); omega))) | (refine ⟨⟨?_, ?_⟩, ?_, ?_⟩ <;> (first | assumption | exact hS _ _ | omega | (constructor <;> omega) | (show _ = (1 : Int) ∨ _ = (2 : Int) ∨ _ = (3 : Int); omega))) | decide))) | (refine And.intro ?_ ?_ <;> (intro hc; (try simp only [m_note, m_markUsed, m_vanish, up2, Int.toNat_natCast, a_live5, not_true_eq_false, not_false_eq_true, Nat.reduceEqDiff, false_and, true_and, and_true, and_false, and_self, if_true, if_false, ↓reduceIte, reduceCtorEq] at hc); try (exfalso; first | assumption | omega))) | (refine x_som_i l0 ?_) | (refine x_som_i l1 ?_) | (refine x_som_i l2 ?_) | (refine x_som_i l3 ?_) | (refine x_som_i l4 ?_) | (refine x_som_i l5 ?_) | (refine x_som_i l6 ?_) | (refine a_wo ?sd ?_; case sd => (first | exact hS _ _ | assumption | (constructor <;> omega) | (simp only [m_note, m_markUsed, m_vanish, up2, Int.toNat_natCast, a_live5, not_true_eq_false, not_false_eq_true, Nat.reduceEqDiff, false_and, true_and, and_true, and_false, and_self, if_true, if_false, ↓reduceIte, reduceCtorEq]; first | exact hS _ _ | assumption | (constructor <;> omega)))) | (refine st 0 _ _ _ _ _ _ _ rfl ?_)
  refine a_cs (c_note 7 ((i : Int) + 1) (m_ti v t)) ?room ?_
  case room => decide
  rintro _ _ _ ⟨rfl, rfl, rfl⟩ hS'''
  repeat' first | (refine a_si ?sd ?_; case sd => (first | (first | assumption | exact hS _ _ | omega | (constructor <;> omega) | (show _ = (1 : Int) ∨ _ = (2 : Int) ∨ _ = (3 : Int); omega)) | (refine ⟨?_, ?_⟩ <;> (first | assumption | exact hS _ _ | omega | (constructor <;> omega) | (show _ = (1 : Int) ∨ _ = (2 : Int) ∨ _ = (3 : Int); omega))) | (refine ⟨?_, ?_, ?_⟩ <;> (first | assumption | exact hS _ _ | omega | (constructor <;> omega) | (show _ = (1 : Int) ∨ _ = (2 : Int) ∨ _ = (3 : Int); omega))) | (refine ⟨?_, ?_, ?_, ?_⟩ <;> (first | assumption | exact hS _ _ | omega | (constructor <;> omega) | (show _ = (1 : Int) ∨ _ = (2 : Int) ∨ _ = (3 : Int); omega))) | (refine ⟨⟨?_, ?_⟩, ?_, ?_⟩ <;> (first | assumption | exact hS _ _ | omega | (constructor <;> omega) | (show _ = (1 : Int) ∨ _ = (2 : Int) ∨ _ = (3 : Int); omega))) | decide | (simp only [m_note, m_markUsed, m_vanish, up2, Int.toNat_natCast, a_live5, not_true_eq_false, not_false_eq_true, Nat.reduceEqDiff, false_and, true_and, and_true, and_false, and_self, if_true, if_false, ↓reduceIte, reduceCtorEq]; first | (first | assumption | exact hS _ _ | omega | (constructor <;> omega) | (show _ = (1 : Int) ∨ _ = (2 : Int) ∨ _ = (3 : Int); omega)) | (refine ⟨?_, ?_⟩ <;> (first | assumption | exact hS _ _ | omega | (constructor <;> omega) | (show _ = (1 : Int) ∨ _ = (2 : Int) ∨ _ = (3 : Int); omega))) | (refine ⟨?_, ?_, ?_⟩ <;> (first | assumption | exact hS _ _ | omega | (constructor <;> omega) | (show _ = (1 : Int) ∨ _ = (2 : Int) ∨ _ = (3 : Int); omega))) | (refine ⟨?_, ?_, ?_, ?_⟩ <;> (first | assumption | exact hS _ _ | omega | (constructor <;> omega) | (show _ = (1 : Int) ∨ _ = (2 : Int) ∨ _ = (3 : Int); omega))) | (refine ⟨⟨?_, ?_⟩, ?_, ?_⟩ <;> (first | assumption | exact hS _ _ | omega | (constructor <;> omega) | (show _ = (1 : Int) ∨ _ = (2 : Int) ∨ _ = (3 : Int); omega))) | decide))) | (refine And.intro ?_ ?_ <;> (intro hc; (try simp only [m_note, m_markUsed, m_vanish, up2, Int.toNat_natCast, a_live5, not_true_eq_false, not_false_eq_true, Nat.reduceEqDiff, false_and, true_and, and_true, and_false, and_self, if_true, if_false, ↓reduceIte, reduceCtorEq] at hc); try (exfalso; first | assumption | omega))) | (refine x_som_i l0 ?_) | (refine x_som_i l1 ?_) | (refine x_som_i l2 ?_) | (refine x_som_i l3 ?_) | (refine x_som_i l4 ?_) | (refine x_som_i l5 ?_) | (refine x_som_i l6 ?_) | (refine a_wo ?sd ?_; case sd => (first | exact hS _ _ | assumption | (constructor <;> omega) | (simp only [m_note, m_markUsed, m_vanish, up2, Int.toNat_natCast, a_live5, not_true_eq_false, not_false_eq_true, Nat.reduceEqDiff, false_and, true_and, and_true, and_false, and_self, if_true, if_false, ↓reduceIte, reduceCtorEq]; first | exact hS _ _ | assumption | (constructor <;> omega)))) | (refine st 0 _ _ _ _ _ _ _ rfl ?_)
  exact ⟨rfl, rfl, rfl⟩
end
