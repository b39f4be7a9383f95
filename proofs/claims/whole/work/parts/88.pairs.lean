/-! Each call: the class, then the reference; the same answer. -/
section
variable {X : XC} {v : SV} {L : SL} {own : Int → Nat} {n : Nat}
theorem a_toN {y : Nat} {av : List AV} {fr lo mc ms : Nat} {Q : AQ} (h : AHolds X y av v L fr lo mc ms Q) : AHoldsN X y av v L fr lo mc ms Q := fun f A DA hP => x_wk (h f A DA hP) (fun r f' q => by
  obtain ⟨ra, v', L', DA', q1, q2, q3⟩ := q
  exact ⟨ra, v', L', A, DA', q1, ⟨rfl, rfl⟩, q2, q3⟩)
def P2 (X : XC) (y1 y2 : Nat) (av : List AV) (v : SV) (L : SL) (n : Nat) : Prop := ∃ (fr1 lo1 mc1 ms1 : Nat) (Q1 : AQ), AHoldsN X y1 (aR 0 0 :: av) v L fr1 lo1 mc1 ms1 Q1 ∧ (fr1 ≤ 100 ∧ lo1 ≤ 4000 ∧ mc1 ≤ 100 ∧ ms1 ≤ 9000) ∧ ∀ ra v1 L1, Q1 ra v1 L1 → v1 60 0 = 1 ∧ ∃ (z : Int) (fr2 lo2 : Nat) (Q2 : AQ), ra = some (aI z) ∧ AHolds X y2 (aR 20 0 :: av) v1 L1 fr2 lo2 0 0 Q2 ∧ (fr2 ≤ 100 ∧ lo2 ≤ 4000) ∧ ∀ rb v2 L2, Q2 rb v2 L2 → rb = some (aI z) ∧ ∃ own, RJ own (n + 1) v2 L2
theorem p2_ad {y1 y2 : Nat} {av : List AV} {fr lo mc ms fr2 lo2 : Nat} {P : Prop} {r1 r0 : Int} {v1 : SV} {L1 : SL} (h60 : v 60 0 = 1) (h1 : AHoldsN X y1 (aR 0 0 :: av) v L fr lo mc ms (AD P r1 v1 L1 r0 v L)) (hb : fr ≤ 100 ∧ lo ≤ 4000 ∧ mc ≤ 100 ∧ ms ≤ 9000) (hb2 : fr2 ≤ 100 ∧ lo2 ≤ 4000) (hp : P → v1 60 0 = 1 ∧ ∃ Q2 : AQ, AHolds X y2 (aR 20 0 :: av) v1 L1 fr2 lo2 0 0 Q2 ∧ ∀ rb v2 L2, Q2 rb v2 L2 → rb = some (aI r1) ∧ ∃ own, RJ own (n + 1) v2 L2) (hn : ¬ P → ∃ Q2 : AQ, AHolds X y2 (aR 20 0 :: av) v L fr2 lo2 0 0 Q2 ∧ ∀ rb v2 L2, Q2 rb v2 L2 → rb = some (aI r0) ∧ ∃ own, RJ own (n + 1) v2 L2) : P2 X y1 y2 av v L n := by
  refine ⟨fr, lo, mc, ms, _, h1, hb, fun ra w M q => ?_⟩
  rcases q with ⟨q, rfl, rfl, rfl⟩ | ⟨q, rfl, rfl, rfl⟩
  · obtain ⟨g, Q2, a, b⟩ := hp q
    exact ⟨g, r1, fr2, lo2, Q2, rfl, a, hb2, b⟩
  · obtain ⟨Q2, a, b⟩ := hn q
    exact ⟨h60, r0, fr2, lo2, Q2, rfl, a, hb2, b⟩
theorem p2_q {y1 y2 : Nat} {av : List AV} {fr lo fr2 lo2 : Nat} {P : Prop} {r1 r0 : Int} (hJ : RJ own n v L) (h1 : AHolds X y1 (aR 0 0 :: av) v L fr lo 0 0 (AD P r1 v L r0 v L)) (hb : fr ≤ 100 ∧ lo ≤ 4000) (hb2 : fr2 ≤ 100 ∧ lo2 ≤ 4000) (h2 : AHolds X y2 (aR 20 0 :: av) v L fr2 lo2 0 0 (AD P r1 v L r0 v L)) : P2 X y1 y2 av v L n := by
  refine p2_ad hJ.1.2.1 (a_toN h1) ⟨hb.1, hb.2, by omega, by omega⟩ hb2 (fun hp => ⟨hJ.1.2.1, _, h2, fun rb v2 L2 q => ?_⟩) (fun hp => ⟨_, h2, fun rb v2 L2 q => ?_⟩)
  · rcases q with ⟨q, rfl, rfl, rfl⟩ | ⟨q, rfl, rfl, rfl⟩
    · exact ⟨rfl, own, RJ_up hJ⟩
    · exact absurd hp q
  · rcases q with ⟨q, rfl, rfl, rfl⟩ | ⟨q, rfl, rfl, rfl⟩
    · exact absurd q hp
    · exact ⟨rfl, own, RJ_up hJ⟩
theorem p2_e {y1 y2 : Nat} {av : List AV} {fr lo fr2 lo2 : Nat} {r1 : Int} (hJ : RJ own n v L) (h1 : AHolds X y1 (aR 0 0 :: av) v L fr lo 0 0 (fun r v' L' => r = some (aI r1) ∧ v = v' ∧ L = L')) (hb : fr ≤ 100 ∧ lo ≤ 4000) (hb2 : fr2 ≤ 100 ∧ lo2 ≤ 4000) (h2 : AHolds X y2 (aR 20 0 :: av) v L fr2 lo2 0 0 (fun r v' L' => r = some (aI r1) ∧ v = v' ∧ L = L')) : P2 X y1 y2 av v L n := by
  refine ⟨fr, lo, 0, 0, _, a_toN h1, ⟨hb.1, hb.2, by omega, by omega⟩, fun ra w M q => ?_⟩
  obtain ⟨rfl, rfl, rfl⟩ := q
  refine ⟨hJ.1.2.1, r1, fr2, lo2, _, rfl, h2, hb2, fun rb v2 L2 q => ?_⟩
  obtain ⟨rfl, rfl, rfl⟩ := q
  exact ⟨rfl, own, RJ_up hJ⟩
theorem RJ_b (hJ : RJ own n v L) (hn : n < 512) : pot v L v ≤ 2044 ∧ v 4 0 < 3100 ∧ 0 ≤ v 4 0 ∧ v 2 0 < 1000000 := by
  have h1 := hJ.1.2.2.1
  have h2 := hJ.1.2.2.2.1
  have h3 := pot_b hJ.1.1
  have h4 := hJ.1.1.2.2.1.2.1
  have h5 := hJ.1.1.2.2.2.2.2.2.2.2.2
  refine ⟨by omega, by omega, h4, by omega⟩
-- the questions
theorem p_state (z : Int) (hJ : RJ own n v L) (hz : iS z) : P2 X y_H_state y_R_state [aI z] v L n := p2_q hJ (c_state z hz) (by decide) (by decide) (d_state z hJ.1.2.1 hJ.1.1 hz)
theorem p_result (z : Int) (hJ : RJ own n v L) (hz : iS z) : P2 X y_H_result y_R_result [aI z] v L n := p2_q hJ (c_result z hz) (by decide) (by decide) (d_result z hJ.1.2.1 hJ.1.1 hz)
theorem p_instance (z : Int) (hJ : RJ own n v L) (hz : iS z) : P2 X y_H_instance y_R_instance [aI z] v L n := p2_q hJ (c_instance z hJ.1.1.1 hz) (by decide) (by decide) (d_instance z hJ.1.2.1 hJ.1.1 hz)
theorem p_session (z : Int) (hJ : RJ own n v L) (hz : iS z) : P2 X y_H_session y_R_session [aI z] v L n := p2_q hJ (c_session z hJ.1.1.1 hz) (by decide) (by decide) (d_session z hJ.1.2.1 hJ.1.1 hz)
theorem p_task (z : Int) (hJ : RJ own n v L) (hz : iS z) : P2 X y_H_task y_R_task [aI z] v L n := p2_q hJ (c_task z hJ.1.1.1 hz) (by decide) (by decide) (d_task z hJ.1.2.1 hJ.1.1 hz)
theorem p_instances (z : Int) (hJ : RJ own n v L) (hz : iS z) : P2 X y_H_instances y_R_instances [aI z] v L n := p2_q hJ (c_instances z hJ.1.1.1 hz (by have := hJ.1.1.2.1.1.2.2.2.2.2.2; omega)) (by decide) (by decide) (d_instances z hJ.1.2.1 hJ.1.1 hz)
theorem p_waiting (z : Int) (hJ : RJ own n v L) (hz : iS z) : P2 X y_H_waiting y_R_waiting [aI z] v L n := p2_q hJ (c_waiting z hJ.1.1.1 hz) (by decide) (by decide) (d_waiting z hJ.1.2.1 hJ.1.1 hz)
theorem p_events (hJ : RJ own n v L) : P2 X y_H_events y_R_events [] v L n := p2_e hJ c_events (by decide) (by decide) (d_events hJ.1.2.1 hJ.1.1)
theorem p_event (z : Int) (hJ : RJ own n v L) (hn : n < 512) (hz : iS z) : P2 X y_H_event y_R_event [aI z] v L n := p2_e hJ (c_event z hz (RJ_b hJ hn).2.2.1) (by decide) (by decide) (d_event z hJ.1.2.1 hJ.1.1 hz (by have := (RJ_b hJ hn).2.1; omega))
-- the steps
theorem p_call (z t m : Int) (hJ : RJ own n v L) (hn : n < 512) (hz : iS z) (ht : iS t) (hm : iS m) : P2 X y_H_call y_R_call [aI z, aI t, aI m] v L n := by
  have hb := RJ_b hJ hn
  refine p2_ad hJ.1.2.1 (a_toN (c_call z t m hJ.1.1.1 hz ht hm)) (by decide) (fr2 := 70) (lo2 := 2800) (by decide) (fun hp => ?_) (fun hp => ?_)
  · have hh : ∀ c, 60 ≤ c → (caS z.toNat t.toNat m (v, L)).1 c = v c := fun c hc => funext fun j => caS_hi hc
    obtain ⟨g1, g2, g3⟩ := RI_mid hJ.1 hh
    refine ⟨g2, _, d_call z t m g2 g1 hz ht hm (by omega), fun rb v2 L2 q => ?_⟩
    rcases q with ⟨-, ⟨rfl, rfl⟩, q2, ⟨own', q3⟩, q4⟩ | ⟨q, -⟩
    · refine ⟨rfl, own', RJ_end g2 q2 q3 (by omega) (by rw [caS_2]; have := hJ.1.2.2.2.1; show v 2 0 ≤ _; omega) (fun y => ?_) (fun y => ?_) (RJ_141 hJ hh (by rw [caS_1]))⟩
      · rw [caS_00] at y; have := hp.1; have y : v 0 0 = 3 := y; omega
      · rw [caS_00] at y; have := hp.1; have y : v 0 0 = 0 := y; omega
    · exact absurd hp q
  · refine ⟨_, d_call z t m hJ.1.2.1 hJ.1.1 hz ht hm (by omega), fun rb v2 L2 q => ?_⟩
    rcases q with ⟨q, -⟩ | ⟨-, rfl, rfl, rfl⟩
    · exact absurd q hp
    · exact ⟨rfl, own, RJ_up hJ⟩
theorem p_tick (z : Int) (hJ : RJ own n v L) (hn : n < 512) (hz : iS z) : P2 X y_H_tick y_R_tick [aI z] v L n := by
  have hb := RJ_b hJ hn
  refine p2_ad hJ.1.2.1 (a_toN (c_tick z hJ.1.1.1 hz hb.2.2.2)) (by decide) (fr2 := 70) (lo2 := 2800) (by decide) (fun hp => ?_) (fun hp => ?_)
  · have hh : ∀ c, 60 ≤ c → (tkN z.toNat (v, L)).1 c = v c := fun c hc => funext fun j => tkN_hi hc _ _
    obtain ⟨g1, g2, g3⟩ := RI_mid hJ.1 hh
    refine ⟨g2, _, d_tick z g2 g1 hz hb.2.2.2 (by omega), fun rb v2 L2 q => ?_⟩
    rcases q with ⟨-, ⟨rfl, rfl⟩, q2, ⟨own', q3⟩, q4⟩ | ⟨q, -⟩
    · have hp1 := hp.1
      have hp2 := hp.2
      refine ⟨rfl, own', RJ_end g2 q2 q3 (by omega) (by rw [tkN_2]; have := hJ.1.2.2.2.1; show v 2 0 + _ ≤ _; omega) (fun y => ?_) (fun y => ?_) (RJ_141 hJ hh (by rw [tkN_1]))⟩
      · rw [tkN_00] at y; have y : v 0 0 = 3 := y; omega
      · rw [tkN_00] at y; have y : v 0 0 = 0 := y; omega
    · exact absurd hp q
  · refine ⟨_, d_tick z hJ.1.2.1 hJ.1.1 hz hb.2.2.2 (by omega), fun rb v2 L2 q => ?_⟩
    rcases q with ⟨q, -⟩ | ⟨-, rfl, rfl, rfl⟩
    · exact absurd q hp
    · exact ⟨rfl, own, RJ_up hJ⟩
theorem p_finish (z o : Int) (hJ : RJ own n v L) (hn : n < 512) (hz : iS z) (ho : iS o) : P2 X y_H_finish y_R_finish [aI z, aI o] v L n := by
  have hb := RJ_b hJ hn
  have h3 := hJ.1.2.2.2.2
  refine p2_ad hJ.1.2.1 (a_toN (c_finish z o hJ.1.1.1 hz ho)) (by decide) (fr2 := 70) (lo2 := 2800) (by decide) (fun hp => ?_) (fun hp => ?_)
  · have hh : ∀ c, 60 ≤ c → (fiS z.toNat o.toNat (v, L)).1 c = v c := fun c hc => funext fun j => fiS_hi hc
    obtain ⟨g1, g2, g3⟩ := RI_mid hJ.1 hh
    have n3 : ¬ v 0 0 = 3 := fun y => by have := h3 y z.toNat (by have := hp.1; omega); have := hp.2.1; omega
    have n0 : ¬ v 0 0 = 0 := fun y => by have := (hJ.2.1 y).1 z.toNat (by have := hp.1; omega); have := hp.2.1; omega
    refine ⟨g2, _, d_finish d_end z o g2 g1 hz ho (by omega) h3, fun rb v2 L2 q => ?_⟩
    rcases q with ⟨-, ⟨rfl, rfl⟩, q2, ⟨own', q3⟩, q4⟩ | ⟨q, -⟩
    · refine ⟨rfl, own', RJ_end g2 q2 q3 (by omega) (by rw [fiS_2]; have := hJ.1.2.2.2.1; show v 2 0 ≤ _; omega) ?_ ?_ (RJ_141 hJ hh (by rw [fiS_1]))⟩
      · unfold fiS
        by_cases y : v 0 0 = 1
        · rw [cif_t (show (v, L).1 0 0 = 1 from y)]
          intro x
          rw [stl_00] at x
          have x : emV v z.toNat o.toNat 0 0 = 3 := x
          rw [emV_00] at x
          omega
        · rw [cif_f (show ¬ (v, L).1 0 0 = 1 from y)]
          exact eiV_3 (by show ¬ emV v z.toNat o.toNat 0 0 = 3; rw [emV_00]; exact n3)
      · unfold fiS
        by_cases y : v 0 0 = 1
        · rw [cif_t (show (v, L).1 0 0 = 1 from y)]
          intro x
          rw [stl_00] at x
          have x : emV v z.toNat o.toNat 0 0 = 0 := x
          rw [emV_00] at x
          omega
        · rw [cif_f (show ¬ (v, L).1 0 0 = 1 from y)]
          exact eiV_0 (by show ¬ emV v z.toNat o.toNat 0 0 = 0; rw [emV_00]; exact n0)
    · exact absurd hp q
  · refine ⟨_, d_finish d_end z o hJ.1.2.1 hJ.1.1 hz ho (by omega) h3, fun rb v2 L2 q => ?_⟩
    rcases q with ⟨q, -⟩ | ⟨-, rfl, rfl, rfl⟩
    · exact absurd q hp
    · exact ⟨rfl, own, RJ_up hJ⟩
theorem p_shutdown (hJ : RJ own n v L) (hn : n < 512) : P2 X y_H_shutdown y_R_shutdown [] v L n := by
  have hb := RJ_b hJ hn
  refine p2_ad hJ.1.2.1 (a_toN (c_shutdown hJ.1.1.1)) (by decide) (fr2 := 70) (lo2 := 2800) (by decide) (fun hp => ?_) (fun hp => ?_)
  · have hh : ∀ c, 60 ≤ c → (sdS (v, L)).1 c = v c := fun c hc => funext fun j => sdS_hi hc
    obtain ⟨g1, g2, g3⟩ := RI_mid hJ.1 hh
    refine ⟨g2, _, d_shutdown d_end g2 g1 (by omega), fun rb v2 L2 q => ?_⟩
    rcases q with ⟨-, ⟨rfl, rfl⟩, q2, ⟨own', q3⟩, q4⟩ | ⟨q, -⟩
    · refine ⟨rfl, own', RJ_end g2 q2 q3 (by omega) (by rw [sdS_2]; have := hJ.1.2.2.2.1; show v 2 0 ≤ _; omega) ?_ ?_ (RJ_141 hJ hh (by rw [sdS_1]))⟩
      · exact eiV_3 (by rw [up2_s]; decide)
      · exact eiV_0 (by rw [up2_s]; decide)
    · exact absurd hp q
  · refine ⟨_, d_shutdown d_end hJ.1.2.1 hJ.1.1 (by omega), fun rb v2 L2 q => ?_⟩
    rcases q with ⟨q, -⟩ | ⟨-, rfl, rfl, rfl⟩
    · exact absurd q hp
    · exact ⟨rfl, own, RJ_up hJ⟩
theorem p_start (hJ : RJ own n v L) (hn : n < 512) : P2 X y_H_start y_R_start [] v L n := by
  have hb := RJ_b hJ hn
  refine p2_ad hJ.1.2.1 (a_toN (c_start hJ.1.1.1)) (by decide) (fr2 := 30) (lo2 := 1200) (by decide) (fun hp => ?_) (fun hp => ?_)
  · have hh : ∀ c, 60 ≤ c → saV v L c = v c := fun c hc => funext fun j => saV_hi hc
    obtain ⟨g1, g2, g3⟩ := RI_mid hJ.1 hh
    refine ⟨g2, _, d_start g2 g1 (by omega), fun rb v2 L2 q => ?_⟩
    rcases q with ⟨-, ⟨rfl, rfl⟩, q2, ⟨own', q3⟩, q4⟩ | ⟨q, -⟩
    · refine ⟨rfl, own', RJ_end g2 q2 q3 (by omega) (by rw [saV_2]; have := hJ.1.2.2.2.1; omega) (fun y => ?_) (fun y => ?_) (RJ_141 hJ hh rfl)⟩
      · rw [saV_00] at y; omega
      · rw [saV_00] at y; omega
    · exact absurd hp q
  · refine ⟨_, d_start hJ.1.2.1 hJ.1.1 (by omega), fun rb v2 L2 q => ?_⟩
    rcases q with ⟨q, -⟩ | ⟨-, rfl, rfl, rfl⟩
    · exact absurd q hp
    · exact ⟨rfl, own, RJ_up hJ⟩
theorem p_create (z : Int) (hJ : RJ own n v L) (hn : n < 512) (hz : iS z) : P2 X y_H_create y_R_create [aI z] v L n := by
  have hb := RJ_b hJ hn
  refine p2_ad hJ.1.2.1 (c_create z hJ.1.1 hz hb.2.1) (by decide) (fr2 := 70) (lo2 := 2800) (by decide) (fun hp => ?_) (fun hp => ?_)
  · have hh : ∀ c, 60 ≤ c → (stl (csV v (L 0).length z.toNat, csL L (L 0).length z.toNat)).1 c = v c := fun c hc => funext fun j => (stl_hi hc).trans (congrFun (csV_c (by omega) (by omega) (by omega)) j)
    obtain ⟨g1, g2, g3⟩ := RI_mid hJ.1 hh
    have c0 : ∀ c, c < 3 → csV v (L 0).length z.toNat c = v c := fun c hc => csV_c (by omega) (by omega) (by omega)
    refine ⟨g2, _, d_create z g2 g1 hz (by omega), fun rb v2 L2 q => ?_⟩
    rcases q with ⟨-, ⟨rfl, rfl⟩, q2, ⟨own', q3⟩, q4⟩ | ⟨q, -⟩
    · have hp1 := hp.1
      refine ⟨rfl, own', RJ_end g2 q2 q3 (by omega) ?_ (fun y => ?_) (fun y => ?_) (RJ_141 hJ hh ?_)⟩
      · rw [stl_2]
        show csV v (L 0).length z.toNat 2 0 ≤ _
        rw [c0 2 (by omega)]; have := hJ.1.2.2.2.1; omega
      · rw [stl_00] at y
        have y : csV v (L 0).length z.toNat 0 0 = 3 := y
        rw [c0 0 (by omega)] at y; omega
      · rw [stl_00] at y
        have y : csV v (L 0).length z.toNat 0 0 = 0 := y
        rw [c0 0 (by omega)] at y; omega
      · rw [stl_1]
        show (csL L (L 0).length z.toNat 1).length = _
        unfold csL
        rw [if_neg (by omega), if_neg (by omega), if_neg (by omega)]
    · exact absurd hp q
  · refine ⟨_, d_create z hJ.1.2.1 hJ.1.1 hz (by omega), fun rb v2 L2 q => ?_⟩
    rcases q with ⟨q, -⟩ | ⟨-, rfl, rfl, rfl⟩
    · exact absurd q hp
    · exact ⟨rfl, own, RJ_up hJ⟩
theorem p_submit (t m b : Int) (hJ : RJ own n v L) (hn : n < 512) (ht : iS t) (hm : iS m) (hbb : b = 0 ∨ b = 1) : P2 X y_H_submit y_R_submit [aI t, aI m, aI b] v L n := by
  have hb := RJ_b hJ hn
  have hz := hJ.2.2 (L 1).length (Nat.le_refl _)
  refine p2_ad hJ.1.2.1 (c_submit t m b hJ.1.1 hz ht hm hbb) (by decide) (fr2 := 70) (lo2 := 2800) (by decide) (fun hp => ?_) (fun hp => ?_)
  · have e0 : ∀ c, (c < 50 ∨ 55 < c) → tsV v (L 1).length t.toNat m b c = v c := fun c hc => funext fun i => if_neg (by omega)
    have hh : ∀ c, 60 ≤ c → (stl (tsV v (L 1).length t.toNat m b, tsL L (L 1).length)).1 c = v c := fun c hc => funext fun j => (stl_hi hc).trans (congrFun (e0 c (by omega)) j)
    obtain ⟨g1, g2, g3⟩ := RI_mid hJ.1 hh
    refine ⟨g2, _, d_submit t m b g2 g1 (by rw [hh 141 (by omega)]; exact hz) ht hm hbb (by omega), fun rb v2 L2 q => ?_⟩
    rcases q with ⟨-, ⟨rfl, rfl⟩, q2, ⟨own', q3⟩, q4⟩ | ⟨q, -⟩
    · have hp1 := hp.1
      refine ⟨rfl, own', RJ_end g2 q2 q3 (by omega) ?_ (fun y => ?_) (fun y => ?_) (fun k hk => ?_)⟩
      · rw [stl_2]
        show tsV v (L 1).length t.toNat m b 2 0 ≤ _
        rw [e0 2 (by omega)]; have := hJ.1.2.2.2.1; omega
      · rw [stl_00] at y
        have y : tsV v (L 1).length t.toNat m b 0 0 = 3 := y
        rw [e0 0 (by omega)] at y; omega
      · rw [stl_00] at y
        have y : tsV v (L 1).length t.toNat m b 0 0 = 0 := y
        rw [e0 0 (by omega)] at y; omega
      · rw [hh 141 (by omega)]
        refine hJ.2.2 k ?_
        rw [stl_1] at hk
        have hk : (upL L 1 (L 1 ++ [(L 1).length]) 1).length ≤ k := hk
        rw [upL_s, List.length_append] at hk
        omega
    · exact absurd hp q
  · refine ⟨_, d_submit t m b hJ.1.2.1 hJ.1.1 hz ht hm hbb (by omega), fun rb v2 L2 q => ?_⟩
    rcases q with ⟨q, -⟩ | ⟨-, rfl, rfl, rfl⟩
    · exact absurd q hp
    · exact ⟨rfl, own, RJ_up hJ⟩
end
