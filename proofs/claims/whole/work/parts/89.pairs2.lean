/-! Each call, the rest: component, depends, application, cancel; the start. -/
section
variable {X : XC} {v v1 v2 : SV} {L L1 : SL} {own : Int → Nat} {n : Nat}
theorem RJ_mk (h60 : v1 60 0 = 1) (hs : ∀ c, c < 100 → v2 c = v1 c) (hR : RS own v1 L1 v2) (hp : pot v1 L1 v2 ≤ 4 * n) (h2 : v1 2 0 ≤ 50 * n) (h3 : v1 0 0 = 3 → ∀ i, i < 8 → v1 10 i = 0) (h0 : v1 0 0 = 0 → (∀ i, i < 8 → v1 10 i = 0) ∧ L1 1 = [] ∧ ∀ c : Nat, c < 8 → v1 1 0 ≤ c → v2 108 c = 0 ∧ v2 109 c = 0) (h141 : ∀ k, (L1 1).length ≤ k → v2 141 k = 0) : RJ own n v2 L1 := by
  obtain ⟨g1, g2⟩ := RS_v2 hR hs
  refine ⟨⟨g1, by rw [hs 60 (by omega)]; exact h60, by rw [g2]; exact hp, by rw [hs 2 (by omega)]; exact h2, ?_⟩, ?_, h141⟩
  · rw [hs 0 (by omega), hs 10 (by omega)]; exact h3
  · rw [hs 0 (by omega), hs 10 (by omega), hs 1 (by omega)]; exact h0
theorem p_component (k m t d : Int) (hJ : RJ own n v L) (hk : iS k) (hm : iS m) (ht : iS t) (hd : iS d) : P2 X y_H_component y_R_component [aI k, aI m, aI t, aI d] v L n := by
  have b0 := hJ.1.1.2.1.1.2.2.2.2.2.2
  refine p2_ad hJ.1.2.1 (c_component k m t d hJ.1.1 hk hm ht hd) (by decide) (fr2 := 0) (lo2 := 0) (by decide) (fun hp => ?_) (fun hp => ?_)
  · have hc : ∀ c, c ≠ 1 → (c < 20 ∨ 43 < c) → cmV v k m t d c = v c := fun c a b => cmV_c a b
    have hh : ∀ c, 60 ≤ c → cmV v k m t d c = v c := fun c h => hc c (by omega) (by omega)
    obtain ⟨g1, g2, g3⟩ := RI_mid hJ.1 hh
    refine ⟨g2, _, d_component k m t d g2 g1 hk hm ht hd, fun rb v2 L2 q => ?_⟩
    rcases q with ⟨-, rfl, rfl, rfl⟩ | ⟨q, -⟩
    · obtain ⟨o1, o2, -⟩ := id hp
      obtain ⟨z1, z2, z3⟩ := hJ.2.1 o1
      obtain ⟨r1, r2⟩ := RS_cm g1 hp (by rw [hh 108 (by omega), hh 109 (by omega)]; exact z3 _ (by omega) (by omega))
      have e1 : cmV v k m t d 1 0 = v 1 0 + 1 := by unfold cmV; rw [if_pos ⟨rfl, rfl⟩]
      have l1 : cmL v L 1 = L 1 := if_neg (by omega)
      refine ⟨rfl, own, RJ_mk g2 (fun c h => r_cmp_c (by omega)) r1 (by omega) ?_ (fun y => ?_) (fun _ => ⟨?_, by rw [l1]; exact z2, fun c c8 h => ?_⟩) (fun j hj => ?_)⟩
      · rw [hc 2 (by omega) (by omega)]; have := hJ.1.2.2.2.1; omega
      · rw [hc 0 (by omega) (by omega)] at y; omega
      · rw [hc 10 (by omega) (by omega)]; exact z1
      · rw [e1] at h
        rw [r_cmp_c (by omega), r_cmp_c (by omega), hh 108 (by omega), hh 109 (by omega)]
        exact z3 c c8 (by omega)
      · rw [r_cmp_c (by omega), hh 141 (by omega)]
        rw [l1] at hj
        exact hJ.2.2 j hj
    · exact absurd hp q
  · refine ⟨_, d_component k m t d hJ.1.2.1 hJ.1.1 hk hm ht hd, fun rb v2 L2 q => ?_⟩
    rcases q with ⟨q, -⟩ | ⟨-, rfl, rfl, rfl⟩
    · exact absurd q hp
    · exact ⟨rfl, own, RJ_up hJ⟩
theorem p_depends (a b : Int) (hJ : RJ own n v L) (ha : iS a) (hb : iS b) : P2 X y_H_depends y_R_depends [aI a, aI b] v L n := by
  refine p2_ad hJ.1.2.1 (a_toN (c_depends a b hJ.1.1.1 ha hb)) (by decide) (fr2 := 10) (lo2 := 400) (by decide) (fun hp => ?_) (fun hp => ?_)
  · refine ⟨hJ.1.2.1, _, d_depends a b hJ.1.2.1 hJ.1.1 ha hb, fun rb v2 L2 q => ?_⟩
    rcases q with ⟨-, rfl, rfl, rfl⟩ | ⟨q, -⟩
    · obtain ⟨o1, o2, o3, o4, o5⟩ := id hp
      obtain ⟨z1, z2, z3⟩ := hJ.2.1 o1
      obtain ⟨r1, r2⟩ := RS_dep hJ.1.1 o2.2.2 o3.2.2 o4 o5
      have a1 := (sg_n hJ.1.1 o2.2.2).1
      have f : ∀ c, (c ≠ 107 ∧ c ≠ 108) → r_dep v a.toNat b.toNat c = v c := fun c hc => by
        funext j
        unfold r_dep
        rw [up2_c hc.2, up2_c hc.1]
      have l1 : upL L (200 + a.toNat) (L (200 + a.toNat) ++ [b.toNat]) 1 = L 1 := upL_n (by omega)
      have hp4 := hJ.1.2.2.1
      have r2 : pot v (upL L (200 + a.toNat) (L (200 + a.toNat) ++ [b.toNat])) (r_dep v a.toNat b.toNat) = pot v L v := r2
      refine ⟨rfl, own, RJ_mk hJ.1.2.1 (fun c h => f c (by omega)) r1 (by omega) ?_ (fun y => by omega) (fun _ => ⟨z1, by rw [l1]; exact z2, fun c c8 h => ?_⟩) (fun j hj => ?_)⟩
      · have := hJ.1.2.2.2.1; omega
      · rw [f 109 (by omega)]
        have y := z3 c c8 h
        refine ⟨?_, y.2⟩
        unfold r_dep
        rw [up2_i (by omega), up2_c (by omega)]
        exact y.1
      · rw [f 141 (by omega)]
        rw [l1] at hj
        exact hJ.2.2 j hj
    · exact absurd hp q
  · refine ⟨_, d_depends a b hJ.1.2.1 hJ.1.1 ha hb, fun rb v2 L2 q => ?_⟩
    rcases q with ⟨q, -⟩ | ⟨-, rfl, rfl, rfl⟩
    · exact absurd q hp
    · exact ⟨rfl, own, RJ_up hJ⟩
theorem p_application (e b : Int) (hJ : RJ own n v L) (he : iS e) (hb : b = 0 ∨ b = 1) : P2 X y_H_application y_R_application [aI e, aI b] v L n := by
  refine p2_ad hJ.1.2.1 (a_toN (c_application e b he hb)) (by decide) (fr2 := 0) (lo2 := 0) (by decide) (fun hp => ?_) (fun hp => ?_)
  · have hc : ∀ c, c ≠ 7 → up2 v 7 e.toNat (b + 1) c = v c := fun c h => funext fun j => up2_c h
    obtain ⟨g1, g2, g3⟩ := RI_mid hJ.1 (v1 := up2 v 7 e.toNat (b + 1)) (fun c h => hc c (by omega))
    refine ⟨g2, _, d_application e b g2 g1 he hb, fun rb v2 L2 q => ?_⟩
    rcases q with ⟨-, rfl, rfl, rfl⟩ | ⟨q, -⟩
    · obtain ⟨o1, o2, o3, o4⟩ := id hp
      obtain ⟨z1, z2, z3⟩ := hJ.2.1 o1
      obtain ⟨r1, r2⟩ := RS_mark g1 (e := e.toNat) (by omega) hb
      have f : ∀ c, c ≠ 117 → up2 (up2 v 7 e.toNat (b + 1)) 117 e.toNat (b + 1) c = up2 v 7 e.toNat (b + 1) c := fun c h => funext fun j => up2_c h
      refine ⟨rfl, own, RJ_mk g2 (fun c h => f c (by omega)) r1 (by omega) ?_ (fun y => ?_) (fun _ => ⟨?_, z2, fun c c8 h => ?_⟩) (fun j hj => ?_)⟩
      · rw [hc 2 (by omega)]; have := hJ.1.2.2.2.1; omega
      · rw [hc 0 (by omega)] at y; omega
      · rw [hc 10 (by omega)]; exact z1
      · rw [hc 1 (by omega)] at h
        rw [f 108 (by omega), f 109 (by omega), hc 108 (by omega), hc 109 (by omega)]
        exact z3 c c8 h
      · rw [f 141 (by omega), hc 141 (by omega)]
        exact hJ.2.2 j hj
    · exact absurd hp q
  · refine ⟨_, d_application e b hJ.1.2.1 hJ.1.1 he hb, fun rb v2 L2 q => ?_⟩
    rcases q with ⟨q, -⟩ | ⟨-, rfl, rfl, rfl⟩
    · exact absurd q hp
    · exact ⟨rfl, own, RJ_up hJ⟩
theorem up2_sf {w : SV} {c i : Nat} {x : Int} (h : w c i = x) : up2 w c i x = w := by
  funext d j
  unfold up2
  split
  · rename_i z
    rw [z.1, z.2, h]
  · rfl
theorem p_cancel (k : Int) (hJ : RJ own n v L) (hk : iS k) : P2 X y_H_cancel y_R_cancel [aI k] v L n := by
  refine p2_ad hJ.1.2.1 (a_toN (c_cancel k hJ.1.1.1 hk)) (by decide) (fr2 := 0) (lo2 := 0) (by decide) (fun hp => ?_) (fun hp => ?_)
  · have kl : k.toNat < (L 1).length := by omega
    have n0 : ¬ v 0 0 = 0 := fun y => by have := (hJ.2.1 y).2.1; rw [this] at kl; simp at kl
    have tp := hJ.1.1.2.1.2.2.2.2.2.2.2.2.2.1 k.toNat kl
    by_cases y1 : v 53 k.toNat = 1
    · simp only [cif_t y1]
      have hc : ∀ c, c ≠ 53 → up2 v 53 k.toNat 3 c = v c := fun c h => funext fun j => up2_c h
      obtain ⟨g1, g2, g3⟩ := RI_mid hJ.1 (v1 := up2 v 53 k.toNat 3) (fun c h => hc c (by omega))
      refine ⟨g2, _, d_cancel k g2 g1 hk, fun rb v2 L2 q => ?_⟩
      rcases q with ⟨-, rfl, rfl, rfl⟩ | ⟨q, -⟩
      · simp only [cif_t y1]
        obtain ⟨r1, r2⟩ := RS_t53 g1 kl
        have f : ∀ c, c ≠ 136 → up2 (up2 v 53 k.toNat 3) 136 k.toNat 3 c = up2 v 53 k.toNat 3 c := fun c h => funext fun j => up2_c h
        refine ⟨by trivial, own, RJ_mk g2 (fun c h => f c (by omega)) r1 (by omega) ?_ (fun y i hi => ?_) (fun y => ?_) (fun j hj => ?_)⟩
        · rw [hc 2 (by omega)]; have := hJ.1.2.2.2.1; omega
        · rw [hc 0 (by omega)] at y; rw [hc 10 (by omega)]; exact hJ.1.2.2.2.2 y i hi
        · rw [hc 0 (by omega)] at y; exact absurd y n0
        · rw [f 141 (by omega), hc 141 (by omega)]; exact hJ.2.2 j hj
      · exact absurd hp q
    · by_cases y2 : v 53 k.toNat = 2
      · simp only [cif_f y1, cif_t y2]
        have hc : ∀ c, c ≠ 54 → up2 v 54 k.toNat 1 c = v c := fun c h => funext fun j => up2_c h
        obtain ⟨g1, g2, g3⟩ := RI_mid hJ.1 (v1 := up2 v 54 k.toNat 1) (fun c h => hc c (by omega))
        refine ⟨g2, _, d_cancel k g2 g1 hk, fun rb v2 L2 q => ?_⟩
        rcases q with ⟨-, rfl, rfl, rfl⟩ | ⟨q, -⟩
        · simp only [cif_f y1, cif_t y2]
          obtain ⟨r1, r2⟩ := RS_tk g1 kl (a := 2) (b := 1) (by omega) (by omega)
          rw [up2_sf y2, up2_sf (show up2 v 54 k.toNat 1 136 k.toNat = 2 by rw [up2_c (by omega), tp.1]; exact y2)] at r1 r2
          have f : ∀ c, c ≠ 141 → up2 (up2 v 54 k.toNat 1) 141 k.toNat 1 c = up2 v 54 k.toNat 1 c := fun c h => funext fun j => up2_c h
          refine ⟨by trivial, own, RJ_mk g2 (fun c h => f c (by omega)) r1 (by omega) ?_ (fun y i hi => ?_) (fun y => ?_) (fun j hj => ?_)⟩
          · rw [hc 2 (by omega)]; have := hJ.1.2.2.2.1; omega
          · rw [hc 0 (by omega)] at y; rw [hc 10 (by omega)]; exact hJ.1.2.2.2.2 y i hi
          · rw [hc 0 (by omega)] at y; exact absurd y n0
          · rw [up2_i (by omega), hc 141 (by omega)]; exact hJ.2.2 j hj
        · exact absurd hp q
      · simp only [cif_f y1, cif_f y2]
        refine ⟨hJ.1.2.1, _, d_cancel k hJ.1.2.1 hJ.1.1 hk, fun rb v2 L2 q => ?_⟩
        rcases q with ⟨-, rfl, rfl, rfl⟩ | ⟨q, -⟩
        · simp only [cif_f y1, cif_f y2]
          exact ⟨by trivial, own, RJ_up hJ⟩
        · exact absurd hp q
  · refine ⟨_, d_cancel k hJ.1.2.1 hJ.1.1 hk, fun rb v2 L2 q => ?_⟩
    rcases q with ⟨q, -⟩ | ⟨-, rfl, rfl, rfl⟩
    · exact absurd q hp
    · exact ⟨rfl, own, RJ_up hJ⟩
end
