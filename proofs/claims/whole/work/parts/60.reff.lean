/-! The reference's finish, its end being given. -/
section
variable {X : XC} {L : SL}
/-- what the reference's end has to keep -/
def EndC (X : XC) (L : SL) : Prop := ∀ (own : Int → Nat) (s : SV) (M : SL) (w : SV), w 60 0 = 1 → RS own s M w → ¬ s 0 0 = 3 → (∀ i, i < 8 → s 10 i = 0) → pot s M w ≤ 2100 → AHolds X y_R_end [aR 20 0] w L 40 1600 0 0 (fun r w' L' => (r = none ∧ L = L') ∧ same w w' ∧ (∃ own', RS own' (eaV s M) M w') ∧ pot (eaV s M) M w' ≤ pot s M w)
theorem quiet_e {own : Int → Nat} {s : SV} {M : SL} {w : SV} (hR : RS own s M w) : sm 8 (w 125) = 0 ↔ ¬ anyM s := by
  have e : ∀ i, i < 8 → w 125 i = s 10 i := fun i hi => (hR.2.1.2.2.2.2.2.2.2.1.1 i hi).1
  have nn : ∀ i, i < 8 → 0 ≤ w 125 i := fun i hi => by rw [e i hi]; exact (hR.1.1 i hi).1.1.1
  constructor
  · rintro h ⟨i, h1, h2⟩
    have := sm_z 8 nn h i h1
    rw [e i h1] at this
    omega
  · intro h
    have z : ∀ i, i < 8 → w 125 i = 0 := fun i hi => by
      have a := nn i hi
      rcases Int.lt_or_le 0 (w 125 i) with y | y
      · exact absurd ⟨i, hi, by rw [← e i hi]; exact y⟩ h
      · omega
    rw [sm_eq (g := fun _ => 0) 8 z]
    rfl
theorem emR_s {v : SV} {o : Nat} (ho : o < 8) : iS (emR v o) := by
  unfold emR cif
  split
  · constructor <;> decide
  · constructor <;> omega
theorem same_lsn {w : SV} {s : Nat} {g : Prop} {k x : Int} : same w (r_ls w s g k x) := fun c hc => r_ls_c (by omega)
theorem same_lpn {w : SV} {c : Nat} {g : Prop} {x : Int} : same w (r_lpn w c g x) := fun d hd => (r_lpn_e (by omega)).trans (r_lp_c (by omega))
theorem same_left {w : SV} {i : Nat} {x : Int} : same w (r_left w i x) := fun d hd => r_left_c (by omega)
theorem d_finish (hE : EndC X L) {own : Int → Nat} {s : SV} {M : SL} {w : SV} (z o : Int) (h60 : w 60 0 = 1) (hR : RS own s M w) (hz : iS z) (ho : iS o) (hp : pot s M w ≤ 2090) (h3 : s 0 0 = 3 → ∀ i, i < 8 → s 10 i = 0) : AHolds X y_R_finish [aR 20 0, aI z, aI o] w L 70 2800 0 0 (fun r w' L' => okFin s z o ∧ (r = some (aI (emR s o.toNat)) ∧ L = L') ∧ same w w' ∧ (∃ own', RS own' (fiS z.toNat o.toNat (s, M)).1 (fiS z.toNat o.toNat (s, M)).2 w') ∧ pot (fiS z.toNat o.toNat (s, M)).1 (fiS z.toNat o.toNat (s, M)).2 w' ≤ pot s M w + 4 ∨ ¬ okFin s z o ∧ r = some (aI (-1)) ∧ w = w' ∧ L = L') := by
  by_cases hok : okFin s z o
  · obtain ⟨hz8, ⟨hd, hl⟩, ho0, ho7⟩ := id hok
    obtain ⟨i, ei⟩ : ∃ i, z.toNat = i := ⟨_, rfl⟩
    have ez : z = (i : Int) := by omega
    have hi : i < 8 := by omega
    obtain ⟨u, eu⟩ : ∃ u, o.toNat = u := ⟨_, rfl⟩
    have eo : o = (u : Int) := by omega
    have u8 : u < 8 := by omega
    rw [ei] at hd hl
    rw [ei, eu]
    subst ez eo
    have n3 : ¬ s 0 0 = 3 := fun y => by have := h3 y i hi; omega
    have hr := (hR.1.1 i hi).1
    have q := hR.2.1.2.2.2.2.2.2.2.1.1 i hi
    have e125 := q.1
    have e129 := q.2.2.1
    have e100 : w 100 0 = s 0 0 := hR.2.1.1.1
    obtain ⟨t, et, t32, tl, e126, e127, e128, m0, m1⟩ := em_row hR.2.1 hR.1 hi hd
    obtain ⟨o1, o2, o3, o4⟩ := ref_ok hR
    obtain ⟨o5, o6⟩ := o4 t tl
    have pb := pot_b hR
    have dd := hR.2.2.2
    have sys := rSys_e hR.2.1.2.2.2.2.2.2.2.2.2.2.1 u8
    have eBt : ¬ u = 0 ∧ rSys w u → emB s u = 1 ∧ emR s u = 8 := fun h => ⟨cif_t ⟨h.1, sys.mp h.2⟩, cif_t ⟨h.1, sys.mp h.2⟩⟩
    have eBf : ¬ (¬ u = 0 ∧ rSys w u) → emB s u = 0 ∧ emR s u = u := fun h => ⟨cif_f (fun y => h ⟨y.1, sys.mpr y.2⟩), cif_f (fun y => h ⟨y.1, sys.mpr y.2⟩)⟩
    have b01 : emB s u = 0 ∨ emB s u = 1 := by unfold emB cif; split; exact Or.inr rfl; exact Or.inl rfl
    have sR := emR_s (v := s) u8
    have bR : -1 ≤ emR s u ∧ emR s u ≤ 20 := by unfold emR cif; split <;> omega
    have hin := emA_in (v := s) hi ⟨hd, hr.1.2⟩
    obtain ⟨x1, x2, x3⟩ := hR.2.1.2.2.2.2.2.2.2.2.2.2.2.1 _ hin
    obtain ⟨qq, hq⟩ : ∃ q, s 20 t = 1 → q < 4 ∧ w 115 (4 * t + q) = s 17 (emA s i) + 1 := by
      by_cases y : s 20 t = 1
      · obtain ⟨q, q1, q2⟩ := (hR.2.1.2.2.2.2.2.1 t y).2.2.2.2.2.2.2.2.2.2.1 _ hin et
        exact ⟨q, fun _ => ⟨q1, q2⟩⟩
      · exact ⟨0, fun h => absurd h y⟩
    obtain ⟨g1, g2⟩ := RS_em (o := u) hR hi hd hl et hq (by omega)
    have hl2 : emG s i u 11 i < 0 := by rw [emG_c (by omega)]; exact hl
    obtain ⟨g3, g4⟩ := RS_gets g1 hi hl2 bR
    have eV : m_gets (emG s i u) i (emR s u) = emV s i u := rfl
    rw [eV] at g3 g4
    have eF : fiS i u (s, M) = cif (s 0 0 = 1) (stl (emV s i u, M)) (eiV (emV s i u) M, M) := rfl
    have e00 : emV s i u 0 0 = s 0 0 := (m_gets_c (by omega)).trans (emG_c (by omega))
    have er : r_end s w i u t qq = cif (kd w t = 0) (r_lpn (r_left w i (s 17 (emA s i))) (4 * t + qq) (emB s u = 1) (s 17 (emA s i))) (cif (kd w t = 1) (r_ls (r_left w i (s 17 (emA s i))) (t - 8) (goneP (emB s u) (s 18 (emA s i)) u) (if emB s u = 1 then 3 else 2) (s 17 (emA s i))) (r_left w i (s 17 (emA s i)))) := rfl
    obtain ⟨kk1, kk2, kk3, kk4⟩ := kd_e hR.2.1 t32 tl
    -- the store behind the note of leaving
    have l60 : r_left w i (s 17 (emA s i)) 60 0 = 1 := by rw [same_left 60 (by omega)]; exact h60
    have lf : ∀ c, (c ≠ 125 ∧ c ≠ 144 ∧ c ≠ 145) → r_left w i (s 17 (emA s i)) c = w c := fun c hc => r_left_c hc
    have lkd : kd (r_left w i (s 17 (emA s i))) t = kd w t := by unfold kd cmp; rw [lf 103 (by omega), lf 119 (by omega)]
    have lck : cok (r_left w i (s 17 (emA s i))) t := by unfold cok; rw [lf 119 (by omega)]; exact o5
    have l144 : r_left w i (s 17 (emA s i)) 144 0 = w 144 0 + 1 := by
      unfold r_left r_note
      have : r_pop w i 144 0 = w 144 0 := congrFun (r_pop_c (by omega)) 0
      rw [up2_s, this, wr_s (by constructor <;> omega)]
    have l124 : r_left w i (s 17 (emA s i)) 124 0 = w 124 0 := by rw [lf 124 (by omega)]
    have s18 : iS (s 18 (emA s i)) → True := fun _ => trivial
    have lv : iS (s 18 (emA s i)) → AHolds X y_R_leave [aR 20 0, aI t, aI (s 17 (emA s i)), aI (s 18 (emA s i)), aI (emB s u), aI (if u = 0 then 1 else 0)] (r_left w i (s 17 (emA s i))) L 10 400 0 0 (fun r v' L' => r = none ∧ v' = r_end s w i u t qq ∧ L = L') := by
      intro s18
      by_cases z0 : kd w t = 0
      · have z1 : s 20 t = 1 := by
          rcases tl with y | y | y
          · exact y
          · rw [if_neg (by omega), if_pos y] at kk1; omega
          · rw [if_neg (by omega), if_neg (by omega)] at kk1; omega
        obtain ⟨q1, q2⟩ := hq z1
        obtain ⟨t8, pp⟩ := hR.2.1.2.2.2.2.2.1 t z1
        rw [er, cif_t z0]
        refine d_leave0 _ _ _ _ l60 lck (by rw [lkd]; exact z0) t8 ⟨x2, by omega⟩ b01 (by rw [l124]; unfold Rd at dd; omega) (by omega) q1 (by rw [lf 115 (by omega)]; exact q2) (fun k hk y => ?_)
        rw [lf 115 (by omega)] at y
        exact pp.2.2.2.2.2.1 k qq hk q1 (by omega) (by omega)
      · by_cases z1 : kd w t = 1
        · have h8 := o6.2.1 z1
          have hg : (emB s u = 1 ∨ s 18 (emA s i) = 1 ∨ s 18 (emA s i) = 2 ∧ (if u = 0 then (1 : Int) else 0) = 1) = goneP (emB s u) (s 18 (emA s i)) u := by
            unfold goneP
            by_cases y : u = 0
            · rw [if_pos y]; simp [y]
            · rw [if_neg y]; simp [y]
          have := d_leave1 (X := X) (L := L) (s 17 (emA s i)) (s 18 (emA s i)) (emB s u) (if u = 0 then 1 else 0) l60 lck (by rw [lkd]; exact z1) h8 s18 b01 (by split; exact Or.inr rfl; exact Or.inl rfl) (by rw [l124]; unfold Rd at dd; omega) (by omega)
          rw [hg] at this
          rw [er, cif_f z0, cif_t z1]
          exact this
        · have z2 : kd w t = 2 := by
            rcases tl with y | y | y
            · rw [if_pos y] at kk1; omega
            · rw [if_neg (by omega), if_pos y] at kk1; exact kk1
            · rw [if_neg (by omega), if_neg (by omega)] at kk1; omega
          rw [er, cif_f z0, cif_f z1]
          refine a_wk (d_leave2 _ _ _ _ l60 lck (by rw [lkd]; exact z2)) ?_
          rintro _ _ _ ⟨rfl, rfl, rfl⟩
          exact ⟨rfl, rfl, rfl⟩
    have sE : same w (r_end s w i u t qq) := by
      rw [er]
      unfold cif
      repeat' split
      · exact same_t same_left same_lpn
      · exact same_t same_left same_lsn
      · exact same_left
    generalize r_end s w i u t qq = W at *
    have W60 : W 60 0 = 1 := by rw [sE 60 (by omega)]; exact h60
    have W7 := (ref_ok g1).2.2.1 i hi
    have G60 : r_give W i (emR s u) 60 0 = 1 := by rw [same_give 60 (by omega)]; exact W60
    have G100 : r_give W i (emR s u) 100 0 = s 0 0 := by rw [g3.2.1.1.1, e00]
    have sG : same w (r_give W i (emR s u)) := same_t sE same_give
    have Gd := (ref_ok g3).1
    have qe := quiet_e g3
    have anyE : ¬ anyM (emV s i u) → ∀ j, j < 8 → emV s i u 10 j = 0 := fun h j hj => by
      have := (g3.1.1 j hj).1.1.1
      rcases Int.lt_or_le 0 (emV s i u 10 j) with y | y
      · exact absurd ⟨j, hj, y⟩ h
      · omega
    have g4' : pot (emV s i u) M (r_give W i (emR s u)) ≤ pot s M w + 1 := by omega
    generalize r_give W i (emR s u) = G at *
    sorry
  · sorry
end
