/-! The reference's instances and start. -/
section
variable {v v' w w' : SV} {L L' : SL} {own : Int → Nat}
theorem RS_ph (h : RS own v L w) (h3 : ¬ v 0 0 = 3) {x : Int} (hx : 0 ≤ x ∧ x < 3) : RS own (up2 v 0 0 x) L (up2 w 100 0 x) ∧ pot (up2 v 0 0 x) L (up2 w 100 0 x) = pot v L w := by
  have e : ∀ c, c ≠ 0 → up2 v 0 0 x c = v c := fun c hc => funext fun j => up2_c hc
  have f : ∀ c, c ≠ 100 → up2 w 100 0 x c = w c := fun c hc => funext fun j => up2_c hc
  have g : ∀ l, l < 100 ∨ 200 ≤ l → L l = L l := fun _ _ => rfl
  obtain ⟨hW, ⟨h0, hk, hn, hs, ho, hp, he, hc, hm, ht', hx', hw⟩, hR, hD⟩ := h
  refine ⟨⟨WF_ph hW x, ⟨⟨?_, ?_, ?_, ?_, ?_, ?_, ?_⟩, (Rk_c hk (fun c hc => e c (by simp only [List.mem_cons, List.not_mem_nil, or_false] at hc; omega)) (fun c hc => f c (by simp only [List.mem_cons, List.not_mem_nil, or_false] at hc; omega))), (Rn_c hn (fun c hc => e c (by simp only [List.mem_cons, List.not_mem_nil, or_false] at hc; omega)) (fun c hc => f c (by simp only [List.mem_cons, List.not_mem_nil, or_false] at hc; omega)) g), ⟨?_, fun y => ?_, fun y => ?_⟩, (Ro_c ho (fun c hc => e c (by simp only [List.mem_cons, List.not_mem_nil, or_false] at hc; omega)) (fun c hc => f c (by simp only [List.mem_cons, List.not_mem_nil, or_false] at hc; omega))), (Rp_c hp (fun c hc => e c (by simp only [List.mem_cons, List.not_mem_nil, or_false] at hc; omega)) (fun c hc => f c (by simp only [List.mem_cons, List.not_mem_nil, or_false] at hc; omega))), (Re_c he (fun c hc => e c (by simp only [List.mem_cons, List.not_mem_nil, or_false] at hc; omega)) (fun c hc => f c (by simp only [List.mem_cons, List.not_mem_nil, or_false] at hc; omega)) g), (Rc_c hc (fun c hc => e c (by simp only [List.mem_cons, List.not_mem_nil, or_false] at hc; omega)) (fun c hc => f c (by simp only [List.mem_cons, List.not_mem_nil, or_false] at hc; omega))), (Rm_c hm (fun c hc => e c (by simp only [List.mem_cons, List.not_mem_nil, or_false] at hc; omega))), (Rt_c ht' (fun c hc => e c (by simp only [List.mem_cons, List.not_mem_nil, or_false] at hc; omega)) (fun c hc => f c (by simp only [List.mem_cons, List.not_mem_nil, or_false] at hc; omega)) g), (Rx_c hx' (fun c hc => e c (by simp only [List.mem_cons, List.not_mem_nil, or_false] at hc; omega)) (fun c hc => f c (by simp only [List.mem_cons, List.not_mem_nil, or_false] at hc; omega))), (Rw_c hw (fun c hc => e c (by simp only [List.mem_cons, List.not_mem_nil, or_false] at hc; omega)) (fun c hc => f c (by simp only [List.mem_cons, List.not_mem_nil, or_false] at hc; omega)) g)⟩, (Rl_c hR (fun c hc => e c (by simp only [List.mem_cons, List.not_mem_nil, or_false] at hc; omega)) (fun c hc => f c (by simp only [List.mem_cons, List.not_mem_nil, or_false] at hc; omega))), Rd_c hD (fun c hc => e c (by simp only [List.mem_cons, List.not_mem_nil, or_false] at hc; omega)) (fun c hc => f c (by simp only [List.mem_cons, List.not_mem_nil, or_false] at hc; omega))⟩, ?_⟩
  · rw [up2_s, up2_s]
  · rw [f 101 (by omega), e 2 (by omega)]; exact h0.2.1
  · rw [f 102 (by omega), e 1 (by omega)]; exact h0.2.2.1
  · rw [f 118 (by omega)]; exact h0.2.2.2.1
  · rw [f 135 (by omega)]; exact h0.2.2.2.2.1
  · rw [f 143 (by omega), e 5 (by omega)]; exact h0.2.2.2.2.2.1
  · have := h0.2.2.2.2.2.2
    rw [e 1 (by omega), up2_s]; omega
  · rw [e 20 (by omega), e 29 (by omega), e 30 (by omega), f 109 (by omega)]; exact hs.1
  · rw [e 20 (by omega), e 31 (by omega), f 109 (by omega), f 110 (by omega)]; exact hs.2.1 h3
  · rw [up2_s] at y; omega
  · unfold pot
    rw [f 133 (by omega), e 4 (by omega), pt1_f (e 20 (by omega)) (e 25 (by omega)) (e 29 (by omega)) (e 30 (by omega)) (e 31 (by omega)) (e 36 (by omega)), pt2_f (e 11 (by omega)), pt3_f (e 53 (by omega))]
/-- counting a list without repeats -/
theorem cnt_nd {P : Nat → Prop} : ∀ (n : Nat) (l : List Nat), l.Nodup → (∀ i, i ∈ l ↔ i < n ∧ P i) → (l.length : Int) = sm n (fun c => cif (P c) 1 0) := by
  intro n
  induction n with
  | zero =>
    intro l _ hl
    cases l with
    | nil => rfl
    | cons a l => exact absurd ((hl a).mp (by simp)).1 (by omega)
  | succ n ih =>
    intro l hd hl
    rw [sm]
    by_cases z : P n
    · have hm : n ∈ l := (hl n).mpr ⟨by omega, z⟩
      rw [cif_t z, ← ih (l.erase n) (hd.erase n) (fun i => by
        rw [hd.mem_erase_iff, hl i]
        constructor
        · rintro ⟨y1, y2, y3⟩; exact ⟨by omega, y3⟩
        · rintro ⟨y1, y2⟩; exact ⟨by omega, by omega, y2⟩)]
      have := List.length_erase_of_mem hm
      have : 0 < l.length := List.length_pos_of_mem hm
      omega
    · rw [cif_f z, ← ih l hd (fun i => by
        rw [hl i]
        constructor
        · rintro ⟨y1, y2⟩
          refine ⟨?_, y2⟩
          by_cases e : i = n
          · rw [e] at y2; exact absurd y2 z
          · omega
        · rintro ⟨y1, y2⟩; exact ⟨by omega, y2⟩)]
      omega
theorem cbN_e (v : SV) : ((cbN v 8 0 : Nat) : Int) = sm 8 (fun c => cif (v 20 c = 2 ∧ ¬ v 29 c = 0) 1 0) := by
  have b : ∀ P : Prop, ((cif P 1 0 : Nat) : Int) = cif P 1 0 := fun P => by unfold cif; split <;> rfl
  simp only [cbN, sm, Nat.zero_add, Nat.reduceAdd]
  simp only [Int.natCast_add, b]
  simp
  omega
theorem begun_e (h : RS own v L w) : w 112 0 = ((cbN v 8 0 : Nat) : Int) := by
  obtain ⟨ol, o1, o2, o3, o4, o5⟩ := h.2.1.2.2.2.2.1
  rw [o1, cbN_e, cnt_nd (P := fun c => v 20 c = 2 ∧ ¬ v 29 c = 0) 8 ol o3]
  intro i
  rw [o4 i]
  constructor
  · rintro ⟨y1, y2⟩
    refine ⟨sg8 h y1, y1, ?_⟩
    rcases h.2.1.2.2.2.1.1 i y1 with q | q | q <;> omega
  · rintro ⟨y1, y2, y3⟩
    refine ⟨y2, ?_⟩
    rcases h.2.1.2.2.2.1.1 i y2 with q | q | q <;> omega
theorem bgS_dead : ∀ (n c : Nat) (v : SV), (∀ c', c ≤ c' → c' < c + n → v 20 c' = 0) → bgS L n c v = v := by
  intro n
  induction n with
  | zero => exact fun c v _ => rfl
  | succ n ih =>
    intro c v h
    rw [bgS, cif_f (fun q => by have := h c (Nat.le_refl c) (by omega); omega)]
    exact ih (c + 1) v (fun c' h1 h2 => h c' (by omega) (by omega))
end
section
variable {X : XC} {L : SL}
theorem d_instances {own : Int → Nat} {s : SV} {M : SL} {w : SV} (c : Int) (h60 : w 60 0 = 1) (hR : RS own s M w) (hc : iS c) : AHolds X y_R_instances [aR 20 0, aI c] w L 10 400 0 0 (AD (0 ≤ c ∧ c < s 1 0) (insA s M c.toNat) w L (-1) w L) := by
  have e100 : w 100 0 = s 0 0 := hR.2.1.1.1
  have e102 : w 102 0 = s 1 0 := hR.2.1.1.2.2.1
  have e118 : w 118 0 = ((M 0).length : Int) := hR.2.1.1.2.2.2.1
  have c8 := hR.2.1.1.2.2.2.2.2.2
  have l24 := hR.1.2.2.2.2.1.2.1
  by_cases hc2 : 0 ≤ c ∧ c < s 1 0
  · have hc8 : c.toNat < 8 := by omega
    have ec : c = (c.toNat : Int) := by omega
    have eI : insA s M c.toNat = cif (s 40 c.toNat = 0) (cif (s 20 c.toNat = 1) (s 25 c.toNat) (cif (s 20 c.toNat = 2 ∧ ¬ s 31 c.toNat = -1) 1 0)) (cntMem s (M (300 + c.toNat))) := rfl
    have pl := d_pooled (X := X) (L := L) h60 hc8
    have im := d_inMemory (X := X) (L := L) h60 hc8 e118 l24
    rw [← ec] at pl im
    rcases hR.2.1.2.1 c.toNat hc8 with ⟨_, q | q | q, _⟩ | q
    · have e103 := q.2.2.1
      rw [cif_t q.2.1, cif_t q.1] at eI
      refine a_sm fun hS => ?_
      refine a_met ok_R_instances (by decide +kernel) (Nat.le_of_ble_eq_true rfl) fun go st => ?_
      repeat' first | (refine a_si ?sd ?_; case sd => (first | (first | assumption | exact hS _ _ | omega | (constructor <;> omega) | (show _ = (1 : Int) ∨ _ = (2 : Int) ∨ _ = (3 : Int); omega)) | (refine ⟨?_, ?_⟩ <;> (first | assumption | exact hS _ _ | omega | (constructor <;> omega) | (show _ = (1 : Int) ∨ _ = (2 : Int) ∨ _ = (3 : Int); omega))) | (refine ⟨?_, ?_, ?_⟩ <;> (first | assumption | exact hS _ _ | omega | (constructor <;> omega) | (show _ = (1 : Int) ∨ _ = (2 : Int) ∨ _ = (3 : Int); omega))) | (refine ⟨?_, ?_, ?_, ?_⟩ <;> (first | assumption | exact hS _ _ | omega | (constructor <;> omega) | (show _ = (1 : Int) ∨ _ = (2 : Int) ∨ _ = (3 : Int); omega))) | (refine ⟨⟨?_, ?_⟩, ?_, ?_⟩ <;> (first | assumption | exact hS _ _ | omega | (constructor <;> omega) | (show _ = (1 : Int) ∨ _ = (2 : Int) ∨ _ = (3 : Int); omega))) | decide | (simp only [r_note, up2, Int.toNat_natCast, a_live5, not_true_eq_false, not_false_eq_true, Nat.reduceEqDiff, false_and, true_and, and_true, and_false, and_self, if_true, if_false, ↓reduceIte, reduceCtorEq]; first | (first | assumption | exact hS _ _ | omega | (constructor <;> omega) | (show _ = (1 : Int) ∨ _ = (2 : Int) ∨ _ = (3 : Int); omega)) | (refine ⟨?_, ?_⟩ <;> (first | assumption | exact hS _ _ | omega | (constructor <;> omega) | (show _ = (1 : Int) ∨ _ = (2 : Int) ∨ _ = (3 : Int); omega))) | (refine ⟨?_, ?_, ?_⟩ <;> (first | assumption | exact hS _ _ | omega | (constructor <;> omega) | (show _ = (1 : Int) ∨ _ = (2 : Int) ∨ _ = (3 : Int); omega))) | (refine ⟨?_, ?_, ?_, ?_⟩ <;> (first | assumption | exact hS _ _ | omega | (constructor <;> omega) | (show _ = (1 : Int) ∨ _ = (2 : Int) ∨ _ = (3 : Int); omega))) | (refine ⟨⟨?_, ?_⟩, ?_, ?_⟩ <;> (first | assumption | exact hS _ _ | omega | (constructor <;> omega) | (show _ = (1 : Int) ∨ _ = (2 : Int) ∨ _ = (3 : Int); omega))) | decide))) | (refine And.intro ?_ ?_ <;> (intro hc; (try simp only [r_note, up2, Int.toNat_natCast, a_live5, not_true_eq_false, not_false_eq_true, Nat.reduceEqDiff, false_and, true_and, and_true, and_false, and_self, if_true, if_false, ↓reduceIte, reduceCtorEq] at hc); try (exfalso; first | assumption | omega))) | (refine x_som_i l0 ?_) | (refine x_som_i l1 ?_) | (refine x_som_i l2 ?_) | (refine x_som_i l3 ?_) | (refine x_som_i l4 ?_) | (refine x_som_i l5 ?_) | (refine x_som_i l6 ?_) | (refine x_som_i l7 ?_) | (refine x_som_i l8 ?_) | (refine x_som_i l9 ?_) | (refine a_wo ?sd ?_; case sd => (first | exact hS _ _ | assumption | (constructor <;> omega) | (simp only [r_note, up2, Int.toNat_natCast, a_live5, not_true_eq_false, not_false_eq_true, Nat.reduceEqDiff, false_and, true_and, and_true, and_false, and_self, if_true, if_false, ↓reduceIte, reduceCtorEq]; first | exact hS _ _ | assumption | (constructor <;> omega)))) | (refine st 0 _ _ _ _ _ _ _ rfl ?_) | (refine st 12 _ _ _ _ _ _ _ rfl ?_) | (refine st 14 _ _ _ _ _ _ _ rfl ?_) | (refine st 31 _ _ _ _ _ _ _ rfl ?_) | (refine st 49 _ _ _ _ _ _ _ rfl ?_) | (refine st 71 _ _ _ _ _ _ _ rfl ?_) | (refine st 72 _ _ _ _ _ _ _ rfl ?_)
      refine a_ci pl ?room ?_
      case room => decide
      rintro _ _ _ ⟨rfl, rfl, rfl⟩
      repeat' first | (refine a_si ?sd ?_; case sd => (first | (first | assumption | exact hS _ _ | omega | (constructor <;> omega) | (show _ = (1 : Int) ∨ _ = (2 : Int) ∨ _ = (3 : Int); omega)) | (refine ⟨?_, ?_⟩ <;> (first | assumption | exact hS _ _ | omega | (constructor <;> omega) | (show _ = (1 : Int) ∨ _ = (2 : Int) ∨ _ = (3 : Int); omega))) | (refine ⟨?_, ?_, ?_⟩ <;> (first | assumption | exact hS _ _ | omega | (constructor <;> omega) | (show _ = (1 : Int) ∨ _ = (2 : Int) ∨ _ = (3 : Int); omega))) | (refine ⟨?_, ?_, ?_, ?_⟩ <;> (first | assumption | exact hS _ _ | omega | (constructor <;> omega) | (show _ = (1 : Int) ∨ _ = (2 : Int) ∨ _ = (3 : Int); omega))) | (refine ⟨⟨?_, ?_⟩, ?_, ?_⟩ <;> (first | assumption | exact hS _ _ | omega | (constructor <;> omega) | (show _ = (1 : Int) ∨ _ = (2 : Int) ∨ _ = (3 : Int); omega))) | decide | (simp only [r_note, up2, Int.toNat_natCast, a_live5, not_true_eq_false, not_false_eq_true, Nat.reduceEqDiff, false_and, true_and, and_true, and_false, and_self, if_true, if_false, ↓reduceIte, reduceCtorEq]; first | (first | assumption | exact hS _ _ | omega | (constructor <;> omega) | (show _ = (1 : Int) ∨ _ = (2 : Int) ∨ _ = (3 : Int); omega)) | (refine ⟨?_, ?_⟩ <;> (first | assumption | exact hS _ _ | omega | (constructor <;> omega) | (show _ = (1 : Int) ∨ _ = (2 : Int) ∨ _ = (3 : Int); omega))) | (refine ⟨?_, ?_, ?_⟩ <;> (first | assumption | exact hS _ _ | omega | (constructor <;> omega) | (show _ = (1 : Int) ∨ _ = (2 : Int) ∨ _ = (3 : Int); omega))) | (refine ⟨?_, ?_, ?_, ?_⟩ <;> (first | assumption | exact hS _ _ | omega | (constructor <;> omega) | (show _ = (1 : Int) ∨ _ = (2 : Int) ∨ _ = (3 : Int); omega))) | (refine ⟨⟨?_, ?_⟩, ?_, ?_⟩ <;> (first | assumption | exact hS _ _ | omega | (constructor <;> omega) | (show _ = (1 : Int) ∨ _ = (2 : Int) ∨ _ = (3 : Int); omega))) | decide))) | (refine And.intro ?_ ?_ <;> (intro hc; (try simp only [r_note, up2, Int.toNat_natCast, a_live5, not_true_eq_false, not_false_eq_true, Nat.reduceEqDiff, false_and, true_and, and_true, and_false, and_self, if_true, if_false, ↓reduceIte, reduceCtorEq] at hc); try (exfalso; first | assumption | omega))) | (refine x_som_i l0 ?_) | (refine x_som_i l1 ?_) | (refine x_som_i l2 ?_) | (refine x_som_i l3 ?_) | (refine x_som_i l4 ?_) | (refine x_som_i l5 ?_) | (refine x_som_i l6 ?_) | (refine x_som_i l7 ?_) | (refine x_som_i l8 ?_) | (refine x_som_i l9 ?_) | (refine a_wo ?sd ?_; case sd => (first | exact hS _ _ | assumption | (constructor <;> omega) | (simp only [r_note, up2, Int.toNat_natCast, a_live5, not_true_eq_false, not_false_eq_true, Nat.reduceEqDiff, false_and, true_and, and_true, and_false, and_self, if_true, if_false, ↓reduceIte, reduceCtorEq]; first | exact hS _ _ | assumption | (constructor <;> omega)))) | (refine st 0 _ _ _ _ _ _ _ rfl ?_) | (refine st 12 _ _ _ _ _ _ _ rfl ?_) | (refine st 14 _ _ _ _ _ _ _ rfl ?_) | (refine st 31 _ _ _ _ _ _ _ rfl ?_) | (refine st 49 _ _ _ _ _ _ _ rfl ?_) | (refine st 71 _ _ _ _ _ _ _ rfl ?_) | (refine st 72 _ _ _ _ _ _ _ rfl ?_)
      exact Or.inl ⟨hc2, by rw [eI, pooled_e hR.2.1 q.1], rfl, rfl⟩
    · have e103 := q.2.2.1
      have q20 := q.1
      rw [cif_t q.2.1, cif_f (by omega)] at eI
      have h31 : ¬ s 31 c.toNat = -1 ↔ w 109 c.toNat = 1 ∧ ¬ s 0 0 = 3 := by
        by_cases y : s 0 0 = 3
        · have := hR.2.1.2.2.2.1.2.2 y _ q20; omega
        · have h1 := hR.2.1.2.2.2.1.2.1 y _ q20
          by_cases y2 : w 109 c.toNat = 1
          · have := h1.1 y2
            have := (hR.2.1.2.2.2.2.2.2.2.2.2.2.2.2.2.2 _ q20 y2).2.1
            omega
          · have := h1.2 y2; omega
      refine a_sm fun hS => ?_
      refine a_met ok_R_instances (by decide +kernel) (Nat.le_of_ble_eq_true rfl) fun go st => ?_
      repeat' first | (refine a_si ?sd ?_; case sd => (first | (first | assumption | exact hS _ _ | omega | (constructor <;> omega) | (show _ = (1 : Int) ∨ _ = (2 : Int) ∨ _ = (3 : Int); omega)) | (refine ⟨?_, ?_⟩ <;> (first | assumption | exact hS _ _ | omega | (constructor <;> omega) | (show _ = (1 : Int) ∨ _ = (2 : Int) ∨ _ = (3 : Int); omega))) | (refine ⟨?_, ?_, ?_⟩ <;> (first | assumption | exact hS _ _ | omega | (constructor <;> omega) | (show _ = (1 : Int) ∨ _ = (2 : Int) ∨ _ = (3 : Int); omega))) | (refine ⟨?_, ?_, ?_, ?_⟩ <;> (first | assumption | exact hS _ _ | omega | (constructor <;> omega) | (show _ = (1 : Int) ∨ _ = (2 : Int) ∨ _ = (3 : Int); omega))) | (refine ⟨⟨?_, ?_⟩, ?_, ?_⟩ <;> (first | assumption | exact hS _ _ | omega | (constructor <;> omega) | (show _ = (1 : Int) ∨ _ = (2 : Int) ∨ _ = (3 : Int); omega))) | decide | (simp only [r_note, up2, Int.toNat_natCast, a_live5, not_true_eq_false, not_false_eq_true, Nat.reduceEqDiff, false_and, true_and, and_true, and_false, and_self, if_true, if_false, ↓reduceIte, reduceCtorEq]; first | (first | assumption | exact hS _ _ | omega | (constructor <;> omega) | (show _ = (1 : Int) ∨ _ = (2 : Int) ∨ _ = (3 : Int); omega)) | (refine ⟨?_, ?_⟩ <;> (first | assumption | exact hS _ _ | omega | (constructor <;> omega) | (show _ = (1 : Int) ∨ _ = (2 : Int) ∨ _ = (3 : Int); omega))) | (refine ⟨?_, ?_, ?_⟩ <;> (first | assumption | exact hS _ _ | omega | (constructor <;> omega) | (show _ = (1 : Int) ∨ _ = (2 : Int) ∨ _ = (3 : Int); omega))) | (refine ⟨?_, ?_, ?_, ?_⟩ <;> (first | assumption | exact hS _ _ | omega | (constructor <;> omega) | (show _ = (1 : Int) ∨ _ = (2 : Int) ∨ _ = (3 : Int); omega))) | (refine ⟨⟨?_, ?_⟩, ?_, ?_⟩ <;> (first | assumption | exact hS _ _ | omega | (constructor <;> omega) | (show _ = (1 : Int) ∨ _ = (2 : Int) ∨ _ = (3 : Int); omega))) | decide))) | (refine And.intro ?_ ?_ <;> (intro hc; (try simp only [r_note, up2, Int.toNat_natCast, a_live5, not_true_eq_false, not_false_eq_true, Nat.reduceEqDiff, false_and, true_and, and_true, and_false, and_self, if_true, if_false, ↓reduceIte, reduceCtorEq] at hc); try (exfalso; first | assumption | omega))) | (refine x_som_i l0 ?_) | (refine x_som_i l1 ?_) | (refine x_som_i l2 ?_) | (refine x_som_i l3 ?_) | (refine x_som_i l4 ?_) | (refine x_som_i l5 ?_) | (refine x_som_i l6 ?_) | (refine x_som_i l7 ?_) | (refine x_som_i l8 ?_) | (refine x_som_i l9 ?_) | (refine a_wo ?sd ?_; case sd => (first | exact hS _ _ | assumption | (constructor <;> omega) | (simp only [r_note, up2, Int.toNat_natCast, a_live5, not_true_eq_false, not_false_eq_true, Nat.reduceEqDiff, false_and, true_and, and_true, and_false, and_self, if_true, if_false, ↓reduceIte, reduceCtorEq]; first | exact hS _ _ | assumption | (constructor <;> omega)))) | (refine st 0 _ _ _ _ _ _ _ rfl ?_) | (refine st 12 _ _ _ _ _ _ _ rfl ?_) | (refine st 14 _ _ _ _ _ _ _ rfl ?_) | (refine st 31 _ _ _ _ _ _ _ rfl ?_) | (refine st 49 _ _ _ _ _ _ _ rfl ?_) | (refine st 71 _ _ _ _ _ _ _ rfl ?_) | (refine st 72 _ _ _ _ _ _ _ rfl ?_)
      all_goals refine Or.inl ⟨hc2, ?_, rfl, rfl⟩
      all_goals rw [eI]
      all_goals first
        | rw [cif_t ⟨q20, h31.mpr (by omega)⟩]
        | rw [cif_f (fun y => by have := h31.mp y.2; omega)]
    · have e103 := q.2.2.1
      have q40 := q.2.1
      rw [cif_f (by omega)] at eI
      have eL : M (300 + c.toNat) = ssL s c.toNat (M 0).length := hR.2.1.2.2.2.2.2.2.1.2.2 _ q40
      have cs := cnt_s hR (c := c.toNat) (M 0).length (Nat.le_refl _)
      rw [← eL] at cs
      refine a_sm fun hS => ?_
      refine a_met ok_R_instances (by decide +kernel) (Nat.le_of_ble_eq_true rfl) fun go st => ?_
      repeat' first | (refine a_si ?sd ?_; case sd => (first | (first | assumption | exact hS _ _ | omega | (constructor <;> omega) | (show _ = (1 : Int) ∨ _ = (2 : Int) ∨ _ = (3 : Int); omega)) | (refine ⟨?_, ?_⟩ <;> (first | assumption | exact hS _ _ | omega | (constructor <;> omega) | (show _ = (1 : Int) ∨ _ = (2 : Int) ∨ _ = (3 : Int); omega))) | (refine ⟨?_, ?_, ?_⟩ <;> (first | assumption | exact hS _ _ | omega | (constructor <;> omega) | (show _ = (1 : Int) ∨ _ = (2 : Int) ∨ _ = (3 : Int); omega))) | (refine ⟨?_, ?_, ?_, ?_⟩ <;> (first | assumption | exact hS _ _ | omega | (constructor <;> omega) | (show _ = (1 : Int) ∨ _ = (2 : Int) ∨ _ = (3 : Int); omega))) | (refine ⟨⟨?_, ?_⟩, ?_, ?_⟩ <;> (first | assumption | exact hS _ _ | omega | (constructor <;> omega) | (show _ = (1 : Int) ∨ _ = (2 : Int) ∨ _ = (3 : Int); omega))) | decide | (simp only [r_note, up2, Int.toNat_natCast, a_live5, not_true_eq_false, not_false_eq_true, Nat.reduceEqDiff, false_and, true_and, and_true, and_false, and_self, if_true, if_false, ↓reduceIte, reduceCtorEq]; first | (first | assumption | exact hS _ _ | omega | (constructor <;> omega) | (show _ = (1 : Int) ∨ _ = (2 : Int) ∨ _ = (3 : Int); omega)) | (refine ⟨?_, ?_⟩ <;> (first | assumption | exact hS _ _ | omega | (constructor <;> omega) | (show _ = (1 : Int) ∨ _ = (2 : Int) ∨ _ = (3 : Int); omega))) | (refine ⟨?_, ?_, ?_⟩ <;> (first | assumption | exact hS _ _ | omega | (constructor <;> omega) | (show _ = (1 : Int) ∨ _ = (2 : Int) ∨ _ = (3 : Int); omega))) | (refine ⟨?_, ?_, ?_, ?_⟩ <;> (first | assumption | exact hS _ _ | omega | (constructor <;> omega) | (show _ = (1 : Int) ∨ _ = (2 : Int) ∨ _ = (3 : Int); omega))) | (refine ⟨⟨?_, ?_⟩, ?_, ?_⟩ <;> (first | assumption | exact hS _ _ | omega | (constructor <;> omega) | (show _ = (1 : Int) ∨ _ = (2 : Int) ∨ _ = (3 : Int); omega))) | decide))) | (refine And.intro ?_ ?_ <;> (intro hc; (try simp only [r_note, up2, Int.toNat_natCast, a_live5, not_true_eq_false, not_false_eq_true, Nat.reduceEqDiff, false_and, true_and, and_true, and_false, and_self, if_true, if_false, ↓reduceIte, reduceCtorEq] at hc); try (exfalso; first | assumption | omega))) | (refine x_som_i l0 ?_) | (refine x_som_i l1 ?_) | (refine x_som_i l2 ?_) | (refine x_som_i l3 ?_) | (refine x_som_i l4 ?_) | (refine x_som_i l5 ?_) | (refine x_som_i l6 ?_) | (refine x_som_i l7 ?_) | (refine x_som_i l8 ?_) | (refine x_som_i l9 ?_) | (refine a_wo ?sd ?_; case sd => (first | exact hS _ _ | assumption | (constructor <;> omega) | (simp only [r_note, up2, Int.toNat_natCast, a_live5, not_true_eq_false, not_false_eq_true, Nat.reduceEqDiff, false_and, true_and, and_true, and_false, and_self, if_true, if_false, ↓reduceIte, reduceCtorEq]; first | exact hS _ _ | assumption | (constructor <;> omega)))) | (refine st 0 _ _ _ _ _ _ _ rfl ?_) | (refine st 12 _ _ _ _ _ _ _ rfl ?_) | (refine st 14 _ _ _ _ _ _ _ rfl ?_) | (refine st 31 _ _ _ _ _ _ _ rfl ?_) | (refine st 49 _ _ _ _ _ _ _ rfl ?_) | (refine st 71 _ _ _ _ _ _ _ rfl ?_) | (refine st 72 _ _ _ _ _ _ _ rfl ?_)
      refine a_ci im ?room ?_
      case room => decide
      rintro _ _ _ ⟨rfl, rfl, rfl⟩
      repeat' first | (refine a_si ?sd ?_; case sd => (first | (first | assumption | exact hS _ _ | omega | (constructor <;> omega) | (show _ = (1 : Int) ∨ _ = (2 : Int) ∨ _ = (3 : Int); omega)) | (refine ⟨?_, ?_⟩ <;> (first | assumption | exact hS _ _ | omega | (constructor <;> omega) | (show _ = (1 : Int) ∨ _ = (2 : Int) ∨ _ = (3 : Int); omega))) | (refine ⟨?_, ?_, ?_⟩ <;> (first | assumption | exact hS _ _ | omega | (constructor <;> omega) | (show _ = (1 : Int) ∨ _ = (2 : Int) ∨ _ = (3 : Int); omega))) | (refine ⟨?_, ?_, ?_, ?_⟩ <;> (first | assumption | exact hS _ _ | omega | (constructor <;> omega) | (show _ = (1 : Int) ∨ _ = (2 : Int) ∨ _ = (3 : Int); omega))) | (refine ⟨⟨?_, ?_⟩, ?_, ?_⟩ <;> (first | assumption | exact hS _ _ | omega | (constructor <;> omega) | (show _ = (1 : Int) ∨ _ = (2 : Int) ∨ _ = (3 : Int); omega))) | decide | (simp only [r_note, up2, Int.toNat_natCast, a_live5, not_true_eq_false, not_false_eq_true, Nat.reduceEqDiff, false_and, true_and, and_true, and_false, and_self, if_true, if_false, ↓reduceIte, reduceCtorEq]; first | (first | assumption | exact hS _ _ | omega | (constructor <;> omega) | (show _ = (1 : Int) ∨ _ = (2 : Int) ∨ _ = (3 : Int); omega)) | (refine ⟨?_, ?_⟩ <;> (first | assumption | exact hS _ _ | omega | (constructor <;> omega) | (show _ = (1 : Int) ∨ _ = (2 : Int) ∨ _ = (3 : Int); omega))) | (refine ⟨?_, ?_, ?_⟩ <;> (first | assumption | exact hS _ _ | omega | (constructor <;> omega) | (show _ = (1 : Int) ∨ _ = (2 : Int) ∨ _ = (3 : Int); omega))) | (refine ⟨?_, ?_, ?_, ?_⟩ <;> (first | assumption | exact hS _ _ | omega | (constructor <;> omega) | (show _ = (1 : Int) ∨ _ = (2 : Int) ∨ _ = (3 : Int); omega))) | (refine ⟨⟨?_, ?_⟩, ?_, ?_⟩ <;> (first | assumption | exact hS _ _ | omega | (constructor <;> omega) | (show _ = (1 : Int) ∨ _ = (2 : Int) ∨ _ = (3 : Int); omega))) | decide))) | (refine And.intro ?_ ?_ <;> (intro hc; (try simp only [r_note, up2, Int.toNat_natCast, a_live5, not_true_eq_false, not_false_eq_true, Nat.reduceEqDiff, false_and, true_and, and_true, and_false, and_self, if_true, if_false, ↓reduceIte, reduceCtorEq] at hc); try (exfalso; first | assumption | omega))) | (refine x_som_i l0 ?_) | (refine x_som_i l1 ?_) | (refine x_som_i l2 ?_) | (refine x_som_i l3 ?_) | (refine x_som_i l4 ?_) | (refine x_som_i l5 ?_) | (refine x_som_i l6 ?_) | (refine x_som_i l7 ?_) | (refine x_som_i l8 ?_) | (refine x_som_i l9 ?_) | (refine a_wo ?sd ?_; case sd => (first | exact hS _ _ | assumption | (constructor <;> omega) | (simp only [r_note, up2, Int.toNat_natCast, a_live5, not_true_eq_false, not_false_eq_true, Nat.reduceEqDiff, false_and, true_and, and_true, and_false, and_self, if_true, if_false, ↓reduceIte, reduceCtorEq]; first | exact hS _ _ | assumption | (constructor <;> omega)))) | (refine st 0 _ _ _ _ _ _ _ rfl ?_) | (refine st 12 _ _ _ _ _ _ _ rfl ?_) | (refine st 14 _ _ _ _ _ _ _ rfl ?_) | (refine st 31 _ _ _ _ _ _ _ rfl ?_) | (refine st 49 _ _ _ _ _ _ _ rfl ?_) | (refine st 71 _ _ _ _ _ _ _ rfl ?_) | (refine st 72 _ _ _ _ _ _ _ rfl ?_)
      exact Or.inl ⟨hc2, by rw [eI, cs], rfl, rfl⟩
    · omega
  · refine a_sm fun hS => ?_
    refine a_met ok_R_instances (by decide +kernel) (Nat.le_of_ble_eq_true rfl) fun go st => ?_
    repeat' first | (refine a_si ?sd ?_; case sd => (first | (first | assumption | exact hS _ _ | omega | (constructor <;> omega) | (show _ = (1 : Int) ∨ _ = (2 : Int) ∨ _ = (3 : Int); omega)) | (refine ⟨?_, ?_⟩ <;> (first | assumption | exact hS _ _ | omega | (constructor <;> omega) | (show _ = (1 : Int) ∨ _ = (2 : Int) ∨ _ = (3 : Int); omega))) | (refine ⟨?_, ?_, ?_⟩ <;> (first | assumption | exact hS _ _ | omega | (constructor <;> omega) | (show _ = (1 : Int) ∨ _ = (2 : Int) ∨ _ = (3 : Int); omega))) | (refine ⟨?_, ?_, ?_, ?_⟩ <;> (first | assumption | exact hS _ _ | omega | (constructor <;> omega) | (show _ = (1 : Int) ∨ _ = (2 : Int) ∨ _ = (3 : Int); omega))) | (refine ⟨⟨?_, ?_⟩, ?_, ?_⟩ <;> (first | assumption | exact hS _ _ | omega | (constructor <;> omega) | (show _ = (1 : Int) ∨ _ = (2 : Int) ∨ _ = (3 : Int); omega))) | decide | (simp only [r_note, up2, Int.toNat_natCast, a_live5, not_true_eq_false, not_false_eq_true, Nat.reduceEqDiff, false_and, true_and, and_true, and_false, and_self, if_true, if_false, ↓reduceIte, reduceCtorEq]; first | (first | assumption | exact hS _ _ | omega | (constructor <;> omega) | (show _ = (1 : Int) ∨ _ = (2 : Int) ∨ _ = (3 : Int); omega)) | (refine ⟨?_, ?_⟩ <;> (first | assumption | exact hS _ _ | omega | (constructor <;> omega) | (show _ = (1 : Int) ∨ _ = (2 : Int) ∨ _ = (3 : Int); omega))) | (refine ⟨?_, ?_, ?_⟩ <;> (first | assumption | exact hS _ _ | omega | (constructor <;> omega) | (show _ = (1 : Int) ∨ _ = (2 : Int) ∨ _ = (3 : Int); omega))) | (refine ⟨?_, ?_, ?_, ?_⟩ <;> (first | assumption | exact hS _ _ | omega | (constructor <;> omega) | (show _ = (1 : Int) ∨ _ = (2 : Int) ∨ _ = (3 : Int); omega))) | (refine ⟨⟨?_, ?_⟩, ?_, ?_⟩ <;> (first | assumption | exact hS _ _ | omega | (constructor <;> omega) | (show _ = (1 : Int) ∨ _ = (2 : Int) ∨ _ = (3 : Int); omega))) | decide))) | (refine And.intro ?_ ?_ <;> (intro hc; (try simp only [r_note, up2, Int.toNat_natCast, a_live5, not_true_eq_false, not_false_eq_true, Nat.reduceEqDiff, false_and, true_and, and_true, and_false, and_self, if_true, if_false, ↓reduceIte, reduceCtorEq] at hc); try (exfalso; first | assumption | omega))) | (refine x_som_i l0 ?_) | (refine x_som_i l1 ?_) | (refine x_som_i l2 ?_) | (refine x_som_i l3 ?_) | (refine x_som_i l4 ?_) | (refine x_som_i l5 ?_) | (refine x_som_i l6 ?_) | (refine x_som_i l7 ?_) | (refine x_som_i l8 ?_) | (refine x_som_i l9 ?_) | (refine a_wo ?sd ?_; case sd => (first | exact hS _ _ | assumption | (constructor <;> omega) | (simp only [r_note, up2, Int.toNat_natCast, a_live5, not_true_eq_false, not_false_eq_true, Nat.reduceEqDiff, false_and, true_and, and_true, and_false, and_self, if_true, if_false, ↓reduceIte, reduceCtorEq]; first | exact hS _ _ | assumption | (constructor <;> omega)))) | (refine st 0 _ _ _ _ _ _ _ rfl ?_) | (refine st 12 _ _ _ _ _ _ _ rfl ?_) | (refine st 14 _ _ _ _ _ _ _ rfl ?_) | (refine st 31 _ _ _ _ _ _ _ rfl ?_) | (refine st 49 _ _ _ _ _ _ _ rfl ?_) | (refine st 71 _ _ _ _ _ _ _ rfl ?_) | (refine st 72 _ _ _ _ _ _ _ rfl ?_)
    all_goals first | exact ad_f hc2 | (exfalso; omega)
end
