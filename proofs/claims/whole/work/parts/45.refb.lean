/-! The reference's way of beginning: one round of its loop; what a singleton's beginning comes to. -/
section
variable {v v' w w' : SV} {L L' : SL} {own : Int → Nat}
/-- the reference's stack alone changes -/
theorem RS_w (h : RS own v L w) (f : ∀ c, (c ≠ 113 ∧ c ≠ 114) → w' c = w c) : RS own v L w' ∧ pot v L w' = pot v L w := by
  have e : ∀ c, c ≠ 999999 → v c = v c := fun _ _ => rfl
  have g : ∀ l, l < 100 ∨ 200 ≤ l → L l = L l := fun _ _ => rfl
  obtain ⟨hW, ⟨h0, hk, hn, hs, ho, hp, he, hc, hm, ht', hx, hw⟩, hR, hD⟩ := h
  refine ⟨⟨hW, ⟨(R0_c h0 (fun c hc => e c (by simp only [List.mem_cons, List.not_mem_nil, or_false] at hc; omega)) (fun c hc => f c (by simp only [List.mem_cons, List.not_mem_nil, or_false] at hc; omega)) g), (Rk_c hk (fun c hc => e c (by simp only [List.mem_cons, List.not_mem_nil, or_false] at hc; omega)) (fun c hc => f c (by simp only [List.mem_cons, List.not_mem_nil, or_false] at hc; omega))), (Rn_c hn (fun c hc => e c (by simp only [List.mem_cons, List.not_mem_nil, or_false] at hc; omega)) (fun c hc => f c (by simp only [List.mem_cons, List.not_mem_nil, or_false] at hc; omega)) g), (Rs_c hs (fun c hc => e c (by simp only [List.mem_cons, List.not_mem_nil, or_false] at hc; omega)) (fun c hc => f c (by simp only [List.mem_cons, List.not_mem_nil, or_false] at hc; omega))), (Ro_c ho (fun c hc => e c (by simp only [List.mem_cons, List.not_mem_nil, or_false] at hc; omega)) (fun c hc => f c (by simp only [List.mem_cons, List.not_mem_nil, or_false] at hc; omega))), (Rp_c hp (fun c hc => e c (by simp only [List.mem_cons, List.not_mem_nil, or_false] at hc; omega)) (fun c hc => f c (by simp only [List.mem_cons, List.not_mem_nil, or_false] at hc; omega))), (Re_c he (fun c hc => e c (by simp only [List.mem_cons, List.not_mem_nil, or_false] at hc; omega)) (fun c hc => f c (by simp only [List.mem_cons, List.not_mem_nil, or_false] at hc; omega)) g), (Rc_c hc (fun c hc => e c (by simp only [List.mem_cons, List.not_mem_nil, or_false] at hc; omega)) (fun c hc => f c (by simp only [List.mem_cons, List.not_mem_nil, or_false] at hc; omega))), hm, (Rt_c ht' (fun c hc => e c (by simp only [List.mem_cons, List.not_mem_nil, or_false] at hc; omega)) (fun c hc => f c (by simp only [List.mem_cons, List.not_mem_nil, or_false] at hc; omega)) g), (Rx_c hx (fun c hc => e c (by simp only [List.mem_cons, List.not_mem_nil, or_false] at hc; omega)) (fun c hc => f c (by simp only [List.mem_cons, List.not_mem_nil, or_false] at hc; omega))), (Rw_c hw (fun c hc => e c (by simp only [List.mem_cons, List.not_mem_nil, or_false] at hc; omega)) (fun c hc => f c (by simp only [List.mem_cons, List.not_mem_nil, or_false] at hc; omega)) g)⟩, (Rl_c hR (fun c hc => e c (by simp only [List.mem_cons, List.not_mem_nil, or_false] at hc; omega)) (fun c hc => f c (by simp only [List.mem_cons, List.not_mem_nil, or_false] at hc; omega))), Rd_c hD (fun c hc => rfl) (fun c hc => f c (by simp only [List.mem_cons, List.not_mem_nil, or_false] at hc; omega))⟩, ?_⟩
  unfold pot
  rw [f 133 (by omega)]
theorem sg8 (h : RS own v L w) {c : Nat} (hc : v 20 c = 2) : c < 8 := by
  have t32 := (WF_tg h.1 (Or.inr (Or.inl hc))).1
  have := (kd_e h.2.1 t32 (Or.inr (Or.inl hc))).2.2.2
  omega
theorem sg_k (h : RS own v L w) {c : Nat} (hc : v 20 c = 2) : kS v w c := by
  rcases h.2.1.2.1 c (sg8 h hc) with ⟨_, z | z | z, _⟩ | z
  · have := z.1; omega
  · exact z
  · have := z.1; omega
  · have := z.2.1; omega
theorem sg_len (h : RS own v L w) {c : Nat} (hc : v 20 c = 2) : (L (200 + c)).length ≤ 8 := by
  have q := (h.2.1.2.2.1.1 c hc)
  exact nd_len 8 _ q.2.1 q.2.2.2
theorem ol_b (h : RS own v L w) {c : Nat} (hc : v 20 c = 2) (h0 : w 109 c = 0) : 0 ≤ w 112 0 ∧ w 112 0 < 8 := by
  obtain ⟨ol, o1, o2, o3, o4, o5⟩ := h.2.1.2.2.2.2.1
  have nd : (c :: ol).Nodup := by
    rw [List.nodup_cons]
    exact ⟨fun z => by have := ((o4 c).mp z).2; omega, o3⟩
  have := nd_len 8 (c :: ol) nd (fun a ha => by
    rcases List.mem_cons.mp ha with z | z
    · rw [z]; exact sg8 h hc
    · exact sg8 h ((o4 a).mp z).1)
  simp at this
  omega
/-- singletons that have not begun -/
def uB (v : SV) (x : Nat) : Int := if v 20 x = 2 ∧ v 29 x = 0 ∧ v 30 x = 0 then 1 else 0
def uN (v : SV) : Int := sm 8 (uB v)
theorem uN_b (v : SV) : 0 ≤ uN v ∧ uN v ≤ 8 := sm_b 8 (fun k => by unfold uB; split <;> omega)
theorem uN_d {c : Nat} (hc8 : c < 8) (hc : v 20 c = 2) (h29 : v 29 c = 0) (h30 : v 30 c = 0) (e20 : v' 20 = v 20) (e29 : ∀ x, x ≠ c → v' 29 x = v 29 x) (e30 : ∀ x, x ≠ c → v' 30 x = v 30 x) (hn : ¬ (v' 29 c = 0 ∧ v' 30 c = 0)) : uN v' = uN v - 1 := by
  unfold uN
  rw [sm_up (f := uB v) (g := uB v') (a := c) 8 hc8 (fun k _ hk => by unfold uB; rw [e20, e29 k hk, e30 k hk])]
  have a1 : uB v c = 1 := by unfold uB; rw [if_pos ⟨hc, h29, h30⟩]
  have a2 : uB v' c = 0 := by unfold uB; rw [if_neg (fun q => hn q.2)]
  omega
theorem uN_X {c : Nat} (hc8 : c < 8) (hc : v 20 c = 2) (h29 : v 29 c = 0) (h30 : v 30 c = 0) : uN (bgX v c) = uN v - 1 := by
  refine uN_d hc8 hc h29 h30 (funext fun j => up2_c (by omega)) (fun x hx => up2_c (by omega)) (fun x hx => up2_i hx) ?_
  rintro ⟨_, z⟩
  have : bgX v c 30 c = 1 := up2_s
  omega
theorem uN_Y {c : Nat} (hc8 : c < 8) (hc : v 20 c = 2) (h29 : v 29 c = 0) (h30 : v 30 c = 0) : uN (bgY v c) = uN v - 1 := by
  have e : ∀ q j, (q ≠ 4 ∧ q ≠ 5 ∧ q ≠ 6 ∧ q ≠ 31) → bgY v c q j = up2 v 29 c 1 q j := by
    intro q j hq
    unfold bgY m_fresh
    rw [up2_c (by omega), m_note_c (by omega), up2_c (by omega)]
  refine uN_d hc8 hc h29 h30 (funext fun j => (e 20 j (by omega)).trans (up2_c (by omega))) (fun x hx => (e 29 x (by omega)).trans (up2_i hx)) (fun x hx => (e 30 x (by omega)).trans (up2_c (by omega))) ?_
  rintro ⟨z, _⟩
  rw [e 29 c (by omega), up2_s] at z
  omega
theorem r_bg_c {c : Nat} : ∀ q, (q ≠ 109 ∧ q ≠ 110 ∧ q ≠ 111 ∧ q ≠ 112 ∧ q ≠ 143 ∧ q ≠ 144 ∧ q ≠ 145) → r_bg w c q = w q := by
  intro q hq
  funext j
  unfold r_bg
  rw [up2_c (by omega), up2_c (by omega), up2_c (by omega), show r_fresh (up2 w 109 c 1) q j = up2 w 109 c 1 q j from congrFun (r_fresh_c (by omega)) j, up2_c (by omega)]
/-- a beginning with enough to go ends in begun or failed -/
theorem bgG_done {n c : Nat} {rk : Nat → Nat} : ∀ (l : List Nat) (v : SV), (∀ x, v 20 x = 2 → ∀ e ∈ L (200 + x), rk e < rk x) → sgOK v L → v 20 c = 2 → (∀ e ∈ l, e ∈ L (200 + c)) → ¬ (bgG L n c l v 29 c = 0 ∧ bgG L n c l v 30 c = 0) := by
  intro l
  induction l with
  | nil =>
    intro v hr hg hc hl
    unfold bgG cif
    split
    · rintro ⟨z, _⟩
      have : bgY v c 29 c = 1 := by
        unfold bgY m_fresh
        rw [up2_c (by omega), m_note_c (by omega), up2_c (by omega), up2_s]
      omega
    · rintro ⟨_, z⟩
      have : bgX v c 30 c = 1 := up2_s
      omega
  | cons a l ih =>
    intro v hr hg hc hl
    have a2 : v 20 a = 2 := (hg c hc).2.2.2.2 a (hl a (by simp))
    have b20 : ∀ x, m_begin L n v a 20 x = v 20 x := fun x => m_begin_c n v a 20 x (by unfold bgF; omega)
    rw [bgG]
    by_cases z : m_begin L n v a 30 a = 0
    · rw [cif_t z]
      exact ih _ (fun x hx => hr x (by rw [← b20]; exact hx)) (m_begin_sg n v a hg a2) (by rw [b20]; exact hc) (fun e he => hl e (by simp [he]))
    · rw [cif_f z]
      rintro ⟨_, y⟩
      have : bgX (m_begin L n v a) c 30 c = 1 := up2_s
      omega
theorem m_begin_done {n e : Nat} {rk : Nat → Nat} (hn : rk e < n) (hr : ∀ x, v 20 x = 2 → ∀ e ∈ L (200 + x), rk e < rk x) (hg : sgOK v L) (he : v 20 e = 2) : ¬ (m_begin L n v e 29 e = 0 ∧ m_begin L n v e 30 e = 0) := by
  cases n with
  | zero => omega
  | succ n =>
    by_cases z : ¬ v 29 e = 0 ∨ ¬ v 30 e = 0
    · rw [m_begin, cif_t z]; omega
    · rw [m_begin_G hr hg he (by omega) (by omega)]
      exact bgG_done _ v hr hg he (fun e he => he)
/-- the class's values are left alone -/
def same (w w' : SV) : Prop := ∀ c, (c < 100 ∨ c = 141) → w' c = w c
theorem same_t {w1 w2 w3 : SV} (h1 : same w1 w2) (h2 : same w2 w3) : same w1 w3 := fun c hc => (h2 c hc).trans (h1 c hc)
theorem same_up {c i : Nat} {x : Int} (h : 100 ≤ c ∧ c ≠ 141) : same w (up2 w c i x) := fun d hd => funext fun j => up2_c (by omega)
end
section
variable {X : XC} {L : SL}
/-- a child's beginning, and then on with K -/
def BGC (go : AJ) (L M : SL) (s : SV) (rk : Nat → Nat) (n : Nat) : Prop := ∀ (e : Nat) (own : Int → Nat) (s1 w1 : SV) (d g : Nat) (ls : ALc), RS own s1 M w1 → w1 60 0 = 1 → (∀ x, s1 20 x = s 20 x) → s1 20 e = 2 → ¬ s1 0 0 = 3 → w1 109 e = 0 → pot s1 M w1 ≤ 2100 → rk e < n → d + rk e ≤ 7 → w1 113 d = e → w1 114 d = 0 → (g : Int) + 9 * uN s1 ≤ 72 + 9 * d → (∀ c i, iS (w1 c i)) → ls 0 = some (aR 20 0) → ls 2 = some (aI d) → ls 3 = some (aI g) → (∀ (own' : Int → Nat) (w2 : SV) (g2 : Nat) (ls' : ALc), RS own' (m_begin M n s1 e) M w2 → pot (m_begin M n s1 e) M w2 ≤ pot s1 M w1 → same w1 w2 → (∀ j, j < d → w2 113 j = w1 113 j ∧ w2 114 j = w1 114 j) → (g2 : Int) + 9 * uN (m_begin M n s1 e) ≤ g + 9 * uN s1 → (∀ c i, iS (w2 c i)) → ls' 0 = some (aR 20 0) → ls' 2 = some (aI ((d : Int) - 1)) → ls' 3 = some (aI g2) → go 31 ls' [] w2 L 0 0) → go 31 ls [] w1 L 0 0
/-- a frame of the stack, and then on with K -/
def BGP (go : AJ) (L M : SL) (s : SV) (rk : Nat → Nat) (n c : Nat) (rest : List Nat) : Prop := ∀ (pre : List Nat) (own : Int → Nat) (s1 w1 : SV) (d g : Nat) (ls : ALc), RS own s1 M w1 → w1 60 0 = 1 → (∀ x, s1 20 x = s 20 x) → s1 20 c = 2 → ¬ s1 0 0 = 3 → w1 109 c = 0 → pot s1 M w1 ≤ 2100 → M (200 + c) = pre ++ rest → rk c ≤ n → d + rk c ≤ 7 → w1 113 d = c → w1 114 d = (pre.length : Nat) → (0 < pre.length → ∃ e : Nat, e < 8 ∧ w1 107 (8 * c + (pre.length - 1)) = e ∧ ¬ w1 109 e = 2) → (g : Int) + 9 * uN s1 ≤ 72 + 9 * d + pre.length → (∀ c i, iS (w1 c i)) → ls 0 = some (aR 20 0) → ls 2 = some (aI d) → ls 3 = some (aI g) → (∀ (own' : Int → Nat) (w2 : SV) (g2 : Nat) (ls' : ALc), RS own' (bgG M n c rest s1) M w2 → pot (bgG M n c rest s1) M w2 ≤ pot s1 M w1 → same w1 w2 → (∀ j, j < d → w2 113 j = w1 113 j ∧ w2 114 j = w1 114 j) → (g2 : Int) + 9 * uN (bgG M n c rest s1) ≤ g + 9 * uN s1 - 9 + (rest.length + 1) → (∀ c i, iS (w2 c i)) → ls' 0 = some (aR 20 0) → ls' 2 = some (aI ((d : Int) - 1)) → ls' 3 = some (aI g2) → go 31 ls' [] w2 L 0 0) → go 31 ls [] w1 L 0 0
theorem m_begin_0 {M : SL} {n t : Nat} {s : SV} (h : ¬ s 29 t = 0 ∨ ¬ s 30 t = 0) : m_begin M n s t = s := by
  cases n with
  | zero => rfl
  | succ n => rw [m_begin, cif_t h]
theorem d_begin {own : Int → Nat} {s : SV} {M : SL} {w : SV} {t : Nat} (h60 : w 60 0 = 1) (hR : RS own s M w) (ht : s 20 t = 2) (h3 : ¬ s 0 0 = 3) (hp : pot s M w ≤ 2100) : AHolds X y_R_begin [aR 20 0, aI t] w L 20 800 0 0 (fun r w' L' => (r = none ∧ L = L') ∧ same w w' ∧ (∃ own', RS own' (m_begin M 8 s t) M w') ∧ pot (m_begin M 8 s t) M w' ≤ pot s M w) := by
  obtain ⟨rk, rk8, hrk⟩ := hR.2.1.2.2.1.2
  refine a_sm fun hS => ?_
  refine a_met ok_R_begin (by decide +kernel) (Nat.le_of_ble_eq_true rfl) fun go st => ?_
  -- one round
  have itNo : ∀ (w : SV) (d g c k e : Nat) (ls : ALc), w 60 0 = 1 → d < 8 → g < 300 → c < 8 → k < 8 → e < 8 → w 113 d = c → w 114 d = (k + 1 : Nat) → w 107 (8 * c + k) = e → w 109 e = 2 → (∀ c i, iS (w c i)) → ls 0 = some (aR 20 0) → ls 2 = some (aI d) → ls 3 = some (aI g) → (∀ ls' : ALc, (∀ q i, iS (up2 w 109 c 2 q i)) → ls' 0 = some (aR 20 0) → ls' 2 = some (aI ((d : Int) - 1)) → ls' 3 = some (aI (g + 1 : Nat)) → go 31 ls' [] (up2 w 109 c 2) L 0 0) → go 31 ls [] w L 0 0 := by
    intro w d g c k e ls h60 hd hg hc8 hk he e113 e114 e107 e109 hS l0 l2 l3 K
    have en : (8 * (c : Int) + ((k + 1 : Nat) : Int) - 1).toNat = 8 * c + k := by omega
    have ex : w 107 (8 * w 113 d + w 114 d - 1).toNat = e := by rw [e113, e114, en]; exact e107
    have ey : w 109 (w 107 (8 * w 113 d + w 114 d - 1).toNat).toNat = 2 := by rw [ex, Int.toNat_natCast]; exact e109
    have ec : (w 113 d).toNat = c := by rw [e113, Int.toNat_natCast]
    have i2 : iS (2 : Int) := by constructor <;> decide
    refine st 31 _ _ _ _ _ _ _ rfl ?_
    repeat' first | (refine a_si ?sd ?_; case sd => (first | (first | assumption | exact hS _ _ | omega | (constructor <;> omega) | (show _ = (1 : Int) ∨ _ = (2 : Int) ∨ _ = (3 : Int); omega)) | (refine ⟨?_, ?_⟩ <;> (first | assumption | exact hS _ _ | omega | (constructor <;> omega) | (show _ = (1 : Int) ∨ _ = (2 : Int) ∨ _ = (3 : Int); omega))) | (refine ⟨?_, ?_, ?_⟩ <;> (first | assumption | exact hS _ _ | omega | (constructor <;> omega) | (show _ = (1 : Int) ∨ _ = (2 : Int) ∨ _ = (3 : Int); omega))) | (refine ⟨?_, ?_, ?_, ?_⟩ <;> (first | assumption | exact hS _ _ | omega | (constructor <;> omega) | (show _ = (1 : Int) ∨ _ = (2 : Int) ∨ _ = (3 : Int); omega))) | (refine ⟨⟨?_, ?_⟩, ?_, ?_⟩ <;> (first | assumption | exact hS _ _ | omega | (constructor <;> omega) | (show _ = (1 : Int) ∨ _ = (2 : Int) ∨ _ = (3 : Int); omega))) | decide | (simp only [r_note, up2, Int.toNat_natCast, a_live5, not_true_eq_false, not_false_eq_true, Nat.reduceEqDiff, false_and, true_and, and_true, and_false, and_self, if_true, if_false, ↓reduceIte, reduceCtorEq]; first | (first | assumption | exact hS _ _ | omega | (constructor <;> omega) | (show _ = (1 : Int) ∨ _ = (2 : Int) ∨ _ = (3 : Int); omega)) | (refine ⟨?_, ?_⟩ <;> (first | assumption | exact hS _ _ | omega | (constructor <;> omega) | (show _ = (1 : Int) ∨ _ = (2 : Int) ∨ _ = (3 : Int); omega))) | (refine ⟨?_, ?_, ?_⟩ <;> (first | assumption | exact hS _ _ | omega | (constructor <;> omega) | (show _ = (1 : Int) ∨ _ = (2 : Int) ∨ _ = (3 : Int); omega))) | (refine ⟨?_, ?_, ?_, ?_⟩ <;> (first | assumption | exact hS _ _ | omega | (constructor <;> omega) | (show _ = (1 : Int) ∨ _ = (2 : Int) ∨ _ = (3 : Int); omega))) | (refine ⟨⟨?_, ?_⟩, ?_, ?_⟩ <;> (first | assumption | exact hS _ _ | omega | (constructor <;> omega) | (show _ = (1 : Int) ∨ _ = (2 : Int) ∨ _ = (3 : Int); omega))) | decide))) | (refine And.intro ?_ ?_ <;> (intro hc; (try simp only [r_note, up2, Int.toNat_natCast, a_live5, not_true_eq_false, not_false_eq_true, Nat.reduceEqDiff, false_and, true_and, and_true, and_false, and_self, if_true, if_false, ↓reduceIte, reduceCtorEq] at hc); try (exfalso; first | assumption | omega))) | (refine x_som_i l0 ?_) | (refine x_som_i l1 ?_) | (refine x_som_i l2 ?_) | (refine x_som_i l3 ?_) | (refine x_som_i l4 ?_) | (refine x_som_i l5 ?_) | (refine x_som_i l6 ?_) | (refine x_som_i l7 ?_) | (refine x_som_i l8 ?_) | (refine x_som_i l9 ?_) | (refine a_wo ?sd ?_; case sd => (first | exact hS _ _ | assumption | (constructor <;> omega) | (simp only [r_note, up2, Int.toNat_natCast, a_live5, not_true_eq_false, not_false_eq_true, Nat.reduceEqDiff, false_and, true_and, and_true, and_false, and_self, if_true, if_false, ↓reduceIte, reduceCtorEq]; first | exact hS _ _ | assumption | (constructor <;> omega)))) | (refine st 0 _ _ _ _ _ _ _ rfl ?_) | (refine st 13 _ _ _ _ _ _ _ rfl ?_) | (refine st 14 _ _ _ _ _ _ _ rfl ?_) | (refine st 101 _ _ _ _ _ _ _ rfl ?_) | (refine st 176 _ _ _ _ _ _ _ rfl ?_) | (refine st 198 _ _ _ _ _ _ _ rfl ?_) | (refine st 238 _ _ _ _ _ _ _ rfl ?_) | (refine st 241 _ _ _ _ _ _ _ rfl ?_) | (refine st 247 _ _ _ _ _ _ _ rfl ?_)
    simp only [Int.toNat_natCast, ec]
    refine K _ (iS_up hS i2) ?_ ?_ ?_
    · exact l0
    · rfl
    · rfl
  have noSt : ∀ (w : SV) (d c k : Nat), (w 114 d = (k : Nat)) → (0 < k → ∃ e : Nat, e < 8 ∧ w 107 (8 * c + (k - 1)) = e ∧ ¬ w 109 e = 2) → w 113 d = c → 0 < k → (0 ≤ w 107 (8 * w 113 d + w 114 d - 1).toNat ∧ w 107 (8 * w 113 d + w 114 d - 1).toNat < 8) ∧ ¬ w 109 (w 107 (8 * w 113 d + w 114 d - 1).toNat).toNat = 2 := by
    intro w d c k e114 hl e113 hk
    obtain ⟨e, e1, e2, e3⟩ := hl hk
    have en : (8 * (c : Int) + ((k : Nat) : Int) - 1).toNat = 8 * c + (k - 1) := by omega
    have ex : w 107 (8 * w 113 d + w 114 d - 1).toNat = e := by rw [e113, e114, en]; exact e2
    rw [ex, Int.toNat_natCast]
    exact ⟨by omega, e3⟩
  have itA : ∀ (w : SV) (d g c k n e : Nat) (ls : ALc), w 60 0 = 1 → d < 8 → g < 300 → c < 8 → k < n → n ≤ 8 → e < 8 → w 113 d = c → w 114 d = (k : Nat) → w 108 c = n → (0 < k → ∃ e : Nat, e < 8 ∧ w 107 (8 * c + (k - 1)) = e ∧ ¬ w 109 e = 2) → w 107 (8 * c + k) = e → (∀ c i, iS (w c i)) → ls 0 = some (aR 20 0) → ls 2 = some (aI d) → ls 3 = some (aI g) → (w 109 e = 0 → d < 7) → (¬ w 109 e = 0 → ∀ ls' : ALc, (∀ q i, iS (up2 w 114 d (k + 1 : Nat) q i)) → ls' 0 = some (aR 20 0) → ls' 2 = some (aI d) → ls' 3 = some (aI (g + 1 : Nat)) → go 31 ls' [] (up2 w 114 d (k + 1 : Nat)) L 0 0) → (w 109 e = 0 → ∀ ls' : ALc, (∀ q i, iS (up2 (up2 (up2 w 114 d (k + 1 : Nat)) 113 (d + 1) e) 114 (d + 1) 0 q i)) → ls' 0 = some (aR 20 0) → ls' 2 = some (aI (d + 1 : Nat)) → ls' 3 = some (aI (g + 1 : Nat)) → go 31 ls' [] (up2 (up2 (up2 w 114 d (k + 1 : Nat)) 113 (d + 1) e) 114 (d + 1) 0) L 0 0) → go 31 ls [] w L 0 0 := by
    intro w d g c k n e ls h60 hd hg hc8 hk hn he e113 e114 e108 hlast e107 hS l0 l2 l3 hd7 K1 K2
    have en : (8 * (c : Int) + (k : Int)).toNat = 8 * c + k := by omega
    have ex : w 107 (8 * w 113 d + w 114 d).toNat = e := by rw [e113, e114, en]; exact e107
    have ec : (w 113 d).toNat = c := by rw [e113, Int.toNat_natCast]
    have e108' : w 108 (w 113 d).toNat = n := by rw [ec]; exact e108
    have e114' : w 114 d + 1 = ((k + 1 : Nat) : Int) := by rw [e114]; simp
    have ed : ((d : Int) + 1).toNat = d + 1 := by omega
    have eU : up2 w 114 (d : Int).toNat (w 114 (d : Int).toNat + 1) 107 (8 * w 113 (d : Int).toNat + w 114 (d : Int).toNat).toNat = e := by rw [up2_c (by omega)]; simp only [Int.toNat_natCast]; exact ex
    have si : iS ((k + 1 : Nat) : Int) := by constructor <;> omega
    have se : iS ((e : Nat) : Int) := by constructor <;> omega
    have s0 : iS (0 : Int) := by constructor <;> decide
    rcases Nat.eq_zero_or_pos k with kz | kz
    · have e114z : w 114 d = 0 := by rw [e114, kz]; rfl
      by_cases z : w 109 e = 0
      · have ey : w 109 (w 107 (8 * w 113 d + w 114 d).toNat).toNat = 0 := by rw [ex, Int.toNat_natCast]; exact z
        have hd8 := hd7 z
        refine st 31 _ _ _ _ _ _ _ rfl ?_
        repeat' first | (refine a_si ?sd ?_; case sd => (first | (first | assumption | exact hS _ _ | omega | (constructor <;> omega) | (show _ = (1 : Int) ∨ _ = (2 : Int) ∨ _ = (3 : Int); omega)) | (refine ⟨?_, ?_⟩ <;> (first | assumption | exact hS _ _ | omega | (constructor <;> omega) | (show _ = (1 : Int) ∨ _ = (2 : Int) ∨ _ = (3 : Int); omega))) | (refine ⟨?_, ?_, ?_⟩ <;> (first | assumption | exact hS _ _ | omega | (constructor <;> omega) | (show _ = (1 : Int) ∨ _ = (2 : Int) ∨ _ = (3 : Int); omega))) | (refine ⟨?_, ?_, ?_, ?_⟩ <;> (first | assumption | exact hS _ _ | omega | (constructor <;> omega) | (show _ = (1 : Int) ∨ _ = (2 : Int) ∨ _ = (3 : Int); omega))) | (refine ⟨⟨?_, ?_⟩, ?_, ?_⟩ <;> (first | assumption | exact hS _ _ | omega | (constructor <;> omega) | (show _ = (1 : Int) ∨ _ = (2 : Int) ∨ _ = (3 : Int); omega))) | decide | (simp only [r_note, up2, Int.toNat_natCast, a_live5, not_true_eq_false, not_false_eq_true, Nat.reduceEqDiff, false_and, true_and, and_true, and_false, and_self, if_true, if_false, ↓reduceIte, reduceCtorEq]; first | (first | assumption | exact hS _ _ | omega | (constructor <;> omega) | (show _ = (1 : Int) ∨ _ = (2 : Int) ∨ _ = (3 : Int); omega)) | (refine ⟨?_, ?_⟩ <;> (first | assumption | exact hS _ _ | omega | (constructor <;> omega) | (show _ = (1 : Int) ∨ _ = (2 : Int) ∨ _ = (3 : Int); omega))) | (refine ⟨?_, ?_, ?_⟩ <;> (first | assumption | exact hS _ _ | omega | (constructor <;> omega) | (show _ = (1 : Int) ∨ _ = (2 : Int) ∨ _ = (3 : Int); omega))) | (refine ⟨?_, ?_, ?_, ?_⟩ <;> (first | assumption | exact hS _ _ | omega | (constructor <;> omega) | (show _ = (1 : Int) ∨ _ = (2 : Int) ∨ _ = (3 : Int); omega))) | (refine ⟨⟨?_, ?_⟩, ?_, ?_⟩ <;> (first | assumption | exact hS _ _ | omega | (constructor <;> omega) | (show _ = (1 : Int) ∨ _ = (2 : Int) ∨ _ = (3 : Int); omega))) | decide))) | (refine And.intro ?_ ?_ <;> (intro hc; (try simp only [r_note, up2, Int.toNat_natCast, a_live5, not_true_eq_false, not_false_eq_true, Nat.reduceEqDiff, false_and, true_and, and_true, and_false, and_self, if_true, if_false, ↓reduceIte, reduceCtorEq] at hc); try (exfalso; first | assumption | omega))) | (refine x_som_i l0 ?_) | (refine x_som_i l1 ?_) | (refine x_som_i l2 ?_) | (refine x_som_i l3 ?_) | (refine x_som_i l4 ?_) | (refine x_som_i l5 ?_) | (refine x_som_i l6 ?_) | (refine x_som_i l7 ?_) | (refine x_som_i l8 ?_) | (refine x_som_i l9 ?_) | (refine a_wo ?sd ?_; case sd => (first | exact hS _ _ | assumption | (constructor <;> omega) | (simp only [r_note, up2, Int.toNat_natCast, a_live5, not_true_eq_false, not_false_eq_true, Nat.reduceEqDiff, false_and, true_and, and_true, and_false, and_self, if_true, if_false, ↓reduceIte, reduceCtorEq]; first | exact hS _ _ | assumption | (constructor <;> omega)))) | (refine st 0 _ _ _ _ _ _ _ rfl ?_) | (refine st 13 _ _ _ _ _ _ _ rfl ?_) | (refine st 14 _ _ _ _ _ _ _ rfl ?_) | (refine st 101 _ _ _ _ _ _ _ rfl ?_) | (refine st 176 _ _ _ _ _ _ _ rfl ?_) | (refine st 198 _ _ _ _ _ _ _ rfl ?_) | (refine st 238 _ _ _ _ _ _ _ rfl ?_) | (refine st 241 _ _ _ _ _ _ _ rfl ?_) | (refine st 247 _ _ _ _ _ _ _ rfl ?_)
        rw [eU]
        simp only [Int.toNat_natCast, e114', ed]
        exact K2 z _ (iS_up (iS_up (iS_up hS si) se) s0) l0 rfl rfl
      · have ey : ¬ w 109 (w 107 (8 * w 113 d + w 114 d).toNat).toNat = 0 := by rw [ex, Int.toNat_natCast]; exact z
        refine st 31 _ _ _ _ _ _ _ rfl ?_
        repeat' first | (refine a_si ?sd ?_; case sd => (first | (first | assumption | exact hS _ _ | omega | (constructor <;> omega) | (show _ = (1 : Int) ∨ _ = (2 : Int) ∨ _ = (3 : Int); omega)) | (refine ⟨?_, ?_⟩ <;> (first | assumption | exact hS _ _ | omega | (constructor <;> omega) | (show _ = (1 : Int) ∨ _ = (2 : Int) ∨ _ = (3 : Int); omega))) | (refine ⟨?_, ?_, ?_⟩ <;> (first | assumption | exact hS _ _ | omega | (constructor <;> omega) | (show _ = (1 : Int) ∨ _ = (2 : Int) ∨ _ = (3 : Int); omega))) | (refine ⟨?_, ?_, ?_, ?_⟩ <;> (first | assumption | exact hS _ _ | omega | (constructor <;> omega) | (show _ = (1 : Int) ∨ _ = (2 : Int) ∨ _ = (3 : Int); omega))) | (refine ⟨⟨?_, ?_⟩, ?_, ?_⟩ <;> (first | assumption | exact hS _ _ | omega | (constructor <;> omega) | (show _ = (1 : Int) ∨ _ = (2 : Int) ∨ _ = (3 : Int); omega))) | decide | (simp only [r_note, up2, Int.toNat_natCast, a_live5, not_true_eq_false, not_false_eq_true, Nat.reduceEqDiff, false_and, true_and, and_true, and_false, and_self, if_true, if_false, ↓reduceIte, reduceCtorEq]; first | (first | assumption | exact hS _ _ | omega | (constructor <;> omega) | (show _ = (1 : Int) ∨ _ = (2 : Int) ∨ _ = (3 : Int); omega)) | (refine ⟨?_, ?_⟩ <;> (first | assumption | exact hS _ _ | omega | (constructor <;> omega) | (show _ = (1 : Int) ∨ _ = (2 : Int) ∨ _ = (3 : Int); omega))) | (refine ⟨?_, ?_, ?_⟩ <;> (first | assumption | exact hS _ _ | omega | (constructor <;> omega) | (show _ = (1 : Int) ∨ _ = (2 : Int) ∨ _ = (3 : Int); omega))) | (refine ⟨?_, ?_, ?_, ?_⟩ <;> (first | assumption | exact hS _ _ | omega | (constructor <;> omega) | (show _ = (1 : Int) ∨ _ = (2 : Int) ∨ _ = (3 : Int); omega))) | (refine ⟨⟨?_, ?_⟩, ?_, ?_⟩ <;> (first | assumption | exact hS _ _ | omega | (constructor <;> omega) | (show _ = (1 : Int) ∨ _ = (2 : Int) ∨ _ = (3 : Int); omega))) | decide))) | (refine And.intro ?_ ?_ <;> (intro hc; (try simp only [r_note, up2, Int.toNat_natCast, a_live5, not_true_eq_false, not_false_eq_true, Nat.reduceEqDiff, false_and, true_and, and_true, and_false, and_self, if_true, if_false, ↓reduceIte, reduceCtorEq] at hc); try (exfalso; first | assumption | omega))) | (refine x_som_i l0 ?_) | (refine x_som_i l1 ?_) | (refine x_som_i l2 ?_) | (refine x_som_i l3 ?_) | (refine x_som_i l4 ?_) | (refine x_som_i l5 ?_) | (refine x_som_i l6 ?_) | (refine x_som_i l7 ?_) | (refine x_som_i l8 ?_) | (refine x_som_i l9 ?_) | (refine a_wo ?sd ?_; case sd => (first | exact hS _ _ | assumption | (constructor <;> omega) | (simp only [r_note, up2, Int.toNat_natCast, a_live5, not_true_eq_false, not_false_eq_true, Nat.reduceEqDiff, false_and, true_and, and_true, and_false, and_self, if_true, if_false, ↓reduceIte, reduceCtorEq]; first | exact hS _ _ | assumption | (constructor <;> omega)))) | (refine st 0 _ _ _ _ _ _ _ rfl ?_) | (refine st 13 _ _ _ _ _ _ _ rfl ?_) | (refine st 14 _ _ _ _ _ _ _ rfl ?_) | (refine st 101 _ _ _ _ _ _ _ rfl ?_) | (refine st 176 _ _ _ _ _ _ _ rfl ?_) | (refine st 198 _ _ _ _ _ _ _ rfl ?_) | (refine st 238 _ _ _ _ _ _ _ rfl ?_) | (refine st 241 _ _ _ _ _ _ _ rfl ?_) | (refine st 247 _ _ _ _ _ _ _ rfl ?_)
        simp only [Int.toNat_natCast, e114']
        exact K1 z _ (iS_up hS si) l0 l2 rfl
    · obtain ⟨n1, n2⟩ := noSt w d c k e114 hlast e113 kz
      by_cases z : w 109 e = 0
      · have ey : w 109 (w 107 (8 * w 113 d + w 114 d).toNat).toNat = 0 := by rw [ex, Int.toNat_natCast]; exact z
        have hd8 := hd7 z
        refine st 31 _ _ _ _ _ _ _ rfl ?_
        repeat' first | (refine a_si ?sd ?_; case sd => (first | (first | assumption | exact hS _ _ | omega | (constructor <;> omega) | (show _ = (1 : Int) ∨ _ = (2 : Int) ∨ _ = (3 : Int); omega)) | (refine ⟨?_, ?_⟩ <;> (first | assumption | exact hS _ _ | omega | (constructor <;> omega) | (show _ = (1 : Int) ∨ _ = (2 : Int) ∨ _ = (3 : Int); omega))) | (refine ⟨?_, ?_, ?_⟩ <;> (first | assumption | exact hS _ _ | omega | (constructor <;> omega) | (show _ = (1 : Int) ∨ _ = (2 : Int) ∨ _ = (3 : Int); omega))) | (refine ⟨?_, ?_, ?_, ?_⟩ <;> (first | assumption | exact hS _ _ | omega | (constructor <;> omega) | (show _ = (1 : Int) ∨ _ = (2 : Int) ∨ _ = (3 : Int); omega))) | (refine ⟨⟨?_, ?_⟩, ?_, ?_⟩ <;> (first | assumption | exact hS _ _ | omega | (constructor <;> omega) | (show _ = (1 : Int) ∨ _ = (2 : Int) ∨ _ = (3 : Int); omega))) | decide | (simp only [r_note, up2, Int.toNat_natCast, a_live5, not_true_eq_false, not_false_eq_true, Nat.reduceEqDiff, false_and, true_and, and_true, and_false, and_self, if_true, if_false, ↓reduceIte, reduceCtorEq]; first | (first | assumption | exact hS _ _ | omega | (constructor <;> omega) | (show _ = (1 : Int) ∨ _ = (2 : Int) ∨ _ = (3 : Int); omega)) | (refine ⟨?_, ?_⟩ <;> (first | assumption | exact hS _ _ | omega | (constructor <;> omega) | (show _ = (1 : Int) ∨ _ = (2 : Int) ∨ _ = (3 : Int); omega))) | (refine ⟨?_, ?_, ?_⟩ <;> (first | assumption | exact hS _ _ | omega | (constructor <;> omega) | (show _ = (1 : Int) ∨ _ = (2 : Int) ∨ _ = (3 : Int); omega))) | (refine ⟨?_, ?_, ?_, ?_⟩ <;> (first | assumption | exact hS _ _ | omega | (constructor <;> omega) | (show _ = (1 : Int) ∨ _ = (2 : Int) ∨ _ = (3 : Int); omega))) | (refine ⟨⟨?_, ?_⟩, ?_, ?_⟩ <;> (first | assumption | exact hS _ _ | omega | (constructor <;> omega) | (show _ = (1 : Int) ∨ _ = (2 : Int) ∨ _ = (3 : Int); omega))) | decide))) | (refine And.intro ?_ ?_ <;> (intro hc; (try simp only [r_note, up2, Int.toNat_natCast, a_live5, not_true_eq_false, not_false_eq_true, Nat.reduceEqDiff, false_and, true_and, and_true, and_false, and_self, if_true, if_false, ↓reduceIte, reduceCtorEq] at hc); try (exfalso; first | assumption | omega))) | (refine x_som_i l0 ?_) | (refine x_som_i l1 ?_) | (refine x_som_i l2 ?_) | (refine x_som_i l3 ?_) | (refine x_som_i l4 ?_) | (refine x_som_i l5 ?_) | (refine x_som_i l6 ?_) | (refine x_som_i l7 ?_) | (refine x_som_i l8 ?_) | (refine x_som_i l9 ?_) | (refine a_wo ?sd ?_; case sd => (first | exact hS _ _ | assumption | (constructor <;> omega) | (simp only [r_note, up2, Int.toNat_natCast, a_live5, not_true_eq_false, not_false_eq_true, Nat.reduceEqDiff, false_and, true_and, and_true, and_false, and_self, if_true, if_false, ↓reduceIte, reduceCtorEq]; first | exact hS _ _ | assumption | (constructor <;> omega)))) | (refine st 0 _ _ _ _ _ _ _ rfl ?_) | (refine st 13 _ _ _ _ _ _ _ rfl ?_) | (refine st 14 _ _ _ _ _ _ _ rfl ?_) | (refine st 101 _ _ _ _ _ _ _ rfl ?_) | (refine st 176 _ _ _ _ _ _ _ rfl ?_) | (refine st 198 _ _ _ _ _ _ _ rfl ?_) | (refine st 238 _ _ _ _ _ _ _ rfl ?_) | (refine st 241 _ _ _ _ _ _ _ rfl ?_) | (refine st 247 _ _ _ _ _ _ _ rfl ?_)
        rw [eU]
        simp only [Int.toNat_natCast, e114', ed]
        exact K2 z _ (iS_up (iS_up (iS_up hS si) se) s0) l0 rfl rfl
      · have ey : ¬ w 109 (w 107 (8 * w 113 d + w 114 d).toNat).toNat = 0 := by rw [ex, Int.toNat_natCast]; exact z
        refine st 31 _ _ _ _ _ _ _ rfl ?_
        repeat' first | (refine a_si ?sd ?_; case sd => (first | (first | assumption | exact hS _ _ | omega | (constructor <;> omega) | (show _ = (1 : Int) ∨ _ = (2 : Int) ∨ _ = (3 : Int); omega)) | (refine ⟨?_, ?_⟩ <;> (first | assumption | exact hS _ _ | omega | (constructor <;> omega) | (show _ = (1 : Int) ∨ _ = (2 : Int) ∨ _ = (3 : Int); omega))) | (refine ⟨?_, ?_, ?_⟩ <;> (first | assumption | exact hS _ _ | omega | (constructor <;> omega) | (show _ = (1 : Int) ∨ _ = (2 : Int) ∨ _ = (3 : Int); omega))) | (refine ⟨?_, ?_, ?_, ?_⟩ <;> (first | assumption | exact hS _ _ | omega | (constructor <;> omega) | (show _ = (1 : Int) ∨ _ = (2 : Int) ∨ _ = (3 : Int); omega))) | (refine ⟨⟨?_, ?_⟩, ?_, ?_⟩ <;> (first | assumption | exact hS _ _ | omega | (constructor <;> omega) | (show _ = (1 : Int) ∨ _ = (2 : Int) ∨ _ = (3 : Int); omega))) | decide | (simp only [r_note, up2, Int.toNat_natCast, a_live5, not_true_eq_false, not_false_eq_true, Nat.reduceEqDiff, false_and, true_and, and_true, and_false, and_self, if_true, if_false, ↓reduceIte, reduceCtorEq]; first | (first | assumption | exact hS _ _ | omega | (constructor <;> omega) | (show _ = (1 : Int) ∨ _ = (2 : Int) ∨ _ = (3 : Int); omega)) | (refine ⟨?_, ?_⟩ <;> (first | assumption | exact hS _ _ | omega | (constructor <;> omega) | (show _ = (1 : Int) ∨ _ = (2 : Int) ∨ _ = (3 : Int); omega))) | (refine ⟨?_, ?_, ?_⟩ <;> (first | assumption | exact hS _ _ | omega | (constructor <;> omega) | (show _ = (1 : Int) ∨ _ = (2 : Int) ∨ _ = (3 : Int); omega))) | (refine ⟨?_, ?_, ?_, ?_⟩ <;> (first | assumption | exact hS _ _ | omega | (constructor <;> omega) | (show _ = (1 : Int) ∨ _ = (2 : Int) ∨ _ = (3 : Int); omega))) | (refine ⟨⟨?_, ?_⟩, ?_, ?_⟩ <;> (first | assumption | exact hS _ _ | omega | (constructor <;> omega) | (show _ = (1 : Int) ∨ _ = (2 : Int) ∨ _ = (3 : Int); omega))) | decide))) | (refine And.intro ?_ ?_ <;> (intro hc; (try simp only [r_note, up2, Int.toNat_natCast, a_live5, not_true_eq_false, not_false_eq_true, Nat.reduceEqDiff, false_and, true_and, and_true, and_false, and_self, if_true, if_false, ↓reduceIte, reduceCtorEq] at hc); try (exfalso; first | assumption | omega))) | (refine x_som_i l0 ?_) | (refine x_som_i l1 ?_) | (refine x_som_i l2 ?_) | (refine x_som_i l3 ?_) | (refine x_som_i l4 ?_) | (refine x_som_i l5 ?_) | (refine x_som_i l6 ?_) | (refine x_som_i l7 ?_) | (refine x_som_i l8 ?_) | (refine x_som_i l9 ?_) | (refine a_wo ?sd ?_; case sd => (first | exact hS _ _ | assumption | (constructor <;> omega) | (simp only [r_note, up2, Int.toNat_natCast, a_live5, not_true_eq_false, not_false_eq_true, Nat.reduceEqDiff, false_and, true_and, and_true, and_false, and_self, if_true, if_false, ↓reduceIte, reduceCtorEq]; first | exact hS _ _ | assumption | (constructor <;> omega)))) | (refine st 0 _ _ _ _ _ _ _ rfl ?_) | (refine st 13 _ _ _ _ _ _ _ rfl ?_) | (refine st 14 _ _ _ _ _ _ _ rfl ?_) | (refine st 101 _ _ _ _ _ _ _ rfl ?_) | (refine st 176 _ _ _ _ _ _ _ rfl ?_) | (refine st 198 _ _ _ _ _ _ _ rfl ?_) | (refine st 238 _ _ _ _ _ _ _ rfl ?_) | (refine st 241 _ _ _ _ _ _ _ rfl ?_) | (refine st 247 _ _ _ _ _ _ _ rfl ?_)
        simp only [Int.toNat_natCast, e114']
        exact K1 z _ (iS_up hS si) l0 l2 rfl
  have itF : ∀ (w : SV) (d g c k : Nat) (ls : ALc), w 60 0 = 1 → d < 8 → g < 300 → c < 8 → k ≤ 8 → w 113 d = c → w 114 d = (k : Nat) → w 108 c = k → (0 < k → ∃ e : Nat, e < 8 ∧ w 107 (8 * c + (k - 1)) = e ∧ ¬ w 109 e = 2) → (0 ≤ w 144 0 ∧ w 144 0 < 3200) → (0 ≤ w 112 0 ∧ w 112 0 < 8) → (∀ c i, iS (w c i)) → ls 0 = some (aR 20 0) → ls 2 = some (aI d) → ls 3 = some (aI g) → (2 ≤ w 104 c → ∀ ls' : ALc, (∀ q i, iS (up2 w 109 c 2 q i)) → ls' 0 = some (aR 20 0) → ls' 2 = some (aI ((d : Int) - 1)) → ls' 3 = some (aI (g + 1 : Nat)) → go 31 ls' [] (up2 w 109 c 2) L 0 0) → (¬ 2 ≤ w 104 c → ∀ ls' : ALc, (∀ q i, iS (r_bg w c q i)) → ls' 0 = some (aR 20 0) → ls' 2 = some (aI ((d : Int) - 1)) → ls' 3 = some (aI (g + 1 : Nat)) → go 31 ls' [] (r_bg w c) L 0 0) → go 31 ls [] w L 0 0 := by
    intro w d g c k ls h60 hd hg hc8 hk e113 e114 e108 hlast h1 h112 hS l0 l2 l3 K1 K2
    have ec : (w 113 d).toNat = c := by rw [e113, Int.toNat_natCast]
    have e108' : w 108 (w 113 d).toNat = k := by rw [ec]; exact e108
    have e104' : w 104 (w 113 d).toNat = w 104 c := by rw [ec]
    have i2 : iS (2 : Int) := by constructor <;> decide
    have i1 : iS (1 : Int) := by constructor <;> decide
    have tl : ∀ ls : ALc, ls 0 = some (aR 20 0) → ls 2 = some (aI d) → ls 3 = some (aI g) → ls 4 = some (aI c) → go 176 ls [] w L 0 0 := by
      intro ls l0 l2 l3 l4
      refine st 176 _ _ _ _ _ _ _ rfl ?_
      repeat' first | (refine a_si ?sd ?_; case sd => (first | (first | assumption | exact hS _ _ | omega | (constructor <;> omega) | (show _ = (1 : Int) ∨ _ = (2 : Int) ∨ _ = (3 : Int); omega)) | (refine ⟨?_, ?_⟩ <;> (first | assumption | exact hS _ _ | omega | (constructor <;> omega) | (show _ = (1 : Int) ∨ _ = (2 : Int) ∨ _ = (3 : Int); omega))) | (refine ⟨?_, ?_, ?_⟩ <;> (first | assumption | exact hS _ _ | omega | (constructor <;> omega) | (show _ = (1 : Int) ∨ _ = (2 : Int) ∨ _ = (3 : Int); omega))) | (refine ⟨?_, ?_, ?_, ?_⟩ <;> (first | assumption | exact hS _ _ | omega | (constructor <;> omega) | (show _ = (1 : Int) ∨ _ = (2 : Int) ∨ _ = (3 : Int); omega))) | (refine ⟨⟨?_, ?_⟩, ?_, ?_⟩ <;> (first | assumption | exact hS _ _ | omega | (constructor <;> omega) | (show _ = (1 : Int) ∨ _ = (2 : Int) ∨ _ = (3 : Int); omega))) | decide | (simp only [r_note, up2, Int.toNat_natCast, a_live5, not_true_eq_false, not_false_eq_true, Nat.reduceEqDiff, false_and, true_and, and_true, and_false, and_self, if_true, if_false, ↓reduceIte, reduceCtorEq]; first | (first | assumption | exact hS _ _ | omega | (constructor <;> omega) | (show _ = (1 : Int) ∨ _ = (2 : Int) ∨ _ = (3 : Int); omega)) | (refine ⟨?_, ?_⟩ <;> (first | assumption | exact hS _ _ | omega | (constructor <;> omega) | (show _ = (1 : Int) ∨ _ = (2 : Int) ∨ _ = (3 : Int); omega))) | (refine ⟨?_, ?_, ?_⟩ <;> (first | assumption | exact hS _ _ | omega | (constructor <;> omega) | (show _ = (1 : Int) ∨ _ = (2 : Int) ∨ _ = (3 : Int); omega))) | (refine ⟨?_, ?_, ?_, ?_⟩ <;> (first | assumption | exact hS _ _ | omega | (constructor <;> omega) | (show _ = (1 : Int) ∨ _ = (2 : Int) ∨ _ = (3 : Int); omega))) | (refine ⟨⟨?_, ?_⟩, ?_, ?_⟩ <;> (first | assumption | exact hS _ _ | omega | (constructor <;> omega) | (show _ = (1 : Int) ∨ _ = (2 : Int) ∨ _ = (3 : Int); omega))) | decide))) | (refine And.intro ?_ ?_ <;> (intro hc; (try simp only [r_note, up2, Int.toNat_natCast, a_live5, not_true_eq_false, not_false_eq_true, Nat.reduceEqDiff, false_and, true_and, and_true, and_false, and_self, if_true, if_false, ↓reduceIte, reduceCtorEq] at hc); try (exfalso; first | assumption | omega))) | (refine x_som_i l0 ?_) | (refine x_som_i l1 ?_) | (refine x_som_i l2 ?_) | (refine x_som_i l3 ?_) | (refine x_som_i l4 ?_) | (refine x_som_i l5 ?_) | (refine x_som_i l6 ?_) | (refine x_som_i l7 ?_) | (refine x_som_i l8 ?_) | (refine x_som_i l9 ?_) | (refine a_wo ?sd ?_; case sd => (first | exact hS _ _ | assumption | (constructor <;> omega) | (simp only [r_note, up2, Int.toNat_natCast, a_live5, not_true_eq_false, not_false_eq_true, Nat.reduceEqDiff, false_and, true_and, and_true, and_false, and_self, if_true, if_false, ↓reduceIte, reduceCtorEq]; first | exact hS _ _ | assumption | (constructor <;> omega)))) | (refine st 0 _ _ _ _ _ _ _ rfl ?_) | (refine st 13 _ _ _ _ _ _ _ rfl ?_) | (refine st 14 _ _ _ _ _ _ _ rfl ?_) | (refine st 101 _ _ _ _ _ _ _ rfl ?_) | (refine st 176 _ _ _ _ _ _ _ rfl ?_) | (refine st 198 _ _ _ _ _ _ _ rfl ?_) | (refine st 238 _ _ _ _ _ _ _ rfl ?_) | (refine st 241 _ _ _ _ _ _ _ rfl ?_) | (refine st 247 _ _ _ _ _ _ _ rfl ?_)
      · have h60' : up2 w 109 c 1 60 0 = 1 := (up2_c (by omega)).trans h60
        have h144' : 0 ≤ up2 w 109 c 1 144 0 ∧ up2 w 109 c 1 144 0 < 3200 := by rw [up2_c (by omega)]; exact h1
        have f60 : r_fresh (up2 w 109 c 1) 60 0 = 1 := (congrFun (r_fresh_c (by omega)) 0).trans h60'
        have f112 : r_fresh (up2 w 109 c 1) 112 0 = w 112 0 := (congrFun (r_fresh_c (by omega)) 0).trans (up2_c (by omega))
        have e143 : up2 w 109 c 1 143 0 = w 143 0 := up2_c (by omega)
        have sc : iS ((c : Nat) : Int) := by constructor <;> omega
        have s143 := hS 143 0
        have eb : r_bg w c = up2 (up2 (up2 (r_fresh (up2 w 109 c 1)) 110 c (w 143 0)) 111 (w 112 0).toNat c) 112 0 (w 112 0 + 1) := rfl
        refine a_cs (d_fresh h60' h144') ?room ?_
        case room => first | decide | exact ⟨by decide, by decide, by omega, by omega⟩
        rintro _ _ _ ⟨rfl, rfl, rfl⟩ hS'
        simp only [Int.toNat_natCast] at hS' ⊢
        rw [e143]
        generalize r_fresh (up2 w 109 c 1) = F at *
        have q1 : ∀ x, up2 F 110 c x 112 0 = w 112 0 := fun x => (up2_c (by omega)).trans f112
        have q2 : ∀ x, up2 (up2 F 110 c x) 111 (w 112 0).toNat c 112 0 = w 112 0 := fun x => (up2_c (by omega)).trans (q1 x)
        repeat' first | (refine a_si ?sd ?_; case sd => first | (simp only [r_note, up2, Int.toNat_natCast, a_live5, not_true_eq_false, not_false_eq_true, Nat.reduceEqDiff, false_and, true_and, and_true, and_false, and_self, if_true, if_false, ↓reduceIte, reduceCtorEq]; first | (first | assumption | exact hS _ _ | omega | (constructor <;> omega) | (show _ = (1 : Int) ∨ _ = (2 : Int) ∨ _ = (3 : Int); omega)) | (refine ⟨?_, ?_⟩ <;> (first | assumption | exact hS _ _ | omega | (constructor <;> omega) | (show _ = (1 : Int) ∨ _ = (2 : Int) ∨ _ = (3 : Int); omega))) | (refine ⟨?_, ?_, ?_⟩ <;> (first | assumption | exact hS _ _ | omega | (constructor <;> omega) | (show _ = (1 : Int) ∨ _ = (2 : Int) ∨ _ = (3 : Int); omega))) | (refine ⟨?_, ?_, ?_, ?_⟩ <;> (first | assumption | exact hS _ _ | omega | (constructor <;> omega) | (show _ = (1 : Int) ∨ _ = (2 : Int) ∨ _ = (3 : Int); omega))) | (refine ⟨⟨?_, ?_⟩, ?_, ?_⟩ <;> (first | assumption | exact hS _ _ | omega | (constructor <;> omega) | (show _ = (1 : Int) ∨ _ = (2 : Int) ∨ _ = (3 : Int); omega))) | decide) | (first | (first | assumption | exact hS _ _ | omega | (constructor <;> omega) | (show _ = (1 : Int) ∨ _ = (2 : Int) ∨ _ = (3 : Int); omega)) | (refine ⟨?_, ?_⟩ <;> (first | assumption | exact hS _ _ | omega | (constructor <;> omega) | (show _ = (1 : Int) ∨ _ = (2 : Int) ∨ _ = (3 : Int); omega))) | (refine ⟨?_, ?_, ?_⟩ <;> (first | assumption | exact hS _ _ | omega | (constructor <;> omega) | (show _ = (1 : Int) ∨ _ = (2 : Int) ∨ _ = (3 : Int); omega))) | (refine ⟨?_, ?_, ?_, ?_⟩ <;> (first | assumption | exact hS _ _ | omega | (constructor <;> omega) | (show _ = (1 : Int) ∨ _ = (2 : Int) ∨ _ = (3 : Int); omega))) | (refine ⟨⟨?_, ?_⟩, ?_, ?_⟩ <;> (first | assumption | exact hS _ _ | omega | (constructor <;> omega) | (show _ = (1 : Int) ∨ _ = (2 : Int) ∨ _ = (3 : Int); omega))) | decide)) | (refine And.intro ?_ ?_ <;> (intro hc; (try simp only [r_note, up2, Int.toNat_natCast, a_live5, not_true_eq_false, not_false_eq_true, Nat.reduceEqDiff, false_and, true_and, and_true, and_false, and_self, if_true, if_false, ↓reduceIte, reduceCtorEq] at hc); try (exfalso; first | assumption | omega))) | (refine x_som_i l0 ?_) | (refine x_som_i l1 ?_) | (refine x_som_i l2 ?_) | (refine x_som_i l3 ?_) | (refine x_som_i l4 ?_) | (refine x_som_i l5 ?_) | (refine x_som_i l6 ?_) | (refine x_som_i l7 ?_) | (refine x_som_i l8 ?_) | (refine x_som_i l9 ?_) | (refine a_wo ?sd ?_; case sd => first | (simp only [r_note, up2, Int.toNat_natCast, a_live5, not_true_eq_false, not_false_eq_true, Nat.reduceEqDiff, false_and, true_and, and_true, and_false, and_self, if_true, if_false, ↓reduceIte, reduceCtorEq]; first | exact hS _ _ | assumption | (constructor <;> omega)) | (first | exact hS _ _ | assumption | (constructor <;> omega))) | (refine st 0 _ _ _ _ _ _ _ rfl ?_) | (refine st 13 _ _ _ _ _ _ _ rfl ?_) | (refine st 14 _ _ _ _ _ _ _ rfl ?_) | (refine st 101 _ _ _ _ _ _ _ rfl ?_) | (refine st 176 _ _ _ _ _ _ _ rfl ?_) | (refine st 198 _ _ _ _ _ _ _ rfl ?_) | (refine st 238 _ _ _ _ _ _ _ rfl ?_) | (refine st 241 _ _ _ _ _ _ _ rfl ?_) | (refine st 247 _ _ _ _ _ _ _ rfl ?_)
        simp only [Int.toNat_natCast, q1, q2]
        rw [← eb]
        refine K2 (by omega) _ ?_ l0 rfl rfl
        rw [eb]
        exact iS_up (iS_up (iS_up hS' s143) sc) (by constructor <;> omega)
      · simp only [Int.toNat_natCast]
        exact K1 (by omega) _ (iS_up hS i2) l0 rfl rfl
    rcases Nat.eq_zero_or_pos k with kz | kz
    · have e114z : w 114 d = 0 := by rw [e114, kz]; rfl
      have e108z : w 108 (w 113 d).toNat = 0 := by rw [e108', kz]; rfl
      refine st 31 _ _ _ _ _ _ _ rfl ?_
      repeat' first | (refine a_si ?sd ?_; case sd => (first | (first | assumption | exact hS _ _ | omega | (constructor <;> omega) | (show _ = (1 : Int) ∨ _ = (2 : Int) ∨ _ = (3 : Int); omega)) | (refine ⟨?_, ?_⟩ <;> (first | assumption | exact hS _ _ | omega | (constructor <;> omega) | (show _ = (1 : Int) ∨ _ = (2 : Int) ∨ _ = (3 : Int); omega))) | (refine ⟨?_, ?_, ?_⟩ <;> (first | assumption | exact hS _ _ | omega | (constructor <;> omega) | (show _ = (1 : Int) ∨ _ = (2 : Int) ∨ _ = (3 : Int); omega))) | (refine ⟨?_, ?_, ?_, ?_⟩ <;> (first | assumption | exact hS _ _ | omega | (constructor <;> omega) | (show _ = (1 : Int) ∨ _ = (2 : Int) ∨ _ = (3 : Int); omega))) | (refine ⟨⟨?_, ?_⟩, ?_, ?_⟩ <;> (first | assumption | exact hS _ _ | omega | (constructor <;> omega) | (show _ = (1 : Int) ∨ _ = (2 : Int) ∨ _ = (3 : Int); omega))) | decide | (simp only [r_note, up2, Int.toNat_natCast, a_live5, not_true_eq_false, not_false_eq_true, Nat.reduceEqDiff, false_and, true_and, and_true, and_false, and_self, if_true, if_false, ↓reduceIte, reduceCtorEq]; first | (first | assumption | exact hS _ _ | omega | (constructor <;> omega) | (show _ = (1 : Int) ∨ _ = (2 : Int) ∨ _ = (3 : Int); omega)) | (refine ⟨?_, ?_⟩ <;> (first | assumption | exact hS _ _ | omega | (constructor <;> omega) | (show _ = (1 : Int) ∨ _ = (2 : Int) ∨ _ = (3 : Int); omega))) | (refine ⟨?_, ?_, ?_⟩ <;> (first | assumption | exact hS _ _ | omega | (constructor <;> omega) | (show _ = (1 : Int) ∨ _ = (2 : Int) ∨ _ = (3 : Int); omega))) | (refine ⟨?_, ?_, ?_, ?_⟩ <;> (first | assumption | exact hS _ _ | omega | (constructor <;> omega) | (show _ = (1 : Int) ∨ _ = (2 : Int) ∨ _ = (3 : Int); omega))) | (refine ⟨⟨?_, ?_⟩, ?_, ?_⟩ <;> (first | assumption | exact hS _ _ | omega | (constructor <;> omega) | (show _ = (1 : Int) ∨ _ = (2 : Int) ∨ _ = (3 : Int); omega))) | decide))) | (refine And.intro ?_ ?_ <;> (intro hc; (try simp only [r_note, up2, Int.toNat_natCast, a_live5, not_true_eq_false, not_false_eq_true, Nat.reduceEqDiff, false_and, true_and, and_true, and_false, and_self, if_true, if_false, ↓reduceIte, reduceCtorEq] at hc); try (exfalso; first | assumption | omega))) | (refine x_som_i l0 ?_) | (refine x_som_i l1 ?_) | (refine x_som_i l2 ?_) | (refine x_som_i l3 ?_) | (refine x_som_i l4 ?_) | (refine x_som_i l5 ?_) | (refine x_som_i l6 ?_) | (refine x_som_i l7 ?_) | (refine x_som_i l8 ?_) | (refine x_som_i l9 ?_) | (refine a_wo ?sd ?_; case sd => (first | exact hS _ _ | assumption | (constructor <;> omega) | (simp only [r_note, up2, Int.toNat_natCast, a_live5, not_true_eq_false, not_false_eq_true, Nat.reduceEqDiff, false_and, true_and, and_true, and_false, and_self, if_true, if_false, ↓reduceIte, reduceCtorEq]; first | exact hS _ _ | assumption | (constructor <;> omega)))) | (refine st 0 _ _ _ _ _ _ _ rfl ?_) | (refine st 13 _ _ _ _ _ _ _ rfl ?_) | (refine st 14 _ _ _ _ _ _ _ rfl ?_) | (refine st 101 _ _ _ _ _ _ _ rfl ?_) | (refine st 198 _ _ _ _ _ _ _ rfl ?_) | (refine st 238 _ _ _ _ _ _ _ rfl ?_) | (refine st 241 _ _ _ _ _ _ _ rfl ?_) | (refine st 247 _ _ _ _ _ _ _ rfl ?_)
      exact tl _ l0 l2 l3 (by show some (aI (w 113 (d : Int).toNat)) = _; rw [Int.toNat_natCast, e113])
    · obtain ⟨n1, n2⟩ := noSt w d c k e114 hlast e113 kz
      refine st 31 _ _ _ _ _ _ _ rfl ?_
      repeat' first | (refine a_si ?sd ?_; case sd => (first | (first | assumption | exact hS _ _ | omega | (constructor <;> omega) | (show _ = (1 : Int) ∨ _ = (2 : Int) ∨ _ = (3 : Int); omega)) | (refine ⟨?_, ?_⟩ <;> (first | assumption | exact hS _ _ | omega | (constructor <;> omega) | (show _ = (1 : Int) ∨ _ = (2 : Int) ∨ _ = (3 : Int); omega))) | (refine ⟨?_, ?_, ?_⟩ <;> (first | assumption | exact hS _ _ | omega | (constructor <;> omega) | (show _ = (1 : Int) ∨ _ = (2 : Int) ∨ _ = (3 : Int); omega))) | (refine ⟨?_, ?_, ?_, ?_⟩ <;> (first | assumption | exact hS _ _ | omega | (constructor <;> omega) | (show _ = (1 : Int) ∨ _ = (2 : Int) ∨ _ = (3 : Int); omega))) | (refine ⟨⟨?_, ?_⟩, ?_, ?_⟩ <;> (first | assumption | exact hS _ _ | omega | (constructor <;> omega) | (show _ = (1 : Int) ∨ _ = (2 : Int) ∨ _ = (3 : Int); omega))) | decide | (simp only [r_note, up2, Int.toNat_natCast, a_live5, not_true_eq_false, not_false_eq_true, Nat.reduceEqDiff, false_and, true_and, and_true, and_false, and_self, if_true, if_false, ↓reduceIte, reduceCtorEq]; first | (first | assumption | exact hS _ _ | omega | (constructor <;> omega) | (show _ = (1 : Int) ∨ _ = (2 : Int) ∨ _ = (3 : Int); omega)) | (refine ⟨?_, ?_⟩ <;> (first | assumption | exact hS _ _ | omega | (constructor <;> omega) | (show _ = (1 : Int) ∨ _ = (2 : Int) ∨ _ = (3 : Int); omega))) | (refine ⟨?_, ?_, ?_⟩ <;> (first | assumption | exact hS _ _ | omega | (constructor <;> omega) | (show _ = (1 : Int) ∨ _ = (2 : Int) ∨ _ = (3 : Int); omega))) | (refine ⟨?_, ?_, ?_, ?_⟩ <;> (first | assumption | exact hS _ _ | omega | (constructor <;> omega) | (show _ = (1 : Int) ∨ _ = (2 : Int) ∨ _ = (3 : Int); omega))) | (refine ⟨⟨?_, ?_⟩, ?_, ?_⟩ <;> (first | assumption | exact hS _ _ | omega | (constructor <;> omega) | (show _ = (1 : Int) ∨ _ = (2 : Int) ∨ _ = (3 : Int); omega))) | decide))) | (refine And.intro ?_ ?_ <;> (intro hc; (try simp only [r_note, up2, Int.toNat_natCast, a_live5, not_true_eq_false, not_false_eq_true, Nat.reduceEqDiff, false_and, true_and, and_true, and_false, and_self, if_true, if_false, ↓reduceIte, reduceCtorEq] at hc); try (exfalso; first | assumption | omega))) | (refine x_som_i l0 ?_) | (refine x_som_i l1 ?_) | (refine x_som_i l2 ?_) | (refine x_som_i l3 ?_) | (refine x_som_i l4 ?_) | (refine x_som_i l5 ?_) | (refine x_som_i l6 ?_) | (refine x_som_i l7 ?_) | (refine x_som_i l8 ?_) | (refine x_som_i l9 ?_) | (refine a_wo ?sd ?_; case sd => (first | exact hS _ _ | assumption | (constructor <;> omega) | (simp only [r_note, up2, Int.toNat_natCast, a_live5, not_true_eq_false, not_false_eq_true, Nat.reduceEqDiff, false_and, true_and, and_true, and_false, and_self, if_true, if_false, ↓reduceIte, reduceCtorEq]; first | exact hS _ _ | assumption | (constructor <;> omega)))) | (refine st 0 _ _ _ _ _ _ _ rfl ?_) | (refine st 13 _ _ _ _ _ _ _ rfl ?_) | (refine st 14 _ _ _ _ _ _ _ rfl ?_) | (refine st 101 _ _ _ _ _ _ _ rfl ?_) | (refine st 198 _ _ _ _ _ _ _ rfl ?_) | (refine st 238 _ _ _ _ _ _ _ rfl ?_) | (refine st 241 _ _ _ _ _ _ _ rfl ?_) | (refine st 247 _ _ _ _ _ _ _ rfl ?_)
      exact tl _ l0 l2 l3 (by show some (aI (w 113 (d : Int).toNat)) = _; rw [Int.toNat_natCast, e113])
  have fin : ∀ (w2 : SV) (g2 : Nat) (own' : Int → Nat) (ls : ALc), RS own' (m_begin M 8 s t) M w2 → pot (m_begin M 8 s t) M w2 ≤ pot s M w → same w w2 → g2 < 300 → (∀ c i, iS (w2 c i)) → ls 0 = some (aR 20 0) → ls 2 = some (aI (-1)) → ls 3 = some (aI g2) → go 31 ls [] w2 L 0 0 := by
    intro w2 g2 own' ls r1 r2 r3 hg hS l0 l2 l3
    refine st 31 _ _ _ _ _ _ _ rfl ?_
    repeat' first | (refine a_si ?sd ?_; case sd => (first | (first | assumption | exact hS _ _ | omega | (constructor <;> omega) | (show _ = (1 : Int) ∨ _ = (2 : Int) ∨ _ = (3 : Int); omega)) | (refine ⟨?_, ?_⟩ <;> (first | assumption | exact hS _ _ | omega | (constructor <;> omega) | (show _ = (1 : Int) ∨ _ = (2 : Int) ∨ _ = (3 : Int); omega))) | (refine ⟨?_, ?_, ?_⟩ <;> (first | assumption | exact hS _ _ | omega | (constructor <;> omega) | (show _ = (1 : Int) ∨ _ = (2 : Int) ∨ _ = (3 : Int); omega))) | (refine ⟨?_, ?_, ?_, ?_⟩ <;> (first | assumption | exact hS _ _ | omega | (constructor <;> omega) | (show _ = (1 : Int) ∨ _ = (2 : Int) ∨ _ = (3 : Int); omega))) | (refine ⟨⟨?_, ?_⟩, ?_, ?_⟩ <;> (first | assumption | exact hS _ _ | omega | (constructor <;> omega) | (show _ = (1 : Int) ∨ _ = (2 : Int) ∨ _ = (3 : Int); omega))) | decide | (simp only [r_note, up2, Int.toNat_natCast, a_live5, not_true_eq_false, not_false_eq_true, Nat.reduceEqDiff, false_and, true_and, and_true, and_false, and_self, if_true, if_false, ↓reduceIte, reduceCtorEq]; first | (first | assumption | exact hS _ _ | omega | (constructor <;> omega) | (show _ = (1 : Int) ∨ _ = (2 : Int) ∨ _ = (3 : Int); omega)) | (refine ⟨?_, ?_⟩ <;> (first | assumption | exact hS _ _ | omega | (constructor <;> omega) | (show _ = (1 : Int) ∨ _ = (2 : Int) ∨ _ = (3 : Int); omega))) | (refine ⟨?_, ?_, ?_⟩ <;> (first | assumption | exact hS _ _ | omega | (constructor <;> omega) | (show _ = (1 : Int) ∨ _ = (2 : Int) ∨ _ = (3 : Int); omega))) | (refine ⟨?_, ?_, ?_, ?_⟩ <;> (first | assumption | exact hS _ _ | omega | (constructor <;> omega) | (show _ = (1 : Int) ∨ _ = (2 : Int) ∨ _ = (3 : Int); omega))) | (refine ⟨⟨?_, ?_⟩, ?_, ?_⟩ <;> (first | assumption | exact hS _ _ | omega | (constructor <;> omega) | (show _ = (1 : Int) ∨ _ = (2 : Int) ∨ _ = (3 : Int); omega))) | decide))) | (refine And.intro ?_ ?_ <;> (intro hc; (try simp only [r_note, up2, Int.toNat_natCast, a_live5, not_true_eq_false, not_false_eq_true, Nat.reduceEqDiff, false_and, true_and, and_true, and_false, and_self, if_true, if_false, ↓reduceIte, reduceCtorEq] at hc); try (exfalso; first | assumption | omega))) | (refine x_som_i l0 ?_) | (refine x_som_i l1 ?_) | (refine x_som_i l2 ?_) | (refine x_som_i l3 ?_) | (refine x_som_i l4 ?_) | (refine x_som_i l5 ?_) | (refine x_som_i l6 ?_) | (refine x_som_i l7 ?_) | (refine x_som_i l8 ?_) | (refine x_som_i l9 ?_) | (refine a_wo ?sd ?_; case sd => (first | exact hS _ _ | assumption | (constructor <;> omega) | (simp only [r_note, up2, Int.toNat_natCast, a_live5, not_true_eq_false, not_false_eq_true, Nat.reduceEqDiff, false_and, true_and, and_true, and_false, and_self, if_true, if_false, ↓reduceIte, reduceCtorEq]; first | exact hS _ _ | assumption | (constructor <;> omega)))) | (refine st 0 _ _ _ _ _ _ _ rfl ?_) | (refine st 13 _ _ _ _ _ _ _ rfl ?_) | (refine st 14 _ _ _ _ _ _ _ rfl ?_) | (refine st 101 _ _ _ _ _ _ _ rfl ?_) | (refine st 176 _ _ _ _ _ _ _ rfl ?_) | (refine st 198 _ _ _ _ _ _ _ rfl ?_) | (refine st 238 _ _ _ _ _ _ _ rfl ?_) | (refine st 241 _ _ _ _ _ _ _ rfl ?_) | (refine st 247 _ _ _ _ _ _ _ rfl ?_)
    exact ⟨⟨rfl, rfl⟩, r3, ⟨own', r1⟩, r2⟩
  have proc : ∀ n, BGC go L M s rk n → ∀ c rest, BGP go L M s rk n c rest := by
    intro n hch c rest
    induction rest with
    | nil =>
      intro pre own s1 w1 d g ls hR h60 h20 hc h3 h109 hp hM hrc hd e113 e114 hlast hg hS l0 l2 l3 K
      have c8 := sg8 hR hc
      have hlen := sg_len hR hc
      obtain ⟨q1, q2, q3, q4⟩ := hR.2.1.2.2.1.1 c hc
      have kS := sg_k hR hc
      have st0 : s1 29 c = 0 ∧ s1 30 c = 0 := by
        rcases hR.2.1.2.2.2.1.1 c hc with q | q | q <;> omega
      have hl : (M (200 + c)).length = pre.length := by rw [hM]; simp
      have ub := uN_b s1
      have pb := pot_b hR
      have e144 : w1 144 0 = s1 4 0 := hR.2.2.1.1
      have ob := ol_b hR hc h109
      refine itF w1 d g c pre.length ls h60 (by omega) (by omega) c8 (by omega) e113 e114 (by rw [q1, hl]) hlast ⟨by omega, by omega⟩ ob hS l0 l2 l3 (fun hz ls' hS' m0 m2 m3 => ?_) (fun hz ls' hS' m0 m2 m3 => ?_)
      · have eg : bgG M n c [] s1 = bgX s1 c := cif_f (by have := kS.2.2.2.2.2.2.2.2.2; omega)
        obtain ⟨a1, a2⟩ := RS_no hR hc h109
        have u := uN_X c8 hc st0.1 st0.2
        refine K own (up2 w1 109 c 2) (g + 1) ls' ?_ ?_ ?_ ?_ ?_ hS' m0 m2 m3
        · rw [eg]; exact a1
        · rw [eg]; exact a2
        · exact same_up (by omega)
        · exact fun j _ => ⟨up2_c (by omega), up2_c (by omega)⟩
        · rw [eg, u]; simp; omega
      · have eg : bgG M n c [] s1 = bgY s1 c := cif_t (by have := kS.2.2.2.2.2.2.2.2.2; omega)
        obtain ⟨⟨own', a1⟩, a2⟩ := RS_yes hR hc h109 h3 (by omega)
        have u := uN_Y c8 hc st0.1 st0.2
        have fb : ∀ q, (q ≠ 109 ∧ q ≠ 110 ∧ q ≠ 111 ∧ q ≠ 112 ∧ q ≠ 143 ∧ q ≠ 144 ∧ q ≠ 145) → r_bg w1 c q = w1 q := r_bg_c
        refine K own' (r_bg w1 c) (g + 1) ls' ?_ ?_ ?_ ?_ ?_ hS' m0 m2 m3
        · rw [eg]; exact a1
        · rw [eg]; exact a2
        · exact fun q hq => fb q (by omega)
        · exact fun j _ => ⟨by rw [fb 113 (by omega)], by rw [fb 114 (by omega)]⟩
        · rw [eg, u]; simp; omega
    | cons e rest ih =>
      intro pre own s1 w1 d g ls hR h60 h20 hc h3 h109 hp hM hrc hd e113 e114 hlast hg hS l0 l2 l3 K
      have c8 := sg8 hR hc
      have hlen := sg_len hR hc
      obtain ⟨q1, q2, q3, q4⟩ := hR.2.1.2.2.1.1 c hc
      have hl : (M (200 + c)).length = pre.length + rest.length + 1 := by rw [hM]; simp; omega
      have em : e ∈ M (200 + c) := by rw [hM]; simp
      have e8 := q4 e em
      have e2 : s1 20 e = 2 := (hR.1.2.2.2.1 c hc).2.2.2.2 e em
      have rke := hrk c (by rw [← h20]; exact hc) e em
      have e107 : w1 107 (8 * c + pre.length) = e := by rw [q3 pre.length (by omega), hM, gd_mid]
      have ub := uN_b s1
      have sgk := sg_k hR hc
      have st0 : s1 29 c = 0 ∧ s1 30 c = 0 := by
        rcases hR.2.1.2.2.2.1.1 c hc with q | q | q <;> omega
      have hrk1 : ∀ c, s1 20 c = 2 → ∀ e ∈ M (200 + c), rk e < rk c := fun x hx => hrk x (by rw [← h20]; exact hx)
      -- after e: on with the rest
      have next : ∀ (own2 : Int → Nat) (w2 : SV) (g2 : Nat) (ls' : ALc), RS own2 (m_begin M n s1 e) M w2 → pot (m_begin M n s1 e) M w2 ≤ pot s1 M w1 → same w1 w2 → (∀ j, j < d → w2 113 j = w1 113 j ∧ w2 114 j = w1 114 j) → (g2 : Int) + 9 * uN (m_begin M n s1 e) ≤ g + 1 + 9 * uN s1 → w2 113 d = c → w2 114 d = (pre.length + 1 : Nat) → ¬ w2 109 e = 0 → (∀ c i, iS (w2 c i)) → ls' 0 = some (aR 20 0) → ls' 2 = some (aI d) → ls' 3 = some (aI g2) → go 31 ls' [] w2 L 0 0 := by
        intro own2 w2 g2 ls' r1 r2 r3 r4 r5 r6 r7 r8 hS2 m0 m2 m3
        have b20 : ∀ x, m_begin M n s1 e 20 x = s1 20 x := fun x => m_begin_c n s1 e 20 x (by unfold bgF; omega)
        have b0 : m_begin M n s1 e 0 0 = s1 0 0 := m_begin_c n s1 e 0 0 (by unfold bgF; omega)
        have bc := m_begin_rk n s1 e c hrk1 hR.1.2.2.2.1 e2 rke
        have hc2 : m_begin M n s1 e 20 c = 2 := by rw [b20]; exact hc
        have he2 : m_begin M n s1 e 20 e = 2 := by rw [b20]; exact e2
        have n109 : w2 109 c = 0 := by
          have := bc.1
          have := bc.2.1
          rcases r1.2.1.2.2.2.1.1 c hc2 with q | q | q <;> omega
        have ub2 := uN_b (m_begin M n s1 e)
        have w60 : w2 60 0 = 1 := by rw [r3 60 (by omega)]; exact h60
        obtain ⟨p1, p2, p3, p4⟩ := r1.2.1.2.2.1.1 c hc2
        have p107 : w2 107 (8 * c + pre.length) = e := by rw [p3 pre.length (by omega), hM, gd_mid]
        have eg : bgG M n c (e :: rest) s1 = cif (m_begin M n s1 e 30 e = 0) (bgG M n c rest (m_begin M n s1 e)) (bgX (m_begin M n s1 e) c) := rfl
        by_cases zf : w2 109 e = 2
        · have f30 : ¬ m_begin M n s1 e 30 e = 0 := by
            rcases r1.2.1.2.2.2.1.1 e he2 with q | q | q <;> omega
          rw [cif_f f30] at eg
          refine itNo w2 d g2 c pre.length e ls' w60 (by omega) (by omega) c8 (by omega) e8 r6 r7 p107 zf hS2 m0 m2 m3 (fun ls'' hS'' k0 k2 k3 => ?_)
          obtain ⟨a1, a2⟩ := RS_no r1 hc2 n109
          have u := uN_X c8 hc2 (by rw [bc.1]; exact st0.1) (by rw [bc.2.1]; exact st0.2)
          refine K own2 (up2 w2 109 c 2) (g2 + 1) ls'' ?_ ?_ ?_ ?_ ?_ hS'' k0 k2 k3
          · rw [eg]; exact a1
          · rw [eg]; exact Int.le_trans a2 r2
          · exact same_t r3 (same_up (by omega))
          · exact fun j hj => ⟨(up2_c (by omega)).trans (r4 j hj).1, (up2_c (by omega)).trans (r4 j hj).2⟩
          · rw [eg, u]; simp; omega
        · have f30 : m_begin M n s1 e 30 e = 0 := by
            rcases r1.2.1.2.2.2.1.1 e he2 with q | q | q <;> omega
          rw [cif_t f30] at eg
          refine ih (pre ++ [e]) own2 (m_begin M n s1 e) w2 d g2 ls' r1 w60 (fun x => by rw [b20, h20]) hc2 (by rw [b0]; exact h3) n109 (by omega) (by rw [hM]; simp) hrc hd r6 (by rw [r7]; simp) (fun _ => ⟨e, e8, ?_, zf⟩) (by simp; omega) hS2 m0 m2 m3 (fun own3 w3 g3 ls3 t1 t2 t3 t4 t5 hS3 k0 k2 k3 => ?_)
          · rw [show (pre ++ [e]).length - 1 = pre.length by simp]; exact p107
          · refine K own3 w3 g3 ls3 ?_ ?_ ?_ ?_ ?_ hS3 k0 k2 k3
            · rw [eg]; exact t1
            · rw [eg]; exact Int.le_trans t2 r2
            · exact same_t r3 t3
            · exact fun j hj => ⟨(t4 j hj).1.trans (r4 j hj).1, (t4 j hj).2.trans (r4 j hj).2⟩
            · rw [eg]; simp; omega
      refine itA w1 d g c pre.length (M (200 + c)).length e ls h60 (by omega) (by omega) c8 (by omega) (by omega) e8 e113 e114 q1 hlast e107 hS l0 l2 l3 (fun z => by omega) (fun z ls' hS' m0 m2 m3 => ?_) (fun z ls' hS' m0 m2 m3 => ?_)
      · have es : m_begin M n s1 e = s1 := m_begin_0 (by rcases hR.2.1.2.2.2.1.1 e e2 with q | q | q <;> omega)
        obtain ⟨a1, a2⟩ := RS_w (w' := up2 w1 114 d (pre.length + 1 : Nat)) hR (fun q hq => funext fun j => up2_c (by omega))
        refine next own _ (g + 1) ls' ?_ ?_ ?_ ?_ ?_ ?_ ?_ ?_ hS' m0 m2 m3
        · rw [es]; exact a1
        · rw [es, a2]; exact Int.le_refl _
        · exact same_up (by omega)
        · exact fun j hj => ⟨up2_c (by omega), up2_i (by omega)⟩
        · rw [es]; omega
        · rw [up2_c (by omega)]; exact e113
        · rw [up2_s]
        · rw [up2_c (by omega)]; exact z
      · obtain ⟨a1, a2⟩ := RS_w (w' := up2 (up2 (up2 w1 114 d (pre.length + 1 : Nat)) 113 (d + 1) e) 114 (d + 1) 0) hR (fun q hq => funext fun j => by rw [up2_c (by omega), up2_c (by omega), up2_c (by omega)])
        refine hch e own s1 _ (d + 1) (g + 1) ls' a1 ?_ h20 e2 h3 ?_ (by rw [a2]; exact hp) (by omega) (by omega) ?_ ?_ ?_ hS' m0 m2 m3 (fun own2 w2 g2 ls2 r1 r2 r3 r4 r5 hS2 k0 k2 k3 => ?_)
        · rw [up2_c (by omega), up2_c (by omega), up2_c (by omega)]; exact h60
        · rw [up2_c (by omega), up2_c (by omega), up2_c (by omega)]; exact z
        · rw [up2_c (by omega), up2_s]
        · rw [up2_s]
        · simp; omega
        · have hne : ¬ w2 109 e = 0 := by
            have b20 : m_begin M n s1 e 20 e = s1 20 e := m_begin_c n s1 e 20 e (by unfold bgF; omega)
            have done : ¬ (m_begin M n s1 e 29 e = 0 ∧ m_begin M n s1 e 30 e = 0) := m_begin_done (rk := rk) (by omega) hrk1 hR.1.2.2.2.1 e2
            rcases r1.2.1.2.2.2.1.1 e (by rw [b20]; exact e2) with q | q | q <;> omega
          refine next own2 w2 g2 ls2 r1 (by rw [a2] at r2; exact r2) ?_ ?_ (by simp at r5; omega) ?_ ?_ hne hS2 k0 ?_ k3
          · refine same_t ?_ r3
            intro q hq
            funext j
            rw [up2_c (by omega), up2_c (by omega), up2_c (by omega)]
          · intro j hj
            obtain ⟨y1, y2⟩ := r4 j (by omega)
            refine ⟨y1.trans ?_, y2.trans ?_⟩
            · rw [up2_c (by omega), up2_i (by omega), up2_c (by omega)]
            · rw [up2_i (by omega), up2_c (by omega), up2_i (by omega)]
          · refine (r4 d (by omega)).1.trans ?_
            rw [up2_c (by omega), up2_i (by omega), up2_c (by omega)]; exact e113
          · refine (r4 d (by omega)).2.trans ?_
            rw [up2_i (by omega), up2_c (by omega), up2_s]
          · rw [k2]; congr 2; simp
  have chn : ∀ n, BGC go L M s rk n := by
    intro n
    induction n with
    | zero =>
      intro e own s1 w1 d g ls hR h60 h20 he h3 h109 hp hre
      omega
    | succ n ihn =>
      intro e own s1 w1 d g ls hR h60 h20 he h3 h109 hp hre hd e113 e114 hg hS l0 l2 l3 K
      have hlen := sg_len hR he
      have st0 : s1 29 e = 0 ∧ s1 30 e = 0 := by
        rcases hR.2.1.2.2.2.1.1 e he with q | q | q <;> omega
      have eG : m_begin M (n + 1) s1 e = bgG M n e (M (200 + e)) s1 := m_begin_G (rk := rk) (fun x hx => hrk x (by rw [← h20]; exact hx)) hR.1.2.2.2.1 he st0.1 st0.2
      refine proc n ihn e (M (200 + e)) [] own s1 w1 d g ls hR h60 h20 he h3 h109 hp rfl (by omega) hd e113 (by rw [e114]; rfl) (fun q => by simp at q) (by simp; omega) hS l0 l2 l3 (fun own2 w2 g2 ls2 r1 r2 r3 r4 r5 hS2 k0 k2 k3 => ?_)
      rw [← eG] at r1 r2 r5
      exact K own2 w2 g2 ls2 r1 r2 r3 r4 (by omega) hS2 k0 k2 k3
  have t8 := sg8 hR ht
  have ub := uN_b s
  have st' : iS ((t : Nat) : Int) := by constructor <;> omega
  have s0 : iS (0 : Int) := by constructor <;> decide
  obtain ⟨a1, a2⟩ := RS_w (w' := up2 (up2 w 113 0 t) 114 0 0) hR (fun q hq => funext fun j => by rw [up2_c (by omega), up2_c (by omega)])
  repeat' first | (refine a_si ?sd ?_; case sd => (first | (first | assumption | exact hS _ _ | omega | (constructor <;> omega) | (show _ = (1 : Int) ∨ _ = (2 : Int) ∨ _ = (3 : Int); omega)) | (refine ⟨?_, ?_⟩ <;> (first | assumption | exact hS _ _ | omega | (constructor <;> omega) | (show _ = (1 : Int) ∨ _ = (2 : Int) ∨ _ = (3 : Int); omega))) | (refine ⟨?_, ?_, ?_⟩ <;> (first | assumption | exact hS _ _ | omega | (constructor <;> omega) | (show _ = (1 : Int) ∨ _ = (2 : Int) ∨ _ = (3 : Int); omega))) | (refine ⟨?_, ?_, ?_, ?_⟩ <;> (first | assumption | exact hS _ _ | omega | (constructor <;> omega) | (show _ = (1 : Int) ∨ _ = (2 : Int) ∨ _ = (3 : Int); omega))) | (refine ⟨⟨?_, ?_⟩, ?_, ?_⟩ <;> (first | assumption | exact hS _ _ | omega | (constructor <;> omega) | (show _ = (1 : Int) ∨ _ = (2 : Int) ∨ _ = (3 : Int); omega))) | decide | (simp only [r_note, up2, Int.toNat_natCast, a_live5, not_true_eq_false, not_false_eq_true, Nat.reduceEqDiff, false_and, true_and, and_true, and_false, and_self, if_true, if_false, ↓reduceIte, reduceCtorEq]; first | (first | assumption | exact hS _ _ | omega | (constructor <;> omega) | (show _ = (1 : Int) ∨ _ = (2 : Int) ∨ _ = (3 : Int); omega)) | (refine ⟨?_, ?_⟩ <;> (first | assumption | exact hS _ _ | omega | (constructor <;> omega) | (show _ = (1 : Int) ∨ _ = (2 : Int) ∨ _ = (3 : Int); omega))) | (refine ⟨?_, ?_, ?_⟩ <;> (first | assumption | exact hS _ _ | omega | (constructor <;> omega) | (show _ = (1 : Int) ∨ _ = (2 : Int) ∨ _ = (3 : Int); omega))) | (refine ⟨?_, ?_, ?_, ?_⟩ <;> (first | assumption | exact hS _ _ | omega | (constructor <;> omega) | (show _ = (1 : Int) ∨ _ = (2 : Int) ∨ _ = (3 : Int); omega))) | (refine ⟨⟨?_, ?_⟩, ?_, ?_⟩ <;> (first | assumption | exact hS _ _ | omega | (constructor <;> omega) | (show _ = (1 : Int) ∨ _ = (2 : Int) ∨ _ = (3 : Int); omega))) | decide))) | (refine And.intro ?_ ?_ <;> (intro hc; (try simp only [r_note, up2, Int.toNat_natCast, a_live5, not_true_eq_false, not_false_eq_true, Nat.reduceEqDiff, false_and, true_and, and_true, and_false, and_self, if_true, if_false, ↓reduceIte, reduceCtorEq] at hc); try (exfalso; first | assumption | omega))) | (refine x_som_i l0 ?_) | (refine x_som_i l1 ?_) | (refine x_som_i l2 ?_) | (refine x_som_i l3 ?_) | (refine x_som_i l4 ?_) | (refine x_som_i l5 ?_) | (refine x_som_i l6 ?_) | (refine x_som_i l7 ?_) | (refine x_som_i l8 ?_) | (refine x_som_i l9 ?_) | (refine a_wo ?sd ?_; case sd => (first | exact hS _ _ | assumption | (constructor <;> omega) | (simp only [r_note, up2, Int.toNat_natCast, a_live5, not_true_eq_false, not_false_eq_true, Nat.reduceEqDiff, false_and, true_and, and_true, and_false, and_self, if_true, if_false, ↓reduceIte, reduceCtorEq]; first | exact hS _ _ | assumption | (constructor <;> omega)))) | (refine st 0 _ _ _ _ _ _ _ rfl ?_) | (refine st 13 _ _ _ _ _ _ _ rfl ?_) | (refine st 14 _ _ _ _ _ _ _ rfl ?_) | (refine st 101 _ _ _ _ _ _ _ rfl ?_) | (refine st 176 _ _ _ _ _ _ _ rfl ?_) | (refine st 198 _ _ _ _ _ _ _ rfl ?_) | (refine st 238 _ _ _ _ _ _ _ rfl ?_) | (refine st 241 _ _ _ _ _ _ _ rfl ?_) | (refine st 247 _ _ _ _ _ _ _ rfl ?_)
  · have es : m_begin M 8 s t = s := m_begin_0 (by rcases hR.2.1.2.2.2.1.1 t ht with q | q | q <;> omega)
    refine fin _ 0 own _ ?_ ?_ ?_ (by omega) (iS_up (iS_up hS st') s0) rfl rfl rfl
    · rw [es]; exact a1
    · rw [es]; exact Int.le_of_eq a2
    · exact fun q hq => funext fun j => by rw [up2_c (by omega), up2_c (by omega)]
  · refine chn 8 t own s (up2 (up2 w 113 0 t) 114 0 0) 0 0 _ a1 ?_ (fun x => rfl) ht h3 ?_ (by rw [a2]; exact hp) (rk8 t) (by have := rk8 t; omega) ?_ ?_ ?_ (iS_up (iS_up hS st') s0) rfl rfl rfl (fun own2 w2 g2 ls2 r1 r2 r3 r4 r5 hS2 k0 k2 k3 => ?_)
    · rw [up2_c (by omega), up2_c (by omega)]; exact h60
    · rw [up2_c (by omega), up2_c (by omega)]; assumption
    · rw [up2_c (by omega), up2_s]
    · rw [up2_s]
    · simp; omega
    · have ub2 := uN_b (m_begin M 8 s t)
      refine fin w2 g2 own2 ls2 r1 (by rw [a2] at r2; exact r2) ?_ (by simp at r5; omega) hS2 k0 (by rw [k2]; rfl) k3
      refine same_t ?_ r3
      intro q hq
      funext j
      rw [up2_c (by omega), up2_c (by omega)]
end
