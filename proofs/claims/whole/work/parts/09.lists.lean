/-! ArrayList's methods that write: add (with room, first of all, at the array's end), get, remove. -/
theorem x_rfv_i {v : Value} {P : Prop} (h : x_isr v) (p : P) : x_rfv v P := by
  cases v <;> first | exact p | exact h.elim
theorem x_leb_i {a b : Nat} {P : Prop} (h : a ≤ b) (k : P) : x_leb a b P := by
  unfold x_leb
  rw [Nat.ble_eq_true_of_le h]
  exact k
theorem c_max {X : XC} {f : XH} {x y : Int32} : Holds X y_Math_max [.int x, .int y] f 0 0 0 0 (fun r f' => r = some (.int (if x < y then y else x)) ∧ f' = f) := by
  refine x_met ok_Math_max (by simp [x_one]) (Nat.le_of_ble_eq_true rfl) fun go st => ?_
  refine st 0 _ _ _ _ _ _ rfl ?_
  refine And.intro (fun hc => ?_) (fun hc => ?_)
  · refine st 9 _ _ _ _ _ _ rfl ?_
    refine st 10 _ _ _ _ _ _ rfl ?_
    exact And.intro (by rw [if_pos hc]) rfl
  · refine st 10 _ _ _ _ _ _ rfl ?_
    exact And.intro (by rw [if_neg hc]) rfl
theorem c_min {X : XC} {f : XH} {x y : Int32} : Holds X y_Math_min [.int x, .int y] f 0 0 0 0 (fun r f' => r = some (.int (if y < x then y else x)) ∧ f' = f) := by
  refine x_met ok_Math_min (by simp [x_one]) (Nat.le_of_ble_eq_true rfl) fun go st => ?_
  refine st 0 _ _ _ _ _ _ rfl ?_
  refine And.intro (fun hc => ?_) (fun hc => ?_)
  · refine st 9 _ _ _ _ _ _ rfl ?_
    refine st 10 _ _ _ _ _ _ rfl ?_
    exact And.intro (by rw [if_pos hc]) rfl
  · refine st 10 _ _ _ _ _ _ rfl ?_
    exact And.intro (by rw [if_neg hc]) rfl
theorem x_elo_up {f : XH} {q : Nat} {e : Option XE} {v : Value} (hq : f q = none) (h : x_elo f v) : x_elo (va_up f q e) v := by
  rcases h with h | ⟨w, ci, fs, h1, h2, h3⟩
  · exact Or.inl h
  · refine Or.inr ⟨w, ci, fs, h1, ?_, h3⟩
    exact x_u (fun hw => by rw [hw, hq] at h2; cases h2) h2
theorem c_copyOf2 {X : XC} {f : XH} {s0 n0 N : Nat} {g0 : Nat → Value} (hs : f s0 = some (.inr (5, n0, g0))) (h01 : n0 ≤ N) (hN : N ≤ 1000) (hel : ∀ j, j < n0 → x_elo f (g0 j)) :
    Holds X y_Arrays_copyOf2 [.ref s0, .int (nI N), .ref (x_k X 1)] f 1 60 1 N (fun r f' => ∃ (q : Nat) (g : Nat → Value), r = some (.ref q) ∧ f q = none ∧ f' = va_up f q (some (.inr (5, N, g))) ∧ (∀ j, j < n0 → g j = g0 j)) := by
  refine x_met ok_Arrays_copyOf2 (by simp [x_one]) (Nat.le_of_ble_eq_true rfl) fun go st => ?_
  refine st 0 _ _ _ _ _ _ rfl ?_
  refine And.intro (fun h => absurd rfl h) (fun _ => ?_)
  have hcl : (nI N).toNatClampNeg = N := nI_clamp (by omega)
  conv => whnf
  refine ⟨nI_pos (by omega), by rw [hcl]; omega, by decide, by rw [hcl]; omega, fun q hq => ?_⟩
  have hsq : s0 ≠ q := fun z => by rw [z, hq] at hs; cases hs
  rw [hcl]
  refine st 24 _ _ _ _ _ _ rfl ?_
  refine x_a (x_u hsq hs) ?_
  conv => whnf
  refine ⟨_, _, _, _, _, c_min, ?_, ?_⟩
  · exact ⟨by decide, by decide, by omega, by omega⟩
  rintro r f' ⟨rfl, rfl⟩
  have hm : (if nI N < nI n0 then nI N else nI n0) = nI n0 := if_neg (nI_nlt h01 (by omega))
  have hc0 : (nI n0).toNatClampNeg = n0 := nI_clamp (by omega)
  rw [hm]
  refine x_a (x_u hsq hs) ?_
  refine x_a (va_up_self _ _ _) ?_
  refine And.intro ⟨by decide, by decide, nI_pos (by omega), ?_, ?_, ?_⟩ ?_
  · rw [hc0]; exact Nat.le_of_eq (by simp)
  · rw [hc0]; simp; exact h01
  · rw [hc0]
    intro j hj
    simp only [sb_cl0, Nat.zero_add]
    exact x_elo_up hq (hel j hj)
  · refine x_leb_i (by omega) ?_
    refine ⟨q, va_cpy g0 (fun _ => .null) 0 0 n0, rfl, hq, ?_, fun j hj => ?_⟩
    · rw [bx_uu, hc0, sb_cl0]
    · rw [pk_cpy_in (Nat.zero_le _) (by omega)]; simp
theorem c_copyOf {X : XC} {f : XH} {s0 n0 N : Nat} {g0 : Nat → Value} (hs : f s0 = some (.inr (5, n0, g0))) (h01 : n0 ≤ N) (hN : N ≤ 1000) (hel : ∀ j, j < n0 → x_elo f (g0 j)) :
    Holds X y_Arrays_copyOf [.ref s0, .int (nI N)] f 2 83 1 N (fun r f' => ∃ (q : Nat) (g : Nat → Value), r = some (.ref q) ∧ f q = none ∧ f' = va_up f q (some (.inr (5, N, g))) ∧ (∀ j, j < n0 → g j = g0 j)) := by
  refine x_met ok_Arrays_copyOf (by simp [x_one]) (Nat.le_of_ble_eq_true rfl) fun go st => ?_
  refine st 0 _ _ _ _ _ _ rfl ?_
  refine x_a hs ?_
  conv => whnf
  refine ⟨_, _, _, _, _, c_copyOf2 hs h01 hN hel, ?_, ?_⟩
  · exact ⟨by decide, by decide, by omega, by omega⟩
  rintro r f' ⟨q, g, rfl, h1, h2, h3⟩
  refine x_leb_i (by omega) ?_
  exact ⟨q, g, rfl, h1, h2, h3⟩
theorem c_newLength {X : XC} {f : XH} {a b c : Nat} (h1 : 0 < a + max b c) (h2 : a + max b c ≤ 1000) : Holds X y_ArraysSupport_newLength [.int (nI a), .int (nI b), .int (nI c)] f 1 30 0 0 (fun r f' => r = some (.int (nI (a + max b c))) ∧ f' = f) := by
  refine x_met ok_ArraysSupport_newLength (by simp [x_one]) (Nat.le_of_ble_eq_true rfl) fun go st => ?_
  refine st 0 _ _ _ _ _ _ rfl ?_
  conv => whnf
  refine ⟨_, _, _, _, _, c_max, ?_, ?_⟩
  · decide
  rintro r f' ⟨rfl, rfl⟩
  have hm : (if nI b < nI c then nI c else nI b) = nI (max b c) := by
    by_cases hbc : b < c
    · rw [if_pos (nI_lt hbc (by omega)), Nat.max_eq_right (by omega)]
    · rw [if_neg (nI_nlt (by omega) (by omega)), Nat.max_eq_left (by omega)]
  rw [hm]
  have hs : nI a + nI (max b c) = nI (a + max b c) := nI_add _ _
  refine And.intro (fun h => ?_) (fun _ => ?_)
  · rw [hs] at h
    exact absurd h (nI_nle h1 (by omega))
  · refine And.intro (fun h => ?_) (fun _ => ?_)
    · rw [hs] at h
      exact absurd h (show ¬ nI 2147483639 < nI (a + max b c) from nI_nlt (by omega) (by decide))
    · exact And.intro (by rw [hs]) rfl
/-- a list: its object a, its array d, its elements' addresses g, n of them -/
def al_ok (X : XC) (f : XH) (a d n : Nat) (g : Nat → Nat) : Prop := ∃ m : Int32, f a = some (.inl (3, [.int m, .ref d, .int (nI n)])) ∧ ((d = x_k X 0 ∧ n = 0 ∧ ∃ g0, f d = some (.inr (99, 0, g0))) ∨ ∃ (cap : Nat) (G : Nat → Value), f d = some (.inr (5, cap, G)) ∧ n ≤ cap ∧ 10 ≤ cap ∧ cap ≤ 60 ∧ ∀ j, j < n → G j = .ref (g j))
theorem al_ne {X : XC} {f : XH} {a d n : Nat} {g : Nat → Nat} (h : al_ok X f a d n g) : a ≠ d := by
  obtain ⟨m, h1, h | ⟨cap, G, h2, -⟩⟩ := h
  · obtain ⟨-, -, g0, h2⟩ := h
    intro e
    rw [← e, h1] at h2
    cases h2
  · intro e
    rw [← e, h1] at h2
    cases h2
theorem c_AL_size' {X : XC} {f : XH} {a d n : Nat} {g : Nat → Nat} (h : al_ok X f a d n g) : Holds X y_ArrayList_size [.ref a] f 0 0 0 0 (fun r f' => r = some (.int (nI n)) ∧ f' = f) := by
  obtain ⟨m, h1, -⟩ := h
  exact c_AL_size h1
theorem c_AL_elementData {X : XC} {f : XH} {a d cap w : Nat} {m n i : Int32} {G : Nat → Value} (h : f a = some (.inl (3, [.int m, .ref d, .int n]))) (hd : f d = some (.inr (5, cap, G))) (hi : vp_in i cap) (hw : G i.toNatClampNeg = .ref w) : Holds X y_ArrayList_elementData [.ref a, .int i] f 0 0 0 0 (fun r f' => r = some (.ref w) ∧ f' = f) := by
  refine x_met ok_ArrayList_elementData (by simp [x_one]) (Nat.le_of_ble_eq_true rfl) fun go st => ?_
  refine st 0 _ _ _ _ _ _ rfl ?_
  refine x_o h ?_
  refine x_a hd ?_
  refine And.intro hi ?_
  rw [hw]
  exact And.intro rfl rfl
theorem c_AL_get {X : XC} {f : XH} {a d n i : Nat} {g : Nat → Nat} (h : al_ok X f a d n g) (hi : i < n) : Holds X y_ArrayList_get [.ref a, .int (nI i)] f 2 43 0 0 (fun r f' => r = some (.ref (g i)) ∧ f' = f) := by
  obtain ⟨m, h1, ⟨-, hn, -⟩ | ⟨cap, G, hd, hc, h10, h60, hG⟩⟩ := h
  · omega
  refine x_met ok_ArrayList_get (by simp [x_one]) (Nat.le_of_ble_eq_true rfl) fun go st => ?_
  refine st 0 _ _ _ _ _ _ rfl ?_
  refine x_o h1 ?_
  conv => whnf
  refine ⟨_, _, _, _, _, c_checkIndex (nI_pos (by omega)) (nI_lt hi (by omega)), ?_, ?_⟩
  · decide
  rintro r f' ⟨rfl, rfl⟩
  refine x_o h1 ?_
  conv => whnf
  refine ⟨_, _, _, _, _, c_AL_elementData (w := g i) h1 hd (vp_in_nI (by omega) (by omega)) (by rw [nI_clamp (by omega)]; exact hG i hi), ?_, ?_⟩
  · decide
  rintro r f' ⟨rfl, rfl⟩
  exact And.intro rfl rfl
theorem c_AL_grow2_first {X : XC} {f : XH} {a : Nat} {m : Int32} {g0 : Nat → Value} (h : f a = some (.inl (3, [.int m, .ref (x_k X 0), .int (nI 0)]))) (hd : f (x_k X 0) = some (.inr (99, 0, g0))) :
    Holds X y_ArrayList_grow2 [.ref a, .int (nI 1)] f 3 110 1 10 (fun r f' => ∃ q, r = some (.ref q) ∧ f q = none ∧ f' = va_up (va_up f q (some (.inr (5, 10, fun _ => .null)))) a (some (.inl (3, [.int m, .ref q, .int (nI 0)])))) := by
  refine x_met ok_ArrayList_grow2 (by simp [x_one]) (Nat.le_of_ble_eq_true rfl) fun go st => ?_
  refine st 0 _ _ _ _ _ _ rfl ?_
  refine x_o h ?_
  refine x_a hd ?_
  refine And.intro (fun hc => absurd hc (by decide)) (fun _ => ?_)
  refine x_o h ?_
  refine And.intro (fun _ => ?_) (fun hc => absurd rfl hc)
  refine st 45 _ _ _ _ _ _ rfl ?_
  conv => whnf
  refine ⟨_, _, _, _, _, c_max, ?_, ?_⟩
  · decide
  rintro r f' ⟨rfl, rfl⟩
  conv => whnf
  refine ⟨by decide, by decide, by decide, by decide, fun q hq => ?_⟩
  have haq : a ≠ q := fun z => by rw [z, hq] at h; cases h
  refine x_o (x_u haq h) ?_
  exact ⟨q, rfl, hq, rfl⟩
theorem c_AL_grow2 {X : XC} {f : XH} {a d cap : Nat} {m : Int32} {G : Nat → Value} (h : f a = some (.inl (3, [.int m, .ref d, .int (nI cap)]))) (hd : f d = some (.inr (5, cap, G))) (h10 : 10 ≤ cap) (h60 : cap ≤ 60) (hel : ∀ j, j < cap → x_elo f (G j)) :
    Holds X y_ArrayList_grow2 [.ref a, .int (nI (cap + 1))] f 3 110 1 (cap + cap / 2) (fun r f' => ∃ (q : Nat) (G' : Nat → Value), r = some (.ref q) ∧ f q = none ∧ f' = va_up (va_up f q (some (.inr (5, cap + cap / 2, G')))) a (some (.inl (3, [.int m, .ref q, .int (nI cap)]))) ∧ ∀ j, j < cap → G' j = G j) := by
  refine x_met ok_ArrayList_grow2 (by simp [x_one]) (Nat.le_of_ble_eq_true rfl) fun go st => ?_
  refine st 0 _ _ _ _ _ _ rfl ?_
  refine x_o h ?_
  refine x_a hd ?_
  refine And.intro (fun _ => ?_) (fun hc => absurd (show (0 : Int32) < nI cap from nI_lt (a := 0) (by omega) (by omega)) hc)
  refine st 20 _ _ _ _ _ _ rfl ?_
  have e1 : nI (cap + 1) - nI cap = nI 1 := by rw [pk_sub (by omega)]; congr 1; omega
  have e2 : nI cap >>> ((1 : Int32) &&& 31) = nI (cap / 2) := by
    have k := pk_shrN (n := cap) (by omega) ((1 : Int32) &&& 31) 1 (by decide)
    rw [Nat.pow_one] at k
    exact k
  have e3 : max 1 (cap / 2) = cap / 2 := Nat.max_eq_right (by omega)
  conv => whnf
  refine ⟨_, _, _, _, _, (by rw [show nI (cap + 1) - nI cap = nI 1 from e1, show nI cap >>> ((1 : Int32) &&& 31) = nI (cap / 2) from e2]; exact c_newLength (a := cap) (b := 1) (c := cap / 2) (by omega) (by omega)), ?_, ?_⟩
  · exact ⟨by decide, by decide, by omega, by omega⟩
  rintro r f' ⟨rfl, rfl⟩
  rw [e3]
  refine x_o h ?_
  conv => whnf
  refine ⟨_, _, _, _, _, c_copyOf hd (by omega) (by omega) hel, ?_, ?_⟩
  · exact ⟨by decide, by decide, by omega, by omega⟩
  rintro r f' ⟨q, G', rfl, hq, rfl, hG'⟩
  have haq : a ≠ q := fun z => by rw [z, hq] at h; cases h
  refine x_o (x_u haq h) ?_
  refine x_leb_i (by omega) ?_
  exact ⟨q, G', rfl, hq, rfl, hG'⟩
