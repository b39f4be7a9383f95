/-! ArrayList's methods that write: add (with room, first of all, at the array's end), get, remove. -/
theorem x_rfv_i {v : Value} {P : Prop} (h : x_isr v) (p : P) : x_rfv v P := by
  cases v <;> first | exact p | exact h.elim
theorem x_leb_i {a b : Nat} {P : Prop} (h : a ≤ b) (k : P) : x_leb a b P := by
  unfold x_leb
  rw [Nat.ble_eq_true_of_le h]
  exact k
theorem c_max {X : XC} {f : XH} {x y : Int32} : Holds X y_Math_max [.int x, .int y] f 0 0 0 0 (fun r f' => r = some (.int (if x < y then y else x)) ∧ f' = f) := by
  refine x_met ok_Math_max (by simp [x_one]) (Nat.le_of_ble_eq_true rfl) fun go st => ?_
  refine st 0 _ _ _ _ _ _ rfl ?_
  refine And.intro (fun hc => ?_) (fun hc => ?_)
  · refine st 9 _ _ _ _ _ _ rfl ?_
    refine st 10 _ _ _ _ _ _ rfl ?_
    exact And.intro (by rw [if_pos hc]) rfl
  · refine st 10 _ _ _ _ _ _ rfl ?_
    exact And.intro (by rw [if_neg hc]) rfl
theorem c_min {X : XC} {f : XH} {x y : Int32} : Holds X y_Math_min [.int x, .int y] f 0 0 0 0 (fun r f' => r = some (.int (if y < x then y else x)) ∧ f' = f) := by
  refine x_met ok_Math_min (by simp [x_one]) (Nat.le_of_ble_eq_true rfl) fun go st => ?_
  refine st 0 _ _ _ _ _ _ rfl ?_
  refine And.intro (fun hc => ?_) (fun hc => ?_)
  · refine st 9 _ _ _ _ _ _ rfl ?_
    refine st 10 _ _ _ _ _ _ rfl ?_
    exact And.intro (by rw [if_pos hc]) rfl
  · refine st 10 _ _ _ _ _ _ rfl ?_
    exact And.intro (by rw [if_neg hc]) rfl
theorem x_elo_up {f : XH} {q : Nat} {e : Option XE} {v : Value} (hq : f q = none) (h : x_elo f v) : x_elo (va_up f q e) v := by
  rcases h with h | ⟨w, ci, fs, h1, h2, h3⟩
  · exact Or.inl h
  · refine Or.inr ⟨w, ci, fs, h1, ?_, h3⟩
    exact x_u (fun hw => by rw [hw, hq] at h2; cases h2) h2
theorem c_copyOf2 {X : XC} {f : XH} {s0 n0 N : Nat} {g0 : Nat → Value} (hs : f s0 = some (.inr (5, n0, g0))) (h01 : n0 ≤ N) (hN : N ≤ 1000) (hel : ∀ j, j < n0 → x_elo f (g0 j)) :
    Holds X y_Arrays_copyOf2 [.ref s0, .int (nI N), .ref (x_k X 1)] f 1 60 1 N (fun r f' => ∃ (q : Nat) (g : Nat → Value), r = some (.ref q) ∧ f q = none ∧ f' = va_up f q (some (.inr (5, N, g))) ∧ (∀ j, j < n0 → g j = g0 j)) := by
  refine x_met ok_Arrays_copyOf2 (by simp [x_one]) (Nat.le_of_ble_eq_true rfl) fun go st => ?_
  refine st 0 _ _ _ _ _ _ rfl ?_
  refine And.intro (fun h => absurd rfl h) (fun _ => ?_)
  have hcl : (nI N).toNatClampNeg = N := nI_clamp (by omega)
  conv => whnf
  refine ⟨nI_pos (by omega), by rw [hcl]; omega, by decide, by rw [hcl]; omega, fun q hq => ?_⟩
  have hsq : s0 ≠ q := fun z => by rw [z, hq] at hs; cases hs
  rw [hcl]
  refine st 24 _ _ _ _ _ _ rfl ?_
  refine x_a (x_u hsq hs) ?_
  conv => whnf
  refine ⟨_, _, _, _, _, c_min, ?_, ?_⟩
  · exact ⟨by decide, by decide, by omega, by omega⟩
  rintro r f' ⟨rfl, rfl⟩
  have hm : (if nI N < nI n0 then nI N else nI n0) = nI n0 := if_neg (nI_nlt h01 (by omega))
  have hc0 : (nI n0).toNatClampNeg = n0 := nI_clamp (by omega)
  rw [hm]
  refine x_a (x_u hsq hs) ?_
  refine x_a (va_up_self _ _ _) ?_
  refine And.intro ⟨by decide, by decide, nI_pos (by omega), ?_, ?_, ?_⟩ ?_
  · rw [hc0]; exact Nat.le_of_eq (by simp)
  · rw [hc0]; simp; exact h01
  · rw [hc0]
    intro j hj
    simp only [sb_cl0, Nat.zero_add]
    exact x_elo_up hq (hel j hj)
  · refine x_leb_i (by omega) ?_
    refine ⟨q, va_cpy g0 (fun _ => .null) 0 0 n0, rfl, hq, ?_, fun j hj => ?_⟩
    · rw [bx_uu, hc0, sb_cl0]
    · rw [pk_cpy_in (Nat.zero_le _) (by omega)]; simp
theorem c_copyOf {X : XC} {f : XH} {s0 n0 N : Nat} {g0 : Nat → Value} (hs : f s0 = some (.inr (5, n0, g0))) (h01 : n0 ≤ N) (hN : N ≤ 1000) (hel : ∀ j, j < n0 → x_elo f (g0 j)) :
    Holds X y_Arrays_copyOf [.ref s0, .int (nI N)] f 2 83 1 N (fun r f' => ∃ (q : Nat) (g : Nat → Value), r = some (.ref q) ∧ f q = none ∧ f' = va_up f q (some (.inr (5, N, g))) ∧ (∀ j, j < n0 → g j = g0 j)) := by
  refine x_met ok_Arrays_copyOf (by simp [x_one]) (Nat.le_of_ble_eq_true rfl) fun go st => ?_
  refine st 0 _ _ _ _ _ _ rfl ?_
  refine x_a hs ?_
  conv => whnf
  refine ⟨_, _, _, _, _, c_copyOf2 hs h01 hN hel, ?_, ?_⟩
  · exact ⟨by decide, by decide, by omega, by omega⟩
  rintro r f' ⟨q, g, rfl, h1, h2, h3⟩
  refine x_leb_i (by omega) ?_
  exact ⟨q, g, rfl, h1, h2, h3⟩
theorem c_newLength {X : XC} {f : XH} {a b c : Nat} (h1 : 0 < a + max b c) (h2 : a + max b c ≤ 1000) : Holds X y_ArraysSupport_newLength [.int (nI a), .int (nI b), .int (nI c)] f 1 30 0 0 (fun r f' => r = some (.int (nI (a + max b c))) ∧ f' = f) := by
  refine x_met ok_ArraysSupport_newLength (by simp [x_one]) (Nat.le_of_ble_eq_true rfl) fun go st => ?_
  refine st 0 _ _ _ _ _ _ rfl ?_
  conv => whnf
  refine ⟨_, _, _, _, _, c_max, ?_, ?_⟩
  · decide
  rintro r f' ⟨rfl, rfl⟩
  have hm : (if nI b < nI c then nI c else nI b) = nI (max b c) := by
    by_cases hbc : b < c
    · rw [if_pos (nI_lt hbc (by omega)), Nat.max_eq_right (by omega)]
    · rw [if_neg (nI_nlt (by omega) (by omega)), Nat.max_eq_left (by omega)]
  rw [hm]
  have hs : nI a + nI (max b c) = nI (a + max b c) := nI_add _ _
  refine And.intro (fun h => ?_) (fun _ => ?_)
  · rw [hs] at h
    exact absurd h (nI_nle h1 (by omega))
  · refine And.intro (fun h => ?_) (fun _ => ?_)
    · rw [hs] at h
      exact absurd h (show ¬ nI 2147483639 < nI (a + max b c) from nI_nlt (by omega) (by decide))
    · exact And.intro (by rw [hs]) rfl
/-- a list: its object a, its array d, its elements' addresses g, n of them -/
def al_ok (X : XC) (f : XH) (a d n : Nat) (g : Nat → Nat) : Prop := ∃ m : Int32, f a = some (.inl (3, [.int m, .ref d, .int (nI n)])) ∧ ((d = x_k X 0 ∧ n = 0 ∧ ∃ g0, f d = some (.inr (99, 0, g0))) ∨ ∃ (cap : Nat) (G : Nat → Value), f d = some (.inr (5, cap, G)) ∧ n ≤ cap ∧ 10 ≤ cap ∧ cap ≤ 60 ∧ ∀ j, j < n → G j = .ref (g j))
theorem al_ne {X : XC} {f : XH} {a d n : Nat} {g : Nat → Nat} (h : al_ok X f a d n g) : a ≠ d := by
  obtain ⟨m, h1, h | ⟨cap, G, h2, -⟩⟩ := h
  · obtain ⟨-, -, g0, h2⟩ := h
    intro e
    rw [← e, h1] at h2
    cases h2
  · intro e
    rw [← e, h1] at h2
    cases h2
theorem c_AL_size' {X : XC} {f : XH} {a d n : Nat} {g : Nat → Nat} (h : al_ok X f a d n g) : Holds X y_ArrayList_size [.ref a] f 0 0 0 0 (fun r f' => r = some (.int (nI n)) ∧ f' = f) := by
  obtain ⟨m, h1, -⟩ := h
  exact c_AL_size h1
theorem c_AL_elementData {X : XC} {f : XH} {a d cap w : Nat} {m n i : Int32} {G : Nat → Value} (h : f a = some (.inl (3, [.int m, .ref d, .int n]))) (hd : f d = some (.inr (5, cap, G))) (hi : vp_in i cap) (hw : G i.toNatClampNeg = .ref w) : Holds X y_ArrayList_elementData [.ref a, .int i] f 0 0 0 0 (fun r f' => r = some (.ref w) ∧ f' = f) := by
  refine x_met ok_ArrayList_elementData (by simp [x_one]) (Nat.le_of_ble_eq_true rfl) fun go st => ?_
  refine st 0 _ _ _ _ _ _ rfl ?_
  refine x_o h ?_
  refine x_a hd ?_
  refine And.intro hi ?_
  rw [hw]
  exact And.intro rfl rfl
theorem c_AL_get {X : XC} {f : XH} {a d n i : Nat} {g : Nat → Nat} (h : al_ok X f a d n g) (hi : i < n) : Holds X y_ArrayList_get [.ref a, .int (nI i)] f 2 43 0 0 (fun r f' => r = some (.ref (g i)) ∧ f' = f) := by
  obtain ⟨m, h1, ⟨-, hn, -⟩ | ⟨cap, G, hd, hc, h10, h60, hG⟩⟩ := h
  · omega
  refine x_met ok_ArrayList_get (by simp [x_one]) (Nat.le_of_ble_eq_true rfl) fun go st => ?_
  refine st 0 _ _ _ _ _ _ rfl ?_
  refine x_o h1 ?_
  conv => whnf
  refine ⟨_, _, _, _, _, c_checkIndex (nI_pos (by omega)) (nI_lt hi (by omega)), ?_, ?_⟩
  · decide
  rintro r f' ⟨rfl, rfl⟩
  refine x_o h1 ?_
  conv => whnf
  refine ⟨_, _, _, _, _, c_AL_elementData (w := g i) h1 hd (vp_in_nI (by omega) (by omega)) (by rw [nI_clamp (by omega)]; exact hG i hi), ?_, ?_⟩
  · decide
  rintro r f' ⟨rfl, rfl⟩
  exact And.intro rfl rfl
theorem c_AL_grow2_first {X : XC} {f : XH} {a : Nat} {m : Int32} {g0 : Nat → Value} (h : f a = some (.inl (3, [.int m, .ref (x_k X 0), .int (nI 0)]))) (hd : f (x_k X 0) = some (.inr (99, 0, g0))) :
    Holds X y_ArrayList_grow2 [.ref a, .int (nI 1)] f 3 110 1 10 (fun r f' => ∃ q, r = some (.ref q) ∧ f q = none ∧ f' = va_up (va_up f q (some (.inr (5, 10, fun _ => .null)))) a (some (.inl (3, [.int m, .ref q, .int (nI 0)])))) := by
  refine x_met ok_ArrayList_grow2 (by simp [x_one]) (Nat.le_of_ble_eq_true rfl) fun go st => ?_
  refine st 0 _ _ _ _ _ _ rfl ?_
  refine x_o h ?_
  refine x_a hd ?_
  refine And.intro (fun hc => absurd hc (by decide)) (fun _ => ?_)
  refine x_o h ?_
  refine And.intro (fun _ => ?_) (fun hc => absurd rfl hc)
  refine st 45 _ _ _ _ _ _ rfl ?_
  conv => whnf
  refine ⟨_, _, _, _, _, c_max, ?_, ?_⟩
  · decide
  rintro r f' ⟨rfl, rfl⟩
  conv => whnf
  refine ⟨by decide, by decide, by decide, by decide, fun q hq => ?_⟩
  have haq : a ≠ q := fun z => by rw [z, hq] at h; cases h
  refine x_o (x_u haq h) ?_
  exact ⟨q, rfl, hq, rfl⟩
theorem c_AL_grow2 {X : XC} {f : XH} {a d cap : Nat} {m : Int32} {G : Nat → Value} (h : f a = some (.inl (3, [.int m, .ref d, .int (nI cap)]))) (hd : f d = some (.inr (5, cap, G))) (h10 : 10 ≤ cap) (h60 : cap ≤ 60) (hel : ∀ j, j < cap → x_elo f (G j)) :
    Holds X y_ArrayList_grow2 [.ref a, .int (nI (cap + 1))] f 3 110 1 (cap + cap / 2) (fun r f' => ∃ (q : Nat) (G' : Nat → Value), r = some (.ref q) ∧ f q = none ∧ f' = va_up (va_up f q (some (.inr (5, cap + cap / 2, G')))) a (some (.inl (3, [.int m, .ref q, .int (nI cap)]))) ∧ ∀ j, j < cap → G' j = G j) := by
  refine x_met ok_ArrayList_grow2 (by simp [x_one]) (Nat.le_of_ble_eq_true rfl) fun go st => ?_
  refine st 0 _ _ _ _ _ _ rfl ?_
  refine x_o h ?_
  refine x_a hd ?_
  refine And.intro (fun _ => ?_) (fun hc => absurd (show (0 : Int32) < nI cap from nI_lt (a := 0) (by omega) (by omega)) hc)
  refine st 20 _ _ _ _ _ _ rfl ?_
  have e1 : nI (cap + 1) - nI cap = nI 1 := by rw [pk_sub (by omega)]; congr 1; omega
  have e2 : nI cap >>> ((1 : Int32) &&& 31) = nI (cap / 2) := by
    have k := pk_shrN (n := cap) (by omega) ((1 : Int32) &&& 31) 1 (by decide)
    rw [Nat.pow_one] at k
    exact k
  have e3 : max 1 (cap / 2) = cap / 2 := Nat.max_eq_right (by omega)
  conv => whnf
  refine ⟨_, _, _, _, _, (by rw [show nI (cap + 1) - nI cap = nI 1 from e1, show nI cap >>> ((1 : Int32) &&& 31) = nI (cap / 2) from e2]; exact c_newLength (a := cap) (b := 1) (c := cap / 2) (by omega) (by omega)), ?_, ?_⟩
  · exact ⟨by decide, by decide, by omega, by omega⟩
  rintro r f' ⟨rfl, rfl⟩
  rw [e3]
  refine x_o h ?_
  conv => whnf
  refine ⟨_, _, _, _, _, c_copyOf hd (by omega) (by omega) hel, ?_, ?_⟩
  · exact ⟨by decide, by decide, by omega, by omega⟩
  rintro r f' ⟨q, G', rfl, hq, rfl, hG'⟩
  have haq : a ≠ q := fun z => by rw [z, hq] at h; cases h
  refine x_o (x_u haq h) ?_
  refine x_leb_i (by omega) ?_
  exact ⟨q, G', rfl, hq, rfl, hG'⟩
theorem c_AL_grow_first {X : XC} {f : XH} {a : Nat} {m : Int32} {g0 : Nat → Value} (h : f a = some (.inl (3, [.int m, .ref (x_k X 0), .int (nI 0)]))) (hd : f (x_k X 0) = some (.inr (99, 0, g0))) :
    Holds X y_ArrayList_grow [.ref a] f 4 140 1 10 (fun r f' => ∃ q, r = some (.ref q) ∧ f q = none ∧ f' = va_up (va_up f q (some (.inr (5, 10, fun _ => .null)))) a (some (.inl (3, [.int m, .ref q, .int (nI 0)])))) := by
  refine x_met ok_ArrayList_grow (by simp [x_one]) (Nat.le_of_ble_eq_true rfl) fun go st => ?_
  refine st 0 _ _ _ _ _ _ rfl ?_
  refine x_o h ?_
  refine x_o h ?_
  conv => whnf
  refine ⟨_, _, _, _, _, c_AL_grow2_first h hd, ?_, ?_⟩
  · decide
  rintro r f' ⟨q, rfl, hq, rfl⟩
  exact ⟨q, rfl, hq, rfl⟩
theorem c_AL_grow {X : XC} {f : XH} {a d cap : Nat} {m : Int32} {G : Nat → Value} (h : f a = some (.inl (3, [.int m, .ref d, .int (nI cap)]))) (hd : f d = some (.inr (5, cap, G))) (h10 : 10 ≤ cap) (h60 : cap ≤ 60) (hel : ∀ j, j < cap → x_elo f (G j)) :
    Holds X y_ArrayList_grow [.ref a] f 4 140 1 (cap + cap / 2) (fun r f' => ∃ (q : Nat) (G' : Nat → Value), r = some (.ref q) ∧ f q = none ∧ f' = va_up (va_up f q (some (.inr (5, cap + cap / 2, G')))) a (some (.inl (3, [.int m, .ref q, .int (nI cap)]))) ∧ ∀ j, j < cap → G' j = G j) := by
  refine x_met ok_ArrayList_grow (by simp [x_one]) (Nat.le_of_ble_eq_true rfl) fun go st => ?_
  refine st 0 _ _ _ _ _ _ rfl ?_
  refine x_o h ?_
  refine x_o h ?_
  conv => whnf
  refine ⟨_, _, _, _, _, (by rw [show nI cap + 1 = nI (cap + 1) from nI_1 cap]; exact c_AL_grow2 h hd h10 h60 hel), ?_, ?_⟩
  · exact ⟨by decide, by decide, by omega, by omega⟩
  rintro r f' ⟨q, G', rfl, hq, rfl, hG'⟩
  refine x_leb_i (by omega) ?_
  exact ⟨q, G', rfl, hq, rfl, hG'⟩
/-- an element that a list takes -/
def al_el (f : XH) (e : Nat) : Prop := ∃ (ci : Nat) (fs : List Value), f e = some (.inl (ci, fs)) ∧ x_ast.contains (5, ci) = true
theorem x_tru_i {b : Bool} {P : Prop} (h : b = true) (k : P) : x_tru b P := by
  subst h
  exact k
theorem c_AL_add2_room {X : XC} {f : XH} {a d e n cap : Nat} {m : Int32} {G : Nat → Value} (h : f a = some (.inl (3, [.int m, .ref d, .int (nI n)]))) (hd : f d = some (.inr (5, cap, G))) (hn : n < cap) (h60 : cap ≤ 60) (he : al_el f e) (hed : e ≠ d) :
    Holds X y_ArrayList_add2 [.ref a, .ref e, .ref d, .int (nI n)] f 5 170 1 90 (fun r f' => r = none ∧ f' = va_up (va_up f d (some (.inr (5, cap, va_up G n (.ref e))))) a (some (.inl (3, [.int m, .ref d, .int (nI (n + 1))])))) := by
  have had : a ≠ d := fun z => by rw [z, hd] at h; cases h
  obtain ⟨ci, fs, hfe, hci⟩ := he
  refine x_met ok_ArrayList_add2 (by simp [x_one]) (Nat.le_of_ble_eq_true rfl) fun go st => ?_
  refine st 0 _ _ _ _ _ _ rfl ?_
  refine x_a hd ?_
  refine And.intro (fun _ => ?_) (fun hc => absurd ((nI_eq (by omega) (by omega)).mp hc) (by omega))
  refine st 11 _ _ _ _ _ _ rfl ?_
  refine x_a hd ?_
  refine And.intro (vp_in_nI hn (by omega)) ?_
  refine x_o hfe ?_
  refine x_tru_i hci ?_
  refine x_o (x_u had h) ?_
  exact And.intro rfl (by rw [nI_clamp (by omega), show nI n + 1 = nI (n + 1) from nI_1 n]; rfl)
theorem c_AL_add2_first {X : XC} {f : XH} {a e : Nat} {m : Int32} {g0 : Nat → Value} (h : f a = some (.inl (3, [.int m, .ref (x_k X 0), .int (nI 0)]))) (hd : f (x_k X 0) = some (.inr (99, 0, g0))) (he : al_el f e) (hea : e ≠ a) :
    Holds X y_ArrayList_add2 [.ref a, .ref e, .ref (x_k X 0), .int (nI 0)] f 5 170 1 90 (fun r f' => r = none ∧ ∃ q, f q = none ∧ f' = va_up (va_up f q (some (.inr (5, 10, va_up (fun _ => .null) 0 (.ref e))))) a (some (.inl (3, [.int m, .ref q, .int (nI 1)])))) := by
  obtain ⟨ci, fs, hfe, hci⟩ := he
  refine x_met ok_ArrayList_add2 (by simp [x_one]) (Nat.le_of_ble_eq_true rfl) fun go st => ?_
  refine st 0 _ _ _ _ _ _ rfl ?_
  refine x_a hd ?_
  refine And.intro (fun hc => absurd rfl hc) (fun _ => ?_)
  refine x_o h ?_
  conv => whnf
  refine ⟨_, _, _, _, _, c_AL_grow_first h hd, ?_, ?_⟩
  · decide
  rintro r f' ⟨q, rfl, hq, rfl⟩
  have haq : a ≠ q := fun z => by rw [z, hq] at h; cases h
  have heq : e ≠ q := fun z => by rw [z, hq] at hfe; cases hfe
  refine st 11 _ _ _ _ _ _ rfl ?_
  refine x_a (x_u (Ne.symm haq) (va_up_self _ _ _)) ?_
  refine And.intro (vp_in_nI (n := 0) (by decide) (by decide)) ?_
  refine x_o (x_u hea (x_u heq hfe)) ?_
  refine x_tru_i hci ?_
  refine x_o (x_u haq (va_up_self _ _ _)) ?_
  refine And.intro rfl ⟨q, hq, ?_⟩
  funext b
  by_cases hb : b = a
  · subst hb
    rw [va_up_self, va_up_self]; rfl
  · rw [va_up_ne _ _ hb, va_up_ne _ _ hb]
    by_cases hbq : b = q
    · subst hbq
      rw [va_up_self, va_up_self]; rfl
    · rw [va_up_ne _ _ hbq, va_up_ne _ _ hbq, va_up_ne _ _ hb, va_up_ne _ _ hbq]
theorem c_AL_add2_grow {X : XC} {f : XH} {a d e cap : Nat} {m : Int32} {G : Nat → Value} (h : f a = some (.inl (3, [.int m, .ref d, .int (nI cap)]))) (hd : f d = some (.inr (5, cap, G))) (h10 : 10 ≤ cap) (h60 : cap ≤ 60) (hel : ∀ j, j < cap → x_elo f (G j)) (he : al_el f e) (hea : e ≠ a) :
    Holds X y_ArrayList_add2 [.ref a, .ref e, .ref d, .int (nI cap)] f 5 170 1 90 (fun r f' => r = none ∧ ∃ (q : Nat) (G' : Nat → Value), f q = none ∧ f' = va_up (va_up f q (some (.inr (5, cap + cap / 2, va_up G' cap (.ref e))))) a (some (.inl (3, [.int m, .ref q, .int (nI (cap + 1))]))) ∧ ∀ j, j < cap → G' j = G j) := by
  obtain ⟨ci, fs, hfe, hci⟩ := he
  refine x_met ok_ArrayList_add2 (by simp [x_one]) (Nat.le_of_ble_eq_true rfl) fun go st => ?_
  refine st 0 _ _ _ _ _ _ rfl ?_
  refine x_a hd ?_
  refine And.intro (fun hc => absurd rfl hc) (fun _ => ?_)
  refine x_o h ?_
  conv => whnf
  refine ⟨_, _, _, _, _, c_AL_grow h hd h10 h60 hel, ?_, ?_⟩
  · exact ⟨by decide, by decide, by omega, by omega⟩
  rintro r f' ⟨q, G', rfl, hq, rfl, hG'⟩
  have haq : a ≠ q := fun z => by rw [z, hq] at h; cases h
  have heq : e ≠ q := fun z => by rw [z, hq] at hfe; cases hfe
  refine st 11 _ _ _ _ _ _ rfl ?_
  refine x_a (x_u (Ne.symm haq) (va_up_self _ _ _)) ?_
  refine And.intro (vp_in_nI (by omega) (by omega)) ?_
  refine x_o (x_u hea (x_u heq hfe)) ?_
  refine x_tru_i hci ?_
  refine x_o (x_u haq (va_up_self _ _ _)) ?_
  refine x_leb_i (by omega) ?_
  refine And.intro rfl ⟨q, G', hq, ?_, hG'⟩
  funext b
  by_cases hb : b = a
  · subst hb
    rw [va_up_self, va_up_self, show nI cap + 1 = nI (cap + 1) from nI_1 cap]; rfl
  · rw [va_up_ne _ _ hb, va_up_ne _ _ hb]
    by_cases hbq : b = q
    · subst hbq
      rw [va_up_self, va_up_self, nI_clamp (by omega)]
    · rw [va_up_ne _ _ hbq, va_up_ne _ _ hbq, va_up_ne _ _ hb, va_up_ne _ _ hbq]
/-- add(e): the list has one more element; its array is the old one, or a new one; no other cell changes -/
theorem c_AL_add {X : XC} {f : XH} {a d e n : Nat} {g : Nat → Nat} (h : al_ok X f a d n g) (hn : n ≤ 40) (hel : ∀ j, j < n → al_el f (g j) ∧ x_elo f (.ref (g j))) (he : al_el f e) (hea : e ≠ a) (hga : ∀ j, j < n → g j ≠ a) :
    Holds X y_ArrayList_add [.ref a, .ref e] f 6 200 1 90 (fun r f' => r = some (.int 1) ∧ ∃ d', (d' = d ∧ (∃ cap G, f d = some (.inr (5, cap, G))) ∨ f d' = none) ∧ al_ok X f' a d' (n + 1) (va_up g n e) ∧ ∀ b, b ≠ a → b ≠ d' → f' b = f b) := by
  have had := al_ne h
  obtain ⟨m, h1, hcase⟩ := h
  obtain ⟨ci, fs, hfe, hci⟩ := he
  refine x_met ok_ArrayList_add (by simp [x_one]) (Nat.le_of_ble_eq_true rfl) fun go st => ?_
  refine st 0 _ _ _ _ _ _ rfl ?_
  refine x_o h1 ?_
  refine x_o h1 ?_
  refine x_o (va_up_self _ _ _) ?_
  refine x_o (va_up_self _ _ _) ?_
  refine x_o (va_up_self _ _ _) ?_
  have he1 : al_el (va_up f a (some (.inl (3, [.int (m + 1), .ref d, .int (nI n)])))) e := ⟨ci, fs, x_u hea hfe, hci⟩
  conv => whnf
  rcases hcase with ⟨rfl, rfl, g0, hd⟩ | ⟨cap, G, hd, hc, h10, h60, hG⟩
  · refine ⟨_, _, _, _, _, c_AL_add2_first (m := m + 1) (va_up_self _ _ _) (x_u (Ne.symm had) hd) he1 hea, ?_, ?_⟩
    · decide
    rintro r f' ⟨rfl, q, hq, rfl⟩
    have hqa : q ≠ a := fun z => by rw [z, va_up_self] at hq; cases hq
    have hq0 : f q = none := (va_up_ne _ _ hqa).symm.trans hq
    refine And.intro (Or.inr rfl) (And.intro rfl ⟨q, Or.inr hq0, ⟨m + 1, va_up_self _ _ _, Or.inr ⟨10, _, x_u hqa (va_up_self _ _ _), by omega, by omega, by omega, fun j hj => ?_⟩⟩, fun b hb hbq => ?_⟩)
    · have : j = 0 := by omega
      subst this
      rw [va_up_self, va_up_self]
    · rw [va_up_ne _ _ hb, va_up_ne _ _ hbq, va_up_ne _ _ hb]
  · by_cases hlt : n < cap
    · have hed : e ≠ d := fun z => by rw [z, hd] at hfe; cases hfe
      refine ⟨_, _, _, _, _, c_AL_add2_room (m := m + 1) (va_up_self _ _ _) (x_u (Ne.symm had) hd) hlt h60 he1 hed, ?_, ?_⟩
      · decide
      rintro r f' ⟨rfl, rfl⟩
      refine And.intro (Or.inr rfl) (And.intro rfl ⟨d, Or.inl ⟨rfl, cap, G, hd⟩, ⟨m + 1, va_up_self _ _ _, Or.inr ⟨cap, _, x_u (Ne.symm had) (va_up_self _ _ _), by omega, h10, h60, fun j hj => ?_⟩⟩, fun b hb hbd => ?_⟩)
      · by_cases hjn : j = n
        · subst hjn
          rw [va_up_self, va_up_self]
        · rw [va_up_ne _ _ hjn, va_up_ne _ _ hjn]
          exact hG j (by omega)
      · rw [va_up_ne _ _ hb, va_up_ne _ _ hbd, va_up_ne _ _ hb]
    · have hcn : n = cap := by omega
      subst hcn
      refine ⟨_, _, _, _, _, c_AL_add2_grow (m := m + 1) (va_up_self _ _ _) (x_u (Ne.symm had) hd) h10 h60 (fun j hj => ?_) he1 hea, ?_, ?_⟩
      · rw [hG j hj]
        rcases (hel j hj).2 with hz | ⟨w, cj, fj, q1, q2, q3⟩
        · cases hz
        · cases q1
          exact Or.inr ⟨_, cj, fj, rfl, x_u (hga j hj) q2, q3⟩
      · decide
      rintro r f' ⟨rfl, q, G', hq, rfl, hG'⟩
      have hqa : q ≠ a := fun z => by rw [z, va_up_self] at hq; cases hq
      have hq0 : f q = none := (va_up_ne _ _ hqa).symm.trans hq
      refine And.intro (Or.inr rfl) (And.intro rfl ⟨q, Or.inr hq0, ⟨m + 1, va_up_self _ _ _, Or.inr ⟨n + n / 2, _, x_u hqa (va_up_self _ _ _), by omega, by omega, by omega, fun j hj => ?_⟩⟩, fun b hb hbq => ?_⟩)
      · by_cases hjn : j = n
        · subst hjn
          rw [va_up_self, va_up_self]
        · rw [va_up_ne _ _ hjn, va_up_ne _ _ hjn, hG' j (by omega)]
          exact hG j (by omega)
      · rw [va_up_ne _ _ hb, va_up_ne _ _ hbq, va_up_ne _ _ hb]
theorem c_AL_fastRemove {X : XC} {f : XH} {a d n i cap : Nat} {m : Int32} {G : Nat → Value} {g : Nat → Nat} (h : f a = some (.inl (3, [.int m, .ref d, .int (nI n)]))) (hd : f d = some (.inr (5, cap, G))) (hc : n ≤ cap) (h60 : cap ≤ 60) (hG : ∀ j, j < n → G j = .ref (g j)) (hi : i < n) (hel : ∀ j, j < n → x_elo f (.ref (g j))) (hga : ∀ j, j < n → g j ≠ a) :
    Holds X y_ArrayList_fastRemove [.ref a, .ref d, .int (nI i)] f 1 60 0 0 (fun r f' => r = none ∧ ∃ G' : Nat → Value, f' a = some (.inl (3, [.int (m + 1), .ref d, .int (nI (n - 1))])) ∧ f' d = some (.inr (5, cap, G')) ∧ (∀ j, j < n - 1 → G' j = .ref (if j < i then g j else g (j + 1))) ∧ ∀ b, b ≠ a → b ≠ d → f' b = f b) := by
  have had : a ≠ d := fun z => by rw [z, hd] at h; cases h
  have en : nI n - 1 = nI (n - 1) := by
    obtain ⟨k, rfl⟩ : ∃ k, n = k + 1 := ⟨n - 1, by omega⟩
    rw [nI_pred]; rfl
  refine x_met ok_ArrayList_fastRemove (by simp [x_one]) (Nat.le_of_ble_eq_true rfl) fun go st => ?_
  have fin : ∀ (f2 : XH) (G2 : Nat → Value), f2 a = some (.inl (3, [.int (m + 1), .ref d, .int (nI n)])) → f2 d = some (.inr (5, cap, G2)) → (∀ j, j < n - 1 → G2 j = .ref (if j < i then g j else g (j + 1))) → (∀ b, b ≠ a → b ≠ d → f2 b = f b) → go 34 (va_up (x_arg [.ref a, .ref d, .int (nI i)]) 3 (some (.int (nI n - 1)))) [] f2 0 0 := by
    intro f2 G2 k1 k2 k3 k4
    rw [en]
    refine st 34 _ _ _ _ _ _ rfl ?_
    refine x_o k1 ?_
    refine x_a (x_u (Ne.symm had) k2) ?_
    refine And.intro (vp_in_nI (by omega) (by omega)) ?_
    refine And.intro rfl ⟨_, x_u had (va_up_self _ _ _), va_up_self _ _ _, fun j hj => ?_, fun b hb hbd => ?_⟩
    · rw [nI_clamp (by omega), va_up_ne _ _ (by omega)]
      exact k3 j hj
    · rw [va_up_ne _ _ hbd, va_up_ne _ _ hb]
      exact k4 b hb hbd
  refine st 0 _ _ _ _ _ _ rfl ?_
  refine x_o h ?_
  refine x_o h ?_
  refine x_o (va_up_self _ _ _) ?_
  refine And.intro (fun hc1 => ?_) (fun hc1 => ?_)
  · have hc1 : nI n - 1 ≤ nI i := hc1
    rw [en] at hc1
    have hni : n - 1 ≤ i := (nI_leI (by omega) (by omega)).mp hc1
    refine fin _ G (va_up_self _ _ _) (x_u (Ne.symm had) hd) (fun j hj => ?_) (fun b hb hbd => va_up_ne _ _ hb)
    rw [if_pos (by omega)]
    exact hG j (by omega)
  · have hc1 : ¬ nI n - 1 ≤ nI i := hc1
    rw [en] at hc1
    have hni : ¬ n - 1 ≤ i := fun z => hc1 ((nI_leI (by omega) (by omega)).mpr z)
    have e1 : nI i + 1 = nI (i + 1) := nI_1 i
    have e2 : nI n - 1 - nI i = nI (n - 1 - i) := by rw [en, pk_sub (by omega)]
    have c1 : (nI i + 1 : Int32).toNatClampNeg = i + 1 := by rw [e1, nI_clamp (by omega)]
    have c2 : (nI n - 1 - nI i : Int32).toNatClampNeg = n - 1 - i := by rw [e2, nI_clamp (by omega)]
    have c3 : (nI i).toNatClampNeg = i := nI_clamp (by omega)
    refine x_a (x_u (Ne.symm had) hd) ?_
    refine x_a (x_u (Ne.symm had) hd) ?_
    refine And.intro ⟨?_, nI_pos (by omega), ?_, ?_, ?_, ?_⟩ ?_
    · show ¬ (nI i + 1 : Int32) < 0
      rw [e1]; exact nI_pos (by omega)
    · show ¬ (nI n - 1 - nI i : Int32) < 0
      rw [e2]; exact nI_pos (by omega)
    · show (nI i + 1 : Int32).toNatClampNeg + (nI n - 1 - nI i : Int32).toNatClampNeg ≤ cap
      rw [c1, c2]; omega
    · show (nI i).toNatClampNeg + (nI n - 1 - nI i : Int32).toNatClampNeg ≤ cap
      rw [c3, c2]; omega
    · intro j hj
      have hj : j < (nI n - 1 - nI i : Int32).toNatClampNeg := hj
      rw [c2] at hj
      show x_elo _ (G ((nI i + 1 : Int32).toNatClampNeg + j))
      rw [c1, hG _ (by omega)]
      rcases hel (i + 1 + j) (by omega) with hz | ⟨w, cj, fj, q1, q2, q3⟩
      · cases hz
      · cases q1
        exact Or.inr ⟨_, cj, fj, rfl, x_u (hga _ (by omega)) q2, q3⟩
    · refine fin _ _ (x_u had (va_up_self _ _ _)) (va_up_self _ _ _) (fun j hj => ?_) (fun b hb hbd => ?_)
      · show va_cpy G G (nI i + 1 : Int32).toNatClampNeg (nI i).toNatClampNeg (nI n - 1 - nI i : Int32).toNatClampNeg j = _
        rw [c1, c2, c3]
        by_cases hji : j < i
        · rw [pk_cpy_out (Or.inl hji), if_pos hji]
          exact hG j (by omega)
        · rw [pk_cpy_in (by omega) (by omega), if_neg hji, show i + 1 + (j - i) = j + 1 by omega]
          exact hG (j + 1) (by omega)
      · rw [va_up_ne _ _ hbd, va_up_ne _ _ hb]
theorem c_AL_remove {X : XC} {f : XH} {a d n i : Nat} {g : Nat → Nat} (h : al_ok X f a d n g) (hi : i < n) (hel : ∀ j, j < n → x_elo f (.ref (g j))) (hga : ∀ j, j < n → g j ≠ a) :
    Holds X y_ArrayList_remove [.ref a, .int (nI i)] f 2 100 0 0 (fun r f' => r = some (.ref (g i)) ∧ al_ok X f' a d (n - 1) (fun j => if j < i then g j else g (j + 1)) ∧ ∀ b, b ≠ a → b ≠ d → f' b = f b) := by
  obtain ⟨m, h1, ⟨-, hn, -⟩ | ⟨cap, G, hd, hc, h10, h60, hG⟩⟩ := h
  · omega
  refine x_met ok_ArrayList_remove (by simp [x_one]) (Nat.le_of_ble_eq_true rfl) fun go st => ?_
  refine st 0 _ _ _ _ _ _ rfl ?_
  refine x_o h1 ?_
  conv => whnf
  refine ⟨_, _, _, _, _, c_checkIndex (nI_pos (by omega)) (nI_lt hi (by omega)), ?_, ?_⟩
  · decide
  rintro r f' ⟨rfl, rfl⟩
  refine x_o h1 ?_
  refine x_a hd ?_
  refine And.intro (vp_in_nI (by omega) (by omega)) ?_
  rw [show G (nI i).toNatClampNeg = .ref (g i) by rw [nI_clamp (by omega)]; exact hG i hi]
  refine x_o h1 ?_
  conv => whnf
  refine ⟨_, _, _, _, _, c_AL_fastRemove h1 hd hc h60 hG hi hel hga, ?_, ?_⟩
  · decide
  rintro r f' ⟨rfl, G', k1, k2, k3, k4⟩
  exact And.intro rfl ⟨⟨_, k1, Or.inr ⟨cap, G', k2, by omega, h10, h60, k3⟩⟩, k4⟩
theorem c_AbstractCollection_init {X : XC} {f : XH} {a : Nat} : Holds X y_AbstractCollection_init [.ref a] f 1 20 0 0 (fun r f' => r = none ∧ f' = f) := by
  refine x_met ok_AbstractCollection_init (by simp [x_one]) (Nat.le_of_ble_eq_true rfl) fun go st => ?_
  refine st 0 _ _ _ _ _ _ rfl ?_
  exact And.intro rfl rfl
theorem c_AbstractList_init {X : XC} {f : XH} {a : Nat} {v : Int32} {x y : Value} (h : f a = some (.inl (3, [.int v, x, y]))) : Holds X y_AbstractList_init [.ref a] f 2 40 0 0 (fun r f' => r = none ∧ f' = va_up f a (some (.inl (3, [.int 0, x, y])))) := by
  refine x_met ok_AbstractList_init (by simp [x_one]) (Nat.le_of_ble_eq_true rfl) fun go st => ?_
  refine st 0 _ _ _ _ _ _ rfl ?_
  conv => whnf
  refine ⟨_, _, _, _, _, c_AbstractCollection_init, ?_, ?_⟩
  · decide
  rintro r f' ⟨rfl, rfl⟩
  refine x_o h ?_
  exact And.intro rfl rfl
theorem c_AL_init {X : XC} {f : XH} {a : Nat} (h : f a = some (.inl (3, [.int 0, .null, .int 0]))) : Holds X y_ArrayList_init [.ref a] f 3 60 0 0 (fun r f' => r = none ∧ f' = va_up f a (some (.inl (3, [.int 0, .ref (x_k X 0), .int (nI 0)])))) := by
  refine x_met ok_ArrayList_init (by simp [x_one]) (Nat.le_of_ble_eq_true rfl) fun go st => ?_
  refine st 0 _ _ _ _ _ _ rfl ?_
  conv => whnf
  refine ⟨_, _, _, _, _, c_AbstractList_init h, ?_, ?_⟩
  · decide
  rintro r f' ⟨rfl, rfl⟩
  refine x_o (va_up_self _ _ _) ?_
  exact And.intro rfl (by rw [bx_uu]; rfl)
