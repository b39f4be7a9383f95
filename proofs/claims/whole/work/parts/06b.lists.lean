/-! How a proof over the executor goes on; ArrayList's methods. -/
theorem x_o {e : Option XE} {ci : Nat} {fs : List Value} {K : Nat → List Value → Prop} (h : e = some (.inl (ci, fs))) (k : K ci fs) : ∃ (ci : Nat) (fs : List Value), e = some (.inl (ci, fs)) ∧ K ci fs := ⟨ci, fs, h, k⟩
theorem x_a {e : Option XE} {ti n : Nat} {g : Nat → Value} {K : Nat → Nat → (Nat → Value) → Prop} (h : e = some (.inr (ti, n, g))) (k : K ti n g) : ∃ (ti n : Nat) (g : Nat → Value), e = some (.inr (ti, n, g)) ∧ K ti n g := ⟨ti, n, g, h, k⟩
theorem x_u {f : XH} {a b : Nat} {e : Option XE} {e' : Option XE} (hne : a ≠ b) (h : f a = e) : va_up f b e' a = e := (va_up_ne f e' hne).trans h
theorem c_AL_size {X : XC} {a : Nat} {f : XH} {m n : Int32} {d : Value} (h : f a = some (.inl (3, [.int m, d, .int n]))) : Holds X y_ArrayList_size [.ref a] f 0 0 0 0 (fun r f' => r = some (.int n) ∧ f' = f) := by
  refine x_met ok_ArrayList_size (by simp [x_one]) (Nat.le_of_ble_eq_true rfl) fun go st => ?_
  refine st 0 _ _ _ _ _ _ rfl ?_
  refine x_o h ?_
  exact And.intro rfl rfl
theorem c_AL_isEmpty {X : XC} {a : Nat} {f : XH} {m n : Int32} {d : Value} (h : f a = some (.inl (3, [.int m, d, .int n]))) : Holds X y_ArrayList_isEmpty [.ref a] f 0 0 0 0 (fun r f' => r = some (.int (if n = 0 then 1 else 0)) ∧ f' = f) := by
  refine x_met ok_ArrayList_isEmpty (by simp [x_one]) (Nat.le_of_ble_eq_true rfl) fun go st => ?_
  refine st 0 _ _ _ _ _ _ rfl ?_
  refine x_o h ?_
  refine And.intro (fun hc => ?_) (fun hc => ?_)
  · refine st 11 _ _ _ _ _ _ rfl ?_
    refine st 12 _ _ _ _ _ _ rfl ?_
    exact And.intro (Or.inl rfl) ⟨by rw [if_neg hc], rfl⟩
  · refine st 12 _ _ _ _ _ _ rfl ?_
    exact And.intro (Or.inr rfl) ⟨by rw [if_pos hc], rfl⟩
theorem c_checkIndex0 {X : XC} {f : XH} {i n : Int32} (h0 : ¬ i < 0) (h1 : i < n) : Holds X y_Preconditions_checkIndex [.int i, .int n, .null] f 0 0 0 0 (fun r f' => r = some (.int i) ∧ f' = f) := by
  refine x_met ok_Preconditions_checkIndex (by simp [x_one]) (Nat.le_of_ble_eq_true rfl) fun go st => ?_
  refine st 0 _ _ _ _ _ _ rfl ?_
  refine And.intro (fun hc => absurd hc h0) (fun _ => ?_)
  refine And.intro (fun _ => ?_) (fun hc => absurd h1 hc)
  refine st 16 _ _ _ _ _ _ rfl ?_
  exact And.intro rfl rfl
theorem c_checkIndex {X : XC} {f : XH} {i n : Int32} (h0 : ¬ i < 0) (h1 : i < n) : Holds X y_Objects_checkIndex [.int i, .int n] f 1 22 0 0 (fun r f' => r = some (.int i) ∧ f' = f) := by
  refine x_met ok_Objects_checkIndex (by simp [x_one]) (Nat.le_of_ble_eq_true rfl) fun go st => ?_
  refine st 0 _ _ _ _ _ _ rfl ?_
  conv => whnf
  refine ⟨_, _, _, _, _, c_checkIndex0 h0 h1, ?_, ?_⟩
  · decide
  rintro r f' ⟨rfl, rfl⟩
  exact And.intro rfl rfl
