/-! Numbers of the picture; the class's leaves: Journal, Clock, ExceptionTypes. -/
theorem iI_add (a b : Int) : iI a + iI b = iI (a + b) := (Int32.ofInt_add a b).symm
theorem iI_mul (a b : Int) : iI a * iI b = iI (a * b) := (Int32.ofInt_mul a b).symm
theorem iI_sub (a b : Int) : iI a - iI b = iI (a - b) := (Int32.ofInt_sub a b).symm
theorem iI_n (n : Nat) : iI n = nI n := Int32.ofInt_eq_ofNat
theorem iI_t {z : Int} (h1 : -2 ^ 31 ≤ z) (h2 : z < 2 ^ 31) : (iI z).toInt = z := Int32.toInt_ofInt_of_le h1 h2
theorem iI_nat {z : Int} (h : 0 ≤ z) : iI z = nI z.toNat := by
  obtain ⟨n, rfl⟩ := Int.eq_ofNat_of_zero_le h
  exact iI_n n
/-- small: the comparisons are those of the integers -/
def iS (z : Int) : Prop := -2 ^ 31 ≤ z ∧ z < 2 ^ 31
theorem iI_lt {a b : Int} (ha : iS a) (hb : iS b) : iI a < iI b ↔ a < b := by rw [Int32.lt_iff_toInt_lt, iI_t ha.1 ha.2, iI_t hb.1 hb.2]
theorem iI_le {a b : Int} (ha : iS a) (hb : iS b) : iI a ≤ iI b ↔ a ≤ b := by rw [Int32.le_iff_toInt_le, iI_t ha.1 ha.2, iI_t hb.1 hb.2]
theorem iI_eq {a b : Int} (ha : iS a) (hb : iS b) : iI a = iI b ↔ a = b := ⟨fun h => by rw [← iI_t ha.1 ha.2, h, iI_t hb.1 hb.2], fun h => by rw [h]⟩
theorem iI_in {z : Int} {n : Nat} (h0 : 0 ≤ z) (h1 : z < n) (hn : n < 2 ^ 31) : vp_in (iI z) n := by rw [iI_nat h0]; exact vp_in_nI (by omega) hn
theorem iI_cl {z : Int} (h0 : 0 ≤ z) (h1 : z < 2 ^ 31) : (iI z).toNatClampNeg = z.toNat := by rw [iI_nat h0]; exact nI_clamp (by omega)
theorem iI_of (x : Int32) : x = iI x.toInt := by
  apply Int32.toInt_inj.mp
  rw [iI_t x.le_toInt x.toInt_lt]
/-- an array of the picture, one place written -/
theorem ar_up {v : Nat → Nat → Int} {c i : Nat} {x : Int} : va_up (fun j => Value.int (iI (v c j))) i (.int (iI x)) = fun j => .int (iI (up2 v c i x c j)) := by
  funext j
  by_cases h : j = i
  · subst h
    rw [va_up_self, up2_s]
  · rw [va_up_ne _ _ h, up2_i h]
/-- what isn't the picture's stays -/
def FR (A : Nat → Nat → Nat) (DA : Nat → Nat) (f f' : XH) : Prop := ∀ b, (∀ k i, b ≠ A k i) → (∀ l, b ≠ DA l) → f b ≠ none → f' b = f b
theorem FR.rf {A : Nat → Nat → Nat} {DA : Nat → Nat} {f : XH} : FR A DA f f := fun _ _ _ _ => rfl
theorem FR.up {A : Nat → Nat → Nat} {DA : Nat → Nat} {f f' : XH} (k i : Nat) {e : Option XE} (h : FR A DA f f') : FR A DA f (va_up f' (A k i) e) :=
  fun b h1 h2 h3 => (va_up_ne _ _ (h1 k i)).trans (h b h1 h2 h3)
theorem FR.tr {A : Nat → Nat → Nat} {DA : Nat → Nat} {f f1 f2 : XH} (h : FR A DA f f1) (h' : FR A DA f1 f2) : FR A DA f f2 :=
  fun b h1 h2 h3 => (h' b h1 h2 (by rw [h b h1 h2 h3]; exact h3)).trans (h b h1 h2 h3)
theorem PC.c {X : XC} {f : XH} {A : Nat → Nat → Nat} {DA : Nat → Nat} {v : Nat → Nat → Int} {L : Nat → List Nat} (h : PC X f A DA v L) (k i : Nat) {e : XE} (he : cc_cell A v L k i = some e) : f (A k i) = some e := h.1 k i e he
theorem PC.ne {X : XC} {f : XH} {A : Nat → Nat → Nat} {DA : Nat → Nat} {v : Nat → Nat → Int} {L : Nat → List Nat} (h : PC X f A DA v L) {k i k' i' : Nat} (h1 : cc_live v L k i) (h2 : cc_live v L k' i') (hn : ¬ (k = k' ∧ i = i')) : A k i ≠ A k' i' := fun z => hn (h.2.2.1 k i k' i' h1 h2 z)
def m_note (v : Nat → Nat → Int) (k w i : Int) : Nat → Nat → Int := up2 (up2 v 6 ((v 4 0).toNat % 64) (k + 16 * w + 256 * i)) 4 0 (v 4 0 + 1)
theorem c_note {X : XC} {f : XH} {A : Nat → Nat → Nat} {DA : Nat → Nat} {v : Nat → Nat → Int} {L : Nat → List Nat} (hP : PC X f A DA v L) (h0 : 0 ≤ v 4 0) (h1 : v 4 0 < 2 ^ 31) (k w i : Int) :
    Holds X y_Journal_note [.ref (A 0 1), .int (iI k), .int (iI w), .int (iI i)] f 0 0 0 0 (fun r f' => r = none ∧ PC X f' A DA (m_note v k w i) L ∧ FR A DA f f') := by
  have hJ := hP.c 0 1 rfl
  have hL := hP.c 0 2 rfl
  have hn : A 0 1 ≠ A 0 2 := hP.ne (by decide : (1 : Nat) ≤ 10) (by decide : (2 : Nat) ≤ 10) (by decide)
  have em : iI (v 4 0) &&& 63 = nI ((v 4 0).toNat % 64) := by rw [iI_nat h0]; exact pk_andN (by omega) 6 (by decide)
  refine x_met ok_Journal_note (by simp [x_one]) (Nat.le_of_ble_eq_true rfl) fun go st => ?_
  refine st 0 _ _ _ _ _ _ rfl ?_
  refine x_o hJ ?_
  refine x_o hJ ?_
  refine x_a hL ?_
  refine And.intro ?_ ?_
  · show vp_in (iI (v 4 0) &&& 63) 64
    rw [em]
    exact vp_in_nI (by omega) (by decide)
  refine x_o (x_u hn hJ) ?_
  refine x_o (x_u hn hJ) ?_
  refine And.intro rfl ?_
  have e1 : iI k + 16 * iI w + 256 * iI i = iI (k + 16 * w + 256 * i) := by
    rw [← iI_add, ← iI_add, ← iI_mul, ← iI_mul]; rfl
  have e2 : iI (v 4 0) + 1 = iI (v 4 0 + 1) := by rw [← iI_add]; rfl
  have h1 := (hP.up 6 ((v 4 0).toNat % 64) (k + 16 * w + 256 * i) (by decide) rfl).up 4 0 (v 4 0 + 1) (by decide) rfl
  refine ⟨?_, (FR.rf.up 0 2).up 0 1⟩
  show PC X (va_up (va_up f (A 0 2) (some (.inr (0, 64, va_up (fun j => .int (iI (v 6 j))) (iI (v 4 0) &&& 63 : Int32).toNatClampNeg (.int (iI k + 16 * iI w + 256 * iI i)))))) (A 0 1) (some (.inl (0, [.ref (A 0 2), .int (iI (v 4 0) + 1), .int (iI (v 5 0))])))) A DA (m_note v k w i) L
  rw [em, e1, e2, nI_clamp (by omega), ar_up]
  exact h1
def m_fresh (v : Nat → Nat → Int) : Nat → Nat → Int := m_note (up2 v 5 0 (v 5 0 + 1)) 1 0 (v 5 0)
theorem c_newInstance {X : XC} {f : XH} {A : Nat → Nat → Nat} {DA : Nat → Nat} {v : Nat → Nat → Int} {L : Nat → List Nat} (hP : PC X f A DA v L) (h0 : 0 ≤ v 4 0) (h1 : v 4 0 < 2 ^ 31) :
    Holds X y_Journal_newInstance [.ref (A 0 1)] f 1 30 0 0 (fun r f' => r = some (.int (iI (v 5 0))) ∧ PC X f' A DA (m_fresh v) L ∧ FR A DA f f') := by
  have hJ := hP.c 0 1 rfl
  have e2 : iI (v 5 0) + 1 = iI (v 5 0 + 1) := by rw [← iI_add]; rfl
  refine x_met ok_Journal_newInstance (by simp [x_one]) (Nat.le_of_ble_eq_true rfl) fun go st => ?_
  refine st 0 _ _ _ _ _ _ rfl ?_
  refine x_o hJ ?_
  refine x_o hJ ?_
  refine x_o hJ ?_
  have h2 := hP.up 5 0 (v 5 0 + 1) (by decide) rfl
  refine x_o (va_up_self _ _ _) ?_
  conv => whnf
  refine ⟨_, _, _, _, _, (by
    show Holds X y_Journal_note [.ref (A 0 1), .int (iI 1), .int (iI 0), .int (iI (v 5 0))] (va_up f (A 0 1) (some (.inl (0, [.ref (A 0 2), .int (iI (v 4 0)), .int (iI (v 5 0) + 1)])))) _ _ _ _ _
    rw [e2]
    exact c_note h2 h0 h1 1 0 (v 5 0)), ?_, ?_⟩
  · decide
  rintro r f' ⟨rfl, k1, k2⟩
  exact And.intro rfl ⟨k1, FR.tr (FR.rf.up 0 1) k2⟩
theorem c_nextUse {X : XC} {f : XH} {A : Nat → Nat → Nat} {DA : Nat → Nat} {v : Nat → Nat → Int} {L : Nat → List Nat} (hP : PC X f A DA v L) :
    Holds X y_Clock_nextUse [.ref (A 0 3)] f 0 0 0 0 (fun r f' => r = some (.int (iI (v 3 0 + 1))) ∧ PC X f' A DA (up2 v 3 0 (v 3 0 + 1)) L ∧ FR A DA f f') := by
  have hJ := hP.c 0 3 rfl
  have e2 : iI (v 3 0) + 1 = iI (v 3 0 + 1) := by rw [← iI_add]; rfl
  refine x_met ok_Clock_nextUse (by simp [x_one]) (Nat.le_of_ble_eq_true rfl) fun go st => ?_
  refine st 0 _ _ _ _ _ _ rfl ?_
  refine x_o hJ ?_
  refine x_o hJ ?_
  refine x_o (va_up_self _ _ _) ?_
  refine And.intro (congrArg (fun z => some (Value.int z)) e2) ⟨?_, FR.rf.up 0 3⟩
  show PC X (va_up f (A 0 3) (some (.inl (1, [.int (iI (v 2 0)), .int (iI (v 3 0) + 1)])))) A DA (up2 v 3 0 (v 3 0 + 1)) L
  rw [e2]
  exact hP.up 3 0 (v 3 0 + 1) (by decide) rfl
theorem c_back {X : XC} {f : XH} {A : Nat → Nat → Nat} {DA : Nat → Nat} {v : Nat → Nat → Int} {L : Nat → List Nat} (hP : PC X f A DA v L) (h0 : 0 ≤ v 4 0) (h1 : v 4 0 < 2 ^ 31) (k : Int) (hk : iS k) :
    Holds X y_Journal_back [.ref (A 0 1), .int (iI k)] f 0 0 0 0 (fun r f' => r = some (.int (iI (if k < 0 ∨ 64 ≤ k ∨ v 4 0 ≤ k then -1 else v 6 ((v 4 0 - 1 - k).toNat % 64)))) ∧ f' = f) := by
  have hJ := hP.c 0 1 rfl
  have hL := hP.c 0 2 rfl
  refine x_met ok_Journal_back (by simp [x_one]) (Nat.le_of_ble_eq_true rfl) fun go st => ?_
  have no : (k < 0 ∨ 64 ≤ k ∨ v 4 0 ≤ k) → go 18 (x_arg [.ref (A 0 1), .int (iI k)]) [] f 0 0 := by
    intro hc
    refine st 18 _ _ _ _ _ _ rfl ?_
    exact And.intro (by rw [if_pos hc]; rfl) rfl
  refine st 0 _ _ _ _ _ _ rfl ?_
  refine And.intro (fun hc => no (Or.inl ((iI_lt hk ⟨by omega, by omega⟩).mp hc))) (fun hc1 => ?_)
  refine And.intro (fun hc => no (Or.inr (Or.inl ((iI_le (a := 64) ⟨by omega, by omega⟩ hk).mp hc)))) (fun hc2 => ?_)
  refine x_o hJ ?_
  have hc1 : ¬ k < 0 := fun z => hc1 ((iI_lt hk (b := 0) ⟨by omega, by omega⟩).mpr z)
  have hc2 : ¬ 64 ≤ k := fun z => hc2 ((iI_le (a := 64) ⟨by omega, by omega⟩ hk).mpr z)
  refine And.intro (fun hc => ?_) (fun hc => no (Or.inr (Or.inr (Int.not_lt.mp (fun z => hc ((iI_lt hk ⟨by omega, h1⟩).mpr z))))))
  have hc3 : k < v 4 0 := (iI_lt hk ⟨by omega, h1⟩).mp hc
  refine st 20 _ _ _ _ _ _ rfl ?_
  refine x_o hJ ?_
  refine x_o hJ ?_
  refine x_a hL ?_
  have em : iI (v 4 0) - 1 - iI k &&& 63 = nI ((v 4 0 - 1 - k).toNat % 64) := by
    rw [show iI (v 4 0) - 1 - iI k = iI (v 4 0 - 1 - k) by rw [← iI_sub, ← iI_sub]; rfl, iI_nat (by omega)]
    exact pk_andN (by omega) 6 (by decide)
  refine And.intro ?_ ?_
  · show vp_in (iI (v 4 0) - 1 - iI k &&& 63) 64
    rw [em]
    exact vp_in_nI (by omega) (by decide)
  · refine And.intro ?_ rfl
    show some (Value.int (iI (v 6 (iI (v 4 0) - 1 - iI k &&& 63 : Int32).toNatClampNeg))) = _
    rw [em, nI_clamp (by omega), if_neg (by omega)]
