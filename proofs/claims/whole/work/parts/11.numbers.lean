/-! Numbers of the picture. -/
theorem iI_add (a b : Int) : iI a + iI b = iI (a + b) := (Int32.ofInt_add a b).symm
theorem iI_mul (a b : Int) : iI a * iI b = iI (a * b) := (Int32.ofInt_mul a b).symm
theorem iI_sub (a b : Int) : iI a - iI b = iI (a - b) := (Int32.ofInt_sub a b).symm
theorem iI_n (n : Nat) : iI n = nI n := Int32.ofInt_eq_ofNat
theorem iI_t {z : Int} (h1 : -2 ^ 31 ≤ z) (h2 : z < 2 ^ 31) : (iI z).toInt = z := Int32.toInt_ofInt_of_le h1 h2
theorem iI_nat {z : Int} (h : 0 ≤ z) : iI z = nI z.toNat := by
  obtain ⟨n, rfl⟩ := Int.eq_ofNat_of_zero_le h
  exact iI_n n
/-- small: the comparisons are those of the integers -/
def iS (z : Int) : Prop := -2 ^ 31 ≤ z ∧ z < 2 ^ 31
theorem iI_lt {a b : Int} (ha : iS a) (hb : iS b) : iI a < iI b ↔ a < b := by rw [Int32.lt_iff_toInt_lt, iI_t ha.1 ha.2, iI_t hb.1 hb.2]
theorem iI_le {a b : Int} (ha : iS a) (hb : iS b) : iI a ≤ iI b ↔ a ≤ b := by rw [Int32.le_iff_toInt_le, iI_t ha.1 ha.2, iI_t hb.1 hb.2]
theorem iI_eq {a b : Int} (ha : iS a) (hb : iS b) : iI a = iI b ↔ a = b := ⟨fun h => by rw [← iI_t ha.1 ha.2, h, iI_t hb.1 hb.2], fun h => by rw [h]⟩
theorem iI_in {z : Int} {n : Nat} (h0 : 0 ≤ z) (h1 : z < n) (hn : n < 2 ^ 31) : vp_in (iI z) n := by rw [iI_nat h0]; exact vp_in_nI (by omega) hn
theorem iI_cl {z : Int} (h0 : 0 ≤ z) (h1 : z < 2 ^ 31) : (iI z).toNatClampNeg = z.toNat := by rw [iI_nat h0]; exact nI_clamp (by omega)
theorem iI_of (x : Int32) : x = iI x.toInt := by
  apply Int32.toInt_inj.mp
  rw [iI_t x.le_toInt x.toInt_lt]
/-- an array of the picture, one place written -/
theorem ar_up {v : Nat → Nat → Int} {c i : Nat} {x : Int} : va_up (fun j => Value.int (iI (v c j))) i (.int (iI x)) = fun j => .int (iI (up2 v c i x c j)) := by
  funext j
  by_cases h : j = i
  · subst h
    rw [va_up_self, up2_s]
  · rw [va_up_ne _ _ h, up2_i h]
theorem PC.c {X : XC} {f : XH} {A : Nat → Nat → Nat} {DA : Nat → Nat} {v : Nat → Nat → Int} {L : Nat → List Nat} (h : PC X f A DA v L) (k i : Nat) {e : XE} (he : cc_cell A v L k i = some e) : f (A k i) = some e := h.1 k i e he
theorem PC.ne {X : XC} {f : XH} {A : Nat → Nat → Nat} {DA : Nat → Nat} {v : Nat → Nat → Int} {L : Nat → List Nat} (h : PC X f A DA v L) {k i k' i' : Nat} (h1 : cc_live v L k i) (h2 : cc_live v L k' i') (hn : ¬ (k = k' ∧ i = i')) : A k i ≠ A k' i' := fun z => hn (h.2.2.1 k i k' i' h1 h2 z)
