/-! More constructors; what a new session does, in the heap itself. -/
section
variable {X : XC} {f : XH}
theorem c_Session_init {a hm j ck : Nat} {sz to id : Int32} {lq : Value} (h : f a = some (.inl (8, x_df 8))) (hh : f hm = some (.inl (5, [lq, .int sz, .int to, .int id]))) : Holds X y_Session_init [.ref a, .ref hm, .ref j, .ref ck] f 6 200 1 3 (fun r f' => r = none ∧ ∃ q, f q = none ∧ f' q = e_al X ∧ f' a = some (.inl (8, [.ref q, .ref j, .int to, .int 3, .ref hm, .ref ck, .int (-1), .int 0, .int 0, .int 0, .int 0])) ∧ ∀ b, b ≠ a → b ≠ q → f' b = f b) := by
  refine x_met ok_Session_init (by simp [x_one]) (Nat.le_of_ble_eq_true rfl) fun go st => ?_
  refine st 0 _ _ _ _ _ _ rfl ?_
  refine x_o hh ?_
  conv => whnf
  refine ⟨_, _, _, _, _, c_Target_init (Or.inr (Or.inr rfl)) h, ?_, ?_⟩
  · decide
  rintro r f1 ⟨rfl, q, hq, h1, h2, h3⟩
  have hqa : q ≠ a := fun z => by rw [z, h] at hq; cases hq
  refine x_o h2 ?_
  refine x_o (va_up_self _ _ _) ?_
  refine x_o (va_up_self _ _ _) ?_
  refine And.intro (Or.inl rfl) ?_
  refine x_o (va_up_self _ _ _) ?_
  refine x_o (va_up_self _ _ _) ?_
  refine x_o (va_up_self _ _ _) ?_
  refine x_o (va_up_self _ _ _) ?_
  refine And.intro rfl ⟨q, hq, ?_, va_up_self _ _ _, fun b b1 b2 => ?_⟩
  · rw [va_up_ne _ _ hqa, va_up_ne _ _ hqa, va_up_ne _ _ hqa, va_up_ne _ _ hqa, va_up_ne _ _ hqa, va_up_ne _ _ hqa, va_up_ne _ _ hqa]; exact h1
  · rw [va_up_ne _ _ b1, va_up_ne _ _ b1, va_up_ne _ _ b1, va_up_ne _ _ b1, va_up_ne _ _ b1, va_up_ne _ _ b1, va_up_ne _ _ b1]; exact h3 b b1 b2
theorem c_note' {j d : Nat} {z k x y : Int} {m : Int32} {g : Nat → Value} (hj : f j = some (.inl (0, [.ref d, .int (iI z), .int m]))) (hd : f d = some (.inr (0, 64, g))) : Holds X y_Journal_note [.ref j, .int (iI k), .int (iI x), .int (iI y)] f 0 0 0 0 (fun r f' => r = none ∧ f' = va_up (va_up f d (some (.inr (0, 64, va_up g (bAnd z 63).toNat (.int (iI (k + 16 * x + 256 * y))))))) j (some (.inl (0, [.ref d, .int (iI (z + 1)), .int m])))) := by
  have hjd : j ≠ d := fun q => by rw [q, hd] at hj; cases hj
  obtain ⟨b1, b2⟩ := b63 z
  have eb : iI z &&& 63 = iI (bAnd z 63) := by unfold bAnd; rw [← iI_of]; rfl
  have ei := vp_in_i (j := bAnd z 63) (n := 64) ⟨b1, by omega, by decide⟩
  refine x_met ok_Journal_note (by simp [x_one]) (Nat.le_of_ble_eq_true rfl) fun go st => ?_
  refine st 0 _ _ _ _ _ _ rfl ?_
  refine x_o hj ?_
  refine x_o hj ?_
  refine x_a hd ?_
  rw [show iI z &&& 63 = iI (bAnd z 63) from eb]
  refine And.intro ei.1 ?_
  rw [ei.2]
  refine x_o (x_u hjd hj) ?_
  refine x_o (x_u hjd hj) ?_
  refine And.intro rfl ?_
  have e1 : iI k + 16 * iI x + 256 * iI y = iI (k + 16 * x + 256 * y) := by
    rw [show (16 : Int32) = iI 16 from rfl, show (256 : Int32) = iI 256 from rfl, iI_mul, iI_mul, iI_add, iI_add]
  have e2 : iI z + 1 = iI (z + 1) := by rw [show (1 : Int32) = iI 1 from rfl, iI_add]
  rw [← e1, ← e2]
  rfl
theorem c_newInstance' {j d : Nat} {z m : Int} {g : Nat → Value} (hj : f j = some (.inl (0, [.ref d, .int (iI z), .int (iI m)]))) (hd : f d = some (.inr (0, 64, g))) : Holds X y_Journal_newInstance [.ref j] f 1 40 0 0 (fun r f' => r = some (.int (iI m)) ∧ f' j = some (.inl (0, [.ref d, .int (iI (z + 1)), .int (iI (m + 1))])) ∧ f' d = some (.inr (0, 64, va_up g (bAnd z 63).toNat (.int (iI (1 + 16 * 0 + 256 * m))))) ∧ ∀ b, b ≠ j → b ≠ d → f' b = f b) := by
  have hjd : j ≠ d := fun q => by rw [q, hd] at hj; cases hj
  have e2 : iI m + 1 = iI (m + 1) := by rw [show (1 : Int32) = iI 1 from rfl, iI_add]
  refine x_met ok_Journal_newInstance (by simp [x_one]) (Nat.le_of_ble_eq_true rfl) fun go st => ?_
  refine st 0 _ _ _ _ _ _ rfl ?_
  refine x_o hj ?_
  refine x_o hj ?_
  refine x_o hj ?_
  refine x_o (va_up_self _ _ _) ?_
  conv => whnf
  refine ⟨_, _, _, _, _, c_note' (k := 1) (x := 0) (y := m) (z := z) (va_up_self _ _ _) (x_u (Ne.symm hjd) hd), ?_, ?_⟩
  · decide
  rintro r f' ⟨rfl, rfl⟩
  refine And.intro rfl ⟨?_, ?_, fun b b1 b2 => ?_⟩
  · rw [va_up_self, ← e2]
  · rw [va_up_ne _ _ (Ne.symm hjd), va_up_self]
  · rw [va_up_ne _ _ b1, va_up_ne _ _ b2, va_up_ne _ _ b1]
theorem c_nextUse' {c : Nat} {n : Int32} {u : Int} (hc : f c = some (.inl (1, [.int n, .int (iI u)]))) : Holds X y_Clock_nextUse [.ref c] f 0 0 0 0 (fun r f' => r = some (.int (iI (u + 1))) ∧ f' = va_up f c (some (.inl (1, [.int n, .int (iI (u + 1))])))) := by
  have e2 : iI u + 1 = iI (u + 1) := by rw [show (1 : Int32) = iI 1 from rfl, iI_add]
  refine x_met ok_Clock_nextUse (by simp [x_one]) (Nat.le_of_ble_eq_true rfl) fun go st => ?_
  refine st 0 _ _ _ _ _ _ rfl ?_
  refine x_o hc ?_
  refine x_o hc ?_
  refine x_o (va_up_self _ _ _) ?_
  rw [← e2]
  exact And.intro rfl rfl
theorem c_markUsed' {a c : Nat} {n : Int32} {u : Int} {l j t m hm i p iu x y : Value} (ha : f a = some (.inl (8, [l, j, t, m, hm, .ref c, i, p, iu, x, y]))) (hc : f c = some (.inl (1, [.int n, .int (iI u)]))) : Holds X y_Session_markUsed [.ref a] f 1 40 0 0 (fun r f' => r = none ∧ f' a = some (.inl (8, [l, j, t, m, hm, .ref c, i, p, iu, .int (iI (u + 1)), .int n])) ∧ f' c = some (.inl (1, [.int n, .int (iI (u + 1))])) ∧ ∀ b, b ≠ a → b ≠ c → f' b = f b) := by
  have hac : a ≠ c := fun q => by rw [q, hc] at ha; cases ha
  refine x_met ok_Session_markUsed (by simp [x_one]) (Nat.le_of_ble_eq_true rfl) fun go st => ?_
  refine st 0 _ _ _ _ _ _ rfl ?_
  refine x_o ha ?_
  refine x_o hc ?_
  conv => whnf
  refine ⟨_, _, _, _, _, c_nextUse' hc, ?_, ?_⟩
  · decide
  rintro r f' ⟨rfl, rfl⟩
  refine x_o (x_u hac ha) ?_
  refine x_o (va_up_self _ _ _) ?_
  refine x_o (x_u (Ne.symm hac) (va_up_self _ _ _)) ?_
  refine x_o (va_up_self _ _ _) ?_
  refine And.intro rfl ⟨va_up_self _ _ _, x_u (Ne.symm hac) (x_u (Ne.symm hac) (va_up_self _ _ _)), fun b b1 b2 => ?_⟩
  rw [va_up_ne _ _ b1, va_up_ne _ _ b1, va_up_ne _ _ b2]
theorem c_comeToBe' {a c jr d : Nat} {n : Int32} {u z w : Int} {g : Nat → Value} {l t m hm i p iu x y : Value} (ha : f a = some (.inl (8, [l, .ref jr, t, m, hm, .ref c, i, p, iu, x, y]))) (hc : f c = some (.inl (1, [.int n, .int (iI u)]))) (hj : f jr = some (.inl (0, [.ref d, .int (iI z), .int (iI w)]))) (hd : f d = some (.inr (0, 64, g))) : Holds X y_Session_comeToBe [.ref a] f 2 100 0 0 (fun r f' => r = none ∧ f' a = some (.inl (8, [l, .ref jr, t, m, hm, .ref c, .int (iI w), .int 1, iu, .int (iI (u + 1)), .int n])) ∧ f' c = some (.inl (1, [.int n, .int (iI (u + 1))])) ∧ f' jr = some (.inl (0, [.ref d, .int (iI (z + 1)), .int (iI (w + 1))])) ∧ f' d = some (.inr (0, 64, va_up g (bAnd z 63).toNat (.int (iI (1 + 16 * 0 + 256 * w))))) ∧ ∀ b, b ≠ a → b ≠ c → b ≠ jr → b ≠ d → f' b = f b) := by
  have hac : a ≠ c := fun q => by rw [q, hc] at ha; cases ha
  have haj : a ≠ jr := fun q => by rw [q, hj] at ha; cases ha
  have had : a ≠ d := fun q => by rw [q, hd] at ha; cases ha
  have hcj : c ≠ jr := fun q => by rw [q, hj] at hc; cases hc
  have hcd : c ≠ d := fun q => by rw [q, hd] at hc; cases hc
  refine x_met ok_Session_comeToBe (by simp [x_one]) (Nat.le_of_ble_eq_true rfl) fun go st => ?_
  refine st 0 _ _ _ _ _ _ rfl ?_
  refine x_o ha ?_
  refine x_o hj ?_
  conv => whnf
  refine ⟨_, _, _, _, _, c_newInstance' hj hd, ?_, ?_⟩
  · decide
  rintro r f1 ⟨rfl, k1, k2, k3⟩
  have ha1 := (k3 a haj had).trans ha
  have hc1 := (k3 c hcj hcd).trans hc
  refine x_o ha1 ?_
  refine x_o (va_up_self _ _ _) ?_
  refine x_o (va_up_self _ _ _) ?_
  conv => whnf
  refine ⟨_, _, _, _, _, c_markUsed' (va_up_self _ _ _) (x_u (Ne.symm hac) (x_u (Ne.symm hac) hc1)), ?_, ?_⟩
  · decide
  rintro r f2 ⟨rfl, q1, q2, q3⟩
  refine And.intro rfl ⟨q1, q2, ?_, ?_, fun b b1 b2 b3 b4 => ?_⟩
  · rw [q3 jr (Ne.symm haj) (Ne.symm hcj), va_up_ne _ _ (Ne.symm haj), va_up_ne _ _ (Ne.symm haj)]; exact k1
  · rw [q3 d (Ne.symm had) (Ne.symm hcd), va_up_ne _ _ (Ne.symm had), va_up_ne _ _ (Ne.symm had)]; exact k2
  · rw [q3 b b1 b2, va_up_ne _ _ b1, va_up_ne _ _ b1]; exact k3 b b3 b4
theorem c_Task_init {a t : Nat} {m b : Int32} (hb : b = 0 ∨ b = 1) (h : f a = some (.inl (9, x_df 9))) : Holds X y_Task_init [.ref a, .ref t, .int m, .int b] f 1 40 0 0 (fun r f' => r = none ∧ f' a = some (.inl (9, [.ref t, .int m, .int b, .int 1, .int 0, .int (-1)])) ∧ ∀ b, b ≠ a → f' b = f b) := by
  refine x_met ok_Task_init (by simp [x_one]) (Nat.le_of_ble_eq_true rfl) fun go st => ?_
  refine st 0 _ _ _ _ _ _ rfl ?_
  refine x_o h ?_
  refine x_o (va_up_self _ _ _) ?_
  refine And.intro (Or.inl rfl) ?_
  refine x_o (va_up_self _ _ _) ?_
  refine x_o (va_up_self _ _ _) ?_
  refine x_o (va_up_self _ _ _) ?_
  refine x_o (va_up_self _ _ _) ?_
  refine And.intro hb ?_
  refine And.intro rfl ⟨va_up_self _ _ _, fun b b1 => ?_⟩
  rw [va_up_ne _ _ b1, va_up_ne _ _ b1, va_up_ne _ _ b1, va_up_ne _ _ b1, va_up_ne _ _ b1, va_up_ne _ _ b1]
theorem c_Journal_init {a : Nat} (h : f a = some (.inl (0, x_df 0))) : Holds X y_Journal_init [.ref a] f 1 40 1 64 (fun r f' => r = none ∧ ∃ d, f d = none ∧ d ≠ a ∧ f' d = some (.inr (0, 64, fun _ => .int 0)) ∧ f' a = some (.inl (0, [.ref d, .int 0, .int 0])) ∧ ∀ b, b ≠ a → b ≠ d → f' b = f b) := by
  refine x_met ok_Journal_init (by simp [x_one]) (Nat.le_of_ble_eq_true rfl) fun go st => ?_
  refine st 0 _ _ _ _ _ _ rfl ?_
  conv => whnf
  refine ⟨by decide, by decide, by decide, by decide, fun d hd => ?_⟩
  have hda : d ≠ a := fun z => by rw [z, h] at hd; cases hd
  refine x_o (x_u (Ne.symm hda) h) ?_
  refine x_o (va_up_self _ _ _) ?_
  refine x_o (va_up_self _ _ _) ?_
  refine And.intro rfl ⟨d, hd, hda, ?_, va_up_self _ _ _, fun b b1 b2 => ?_⟩
  · rw [va_up_ne _ _ hda, va_up_ne _ _ hda, va_up_ne _ _ hda, va_up_self]; rfl
  · rw [va_up_ne _ _ b1, va_up_ne _ _ b1, va_up_ne _ _ b1, va_up_ne _ _ b2]
theorem c_ExceptionTypes_init {a : Nat} (h : f a = some (.inl (2, x_df 2))) : Holds X y_ExceptionTypes_init [.ref a] f 1 40 1 8 (fun r f' => r = none ∧ ∃ d, f d = none ∧ d ≠ a ∧ f' d = some (.inr (0, 8, fun _ => .int 0)) ∧ f' a = some (.inl (2, [.ref d])) ∧ ∀ b, b ≠ a → b ≠ d → f' b = f b) := by
  refine x_met ok_ExceptionTypes_init (by simp [x_one]) (Nat.le_of_ble_eq_true rfl) fun go st => ?_
  refine st 0 _ _ _ _ _ _ rfl ?_
  conv => whnf
  refine ⟨by decide, by decide, by decide, by decide, fun d hd => ?_⟩
  have hda : d ≠ a := fun z => by rw [z, h] at hd; cases hd
  refine x_o (x_u (Ne.symm hda) h) ?_
  refine And.intro rfl ⟨d, hd, hda, ?_, va_up_self _ _ _, fun b b1 b2 => ?_⟩
  · rw [va_up_ne _ _ hda, va_up_self]; rfl
  · rw [va_up_ne _ _ b1, va_up_ne _ _ b2]
theorem c_Clock_init {a : Nat} (h : f a = some (.inl (1, x_df 1))) : Holds X y_Clock_init [.ref a] f 1 40 0 0 (fun r f' => r = none ∧ f' a = some (.inl (1, [.int 0, .int 0])) ∧ ∀ b, b ≠ a → f' b = f b) := by
  refine x_met ok_Clock_init (by simp [x_one]) (Nat.le_of_ble_eq_true rfl) fun go st => ?_
  refine st 0 _ _ _ _ _ _ rfl ?_
  refine x_o h ?_
  refine x_o (va_up_self _ _ _) ?_
  refine And.intro rfl ⟨va_up_self _ _ _, fun b b1 => ?_⟩
  rw [va_up_ne _ _ b1, va_up_ne _ _ b1]
theorem c_Caller_init {a : Nat} {n : Int32} (h : f a = some (.inl (4, x_df 4))) : Holds X y_Caller_init [.ref a, .int n] f 1 40 3 12 (fun r f' => r = none ∧ ∃ d1 d2 d3, f d1 = none ∧ f d2 = none ∧ f d3 = none ∧ (d1 ≠ a ∧ d2 ≠ a ∧ d3 ≠ a ∧ d1 ≠ d2 ∧ d1 ≠ d3 ∧ d2 ≠ d3) ∧ f' d1 = some (.inr (3, 4, fun _ => .null)) ∧ f' d2 = some (.inr (0, 4, fun _ => .int 0)) ∧ f' d3 = some (.inr (0, 4, fun _ => .int 0)) ∧ f' a = some (.inl (4, [.int n, .ref d1, .ref d2, .ref d3, .int 0, .null, .int 0, .int 0, .int (-1), .null])) ∧ ∀ b, b ≠ a → b ≠ d1 → b ≠ d2 → b ≠ d3 → f' b = f b) := by
  refine x_met ok_Caller_init (by simp [x_one]) (Nat.le_of_ble_eq_true rfl) fun go st => ?_
  refine st 0 _ _ _ _ _ _ rfl ?_
  conv => whnf
  refine ⟨by decide, by decide, by decide, by decide, fun d1 q1 => ?_⟩
  have n1 : d1 ≠ a := fun z => by rw [z, h] at q1; cases q1
  refine x_o (x_u (Ne.symm n1) h) ?_
  conv => whnf
  refine ⟨by decide, by decide, by decide, by decide, fun d2 q2 => ?_⟩
  have n2 : d2 ≠ a := fun z => by rw [z, va_up_self] at q2; cases q2
  rw [va_up_ne _ _ n2] at q2
  have n12 : d1 ≠ d2 := fun z => by rw [← z, va_up_self] at q2; cases q2
  rw [va_up_ne _ _ (Ne.symm n12)] at q2
  refine x_o (x_u (Ne.symm n2) (va_up_self _ _ _)) ?_
  conv => whnf
  refine ⟨by decide, by decide, by decide, by decide, fun d3 q3 => ?_⟩
  have n3 : d3 ≠ a := fun z => by rw [z, va_up_self] at q3; cases q3
  rw [va_up_ne _ _ n3] at q3
  have n23 : d2 ≠ d3 := fun z => by rw [← z, va_up_self] at q3; cases q3
  rw [va_up_ne _ _ (Ne.symm n23), va_up_ne _ _ n3] at q3
  have n13 : d1 ≠ d3 := fun z => by rw [← z, va_up_self] at q3; cases q3
  rw [va_up_ne _ _ (Ne.symm n13)] at q3
  refine x_o (x_u (Ne.symm n3) (va_up_self _ _ _)) ?_
  refine x_o (va_up_self _ _ _) ?_
  refine x_o (va_up_self _ _ _) ?_
  refine x_o (va_up_self _ _ _) ?_
  refine x_o (va_up_self _ _ _) ?_
  refine x_o (va_up_self _ _ _) ?_
  refine x_o (va_up_self _ _ _) ?_
  refine x_o (va_up_self _ _ _) ?_
  refine And.intro rfl ⟨d1, d2, d3, q1, q2, q3, ⟨n1, n2, n3, n12, n13, n23⟩, ?_, ?_, ?_, va_up_self _ _ _, fun b b1 b2 b3 b4 => ?_⟩
  · simp only [va_up_ne _ _ n1, va_up_ne _ _ n12, va_up_ne _ _ n13, va_up_self]; rfl
  · simp only [va_up_ne _ _ n2, va_up_ne _ _ n23, va_up_self]; rfl
  · simp only [va_up_ne _ _ n3, va_up_self]; rfl
  · simp only [va_up_ne _ _ b1, va_up_ne _ _ b2, va_up_ne _ _ b3, va_up_ne _ _ b4]
end
