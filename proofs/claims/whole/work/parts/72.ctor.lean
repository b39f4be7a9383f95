/-! The constructors, in the heap itself. -/
section
variable {X : XC} {f : XH}
abbrev e_al (X : XC) : Option XE := some (.inl (3, [.int 0, .ref (x_k X 0), .int (nI 0)]))
theorem c_Target_init {a j ci : Nat} {t m : Int32} {rest : List Value} (hci : ci = 6 ∨ ci = 7 ∨ ci = 8) (h : f a = some (.inl (ci, .null :: .null :: .int 0 :: .int 0 :: rest))) : Holds X y_Target_init [.ref a, .ref j, .int t, .int m] f 5 150 1 3 (fun r f' => r = none ∧ ∃ q, f q = none ∧ f' q = e_al X ∧ f' a = some (.inl (ci, .ref q :: .ref j :: .int t :: .int m :: rest)) ∧ ∀ b, b ≠ a → b ≠ q → f' b = f b) := by
  rcases hci with rfl | rfl | rfl
  all_goals
    refine x_met ok_Target_init (by simp [x_one]) (Nat.le_of_ble_eq_true rfl) fun go st => ?_
    refine st 0 _ _ _ _ _ _ rfl ?_
    intro q hq
    have haq : a ≠ q := fun z => by rw [z, hq] at h; cases h
    conv => whnf
    refine ⟨_, _, _, _, _, c_AL_init (va_up_self _ _ _), ?_, ?_⟩
    · decide
    rintro r f' ⟨rfl, rfl⟩
    refine x_o (x_u haq (x_u haq h)) ?_
    refine x_o (va_up_self _ _ _) ?_
    refine x_o (va_up_self _ _ _) ?_
    refine x_o (va_up_self _ _ _) ?_
    refine And.intro rfl ⟨q, hq, ?_, va_up_self _ _ _, fun b h1 h2 => ?_⟩
    · rw [va_up_ne _ _ (Ne.symm haq), va_up_ne _ _ (Ne.symm haq), va_up_ne _ _ (Ne.symm haq), va_up_ne _ _ (Ne.symm haq), va_up_self]
    · rw [va_up_ne _ _ h1, va_up_ne _ _ h1, va_up_ne _ _ h1, va_up_ne _ _ h1, va_up_ne _ _ h2, va_up_ne _ _ h2]
theorem c_Pool_init {a j : Nat} {n t : Int32} (h : f a = some (.inl (6, x_df 6))) : Holds X y_Pool_init [.ref a, .int n, .int t, .ref j] f 6 200 2 7 (fun r f' => r = none ∧ ∃ q d, f q = none ∧ f d = none ∧ d ≠ q ∧ d ≠ a ∧ f' q = e_al X ∧ f' d = some (.inr (0, 4, fun _ => .int 0)) ∧ f' a = some (.inl (6, [.ref q, .ref j, .int t, .int 1, .int n, .ref d, .int 0, .int 0])) ∧ ∀ b, b ≠ a → b ≠ q → b ≠ d → f' b = f b) := by
  refine x_met ok_Pool_init (by simp [x_one]) (Nat.le_of_ble_eq_true rfl) fun go st => ?_
  refine st 0 _ _ _ _ _ _ rfl ?_
  conv => whnf
  refine ⟨_, _, _, _, _, c_Target_init (Or.inl rfl) h, ?_, ?_⟩
  · decide
  rintro r f1 ⟨rfl, q, hq, h1, h2, h3⟩
  have hqa : q ≠ a := fun z => by rw [z, h] at hq; cases hq
  conv => whnf
  refine ⟨by decide, by decide, by decide, by decide, fun d hd => ?_⟩
  have hda : d ≠ a := fun z => by rw [z, h2] at hd; cases hd
  have hdq : d ≠ q := fun z => by rw [z, h1] at hd; cases hd
  have hd0 : f d = none := (h3 d hda hdq).symm.trans hd
  refine x_o (x_u (Ne.symm hda) h2) ?_
  refine x_o (va_up_self _ _ _) ?_
  refine x_o (va_up_self _ _ _) ?_
  refine x_o (va_up_self _ _ _) ?_
  refine And.intro rfl ⟨q, d, hq, hd0, hdq, hda, ?_, ?_, va_up_self _ _ _, fun b k1 k2 k3 => ?_⟩
  · rw [va_up_ne _ _ hqa, va_up_ne _ _ hqa, va_up_ne _ _ hqa, va_up_ne _ _ hqa, va_up_ne _ _ (Ne.symm hdq)]; exact h1
  · rw [va_up_ne _ _ hda, va_up_ne _ _ hda, va_up_ne _ _ hda, va_up_ne _ _ hda, va_up_self]; rfl
  · rw [va_up_ne _ _ k1, va_up_ne _ _ k1, va_up_ne _ _ k1, va_up_ne _ _ k1, va_up_ne _ _ k3]; exact h3 b k1 k2
theorem c_Stateful_init {a : Nat} {n t d : Int32} (h : f a = some (.inl (5, x_df 5))) : Holds X y_Stateful_init [.ref a, .int n, .int t, .int d] f 5 150 1 3 (fun r f' => r = none ∧ ∃ q, f q = none ∧ f' q = e_al X ∧ f' a = some (.inl (5, [.ref q, .int n, .int t, .int d])) ∧ ∀ b, b ≠ a → b ≠ q → f' b = f b) := by
  refine x_met ok_Stateful_init (by simp [x_one]) (Nat.le_of_ble_eq_true rfl) fun go st => ?_
  refine st 0 _ _ _ _ _ _ rfl ?_
  intro q hq
  have haq : a ≠ q := fun z => by rw [z, hq] at h; cases h
  conv => whnf
  refine ⟨_, _, _, _, _, c_AL_init (va_up_self _ _ _), ?_, ?_⟩
  · decide
  rintro r f' ⟨rfl, rfl⟩
  refine x_o (x_u haq (x_u haq h)) ?_
  refine x_o (va_up_self _ _ _) ?_
  refine x_o (va_up_self _ _ _) ?_
  refine x_o (va_up_self _ _ _) ?_
  refine And.intro rfl ⟨q, hq, ?_, va_up_self _ _ _, fun b h1 h2 => ?_⟩
  · rw [va_up_ne _ _ (Ne.symm haq), va_up_ne _ _ (Ne.symm haq), va_up_ne _ _ (Ne.symm haq), va_up_ne _ _ (Ne.symm haq), va_up_self]
  · rw [va_up_ne _ _ h1, va_up_ne _ _ h1, va_up_ne _ _ h1, va_up_ne _ _ h1, va_up_ne _ _ h2, va_up_ne _ _ h2]
theorem c_Singleton_init {a j : Nat} {n t : Int32} (h : f a = some (.inl (7, x_df 7))) : Holds X y_Singleton_init [.ref a, .int n, .int t, .ref j] f 6 200 2 6 (fun r f' => r = none ∧ ∃ q d, f q = none ∧ f d = none ∧ d ≠ q ∧ d ≠ a ∧ f' q = e_al X ∧ f' d = e_al X ∧ f' a = some (.inl (7, [.ref q, .ref j, .int t, .int 2, .ref d, .int (if n = 1 ∨ n = 3 then 1 else 0), .int (if n = 2 ∨ n = 3 then 1 else 0), .int 0, .int 0, .int (-1), .int 0, .int 0])) ∧ ∀ b, b ≠ a → b ≠ q → b ≠ d → f' b = f b) := by
  refine x_met ok_Singleton_init (by simp [x_one]) (Nat.le_of_ble_eq_true rfl) fun go st => ?_
  have fin : ∀ (ls : XL) (f1 : XH) (q d : Nat) (x y : Int32), (x = 0 ∨ x = 1) → x = (if n = 1 ∨ n = 3 then 1 else 0) → (y = 0 ∨ y = 1) → y = (if n = 2 ∨ n = 3 then 1 else 0) → f q = none → f d = none → d ≠ q → d ≠ a → q ≠ a → f1 q = e_al X → f1 d = e_al X → f1 a = some (.inl (7, [.ref q, .ref j, .int t, .int 2, .ref d, .int x, .int 0, .int 0, .int 0, .int (-1), .int 0, .int 0])) → (∀ b, b ≠ a → b ≠ q → b ≠ d → f1 b = f b) → go 78 ls [.int y, .ref a] f1 2 6 := by
    intro ls f1 q d x y hx hx2 hy hy2 g1 g2 g3 g4 g5 g6 g7 g8 g9
    refine st 78 _ _ _ _ _ _ rfl ?_
    refine x_o g8 ?_
    refine And.intro hy ?_
    refine And.intro rfl ⟨q, d, g1, g2, g3, g4, x_u g5 g6, x_u g4 g7, ?_, fun b k1 k2 k3 => x_u k1 (g9 b k1 k2 k3)⟩
    rw [va_up_self, ← hx2, ← hy2]; rfl
  have mid : ∀ (ls : XL) (f1 : XH) (q d : Nat) (x : Int32), (x = 0 ∨ x = 1) → x = (if n = 1 ∨ n = 3 then 1 else 0) → f q = none → f d = none → d ≠ q → d ≠ a → q ≠ a → f1 q = e_al X → f1 d = e_al X → f1 a = some (.inl (7, [.ref q, .ref j, .int t, .int 2, .ref d, .int 0, .int 0, .int 0, .int 0, .int (-1), .int 0, .int 0])) → (∀ b, b ≠ a → b ≠ q → b ≠ d → f1 b = f b) → ls 0 = some (.ref a) → ls 1 = some (.int n) → go 59 ls [.int x, .ref a] f1 2 6 := by
    intro ls f1 q d x hx hx2 g1 g2 g3 g4 g5 g6 g7 g8 g9 l0 l1
    refine st 59 _ _ _ _ _ _ rfl ?_
    refine x_o g8 ?_
    refine And.intro hx ?_
    refine x_som_i l0 ?_
    refine x_som_i l1 ?_
    refine And.intro (fun hc => ?_) (fun hc => ?_)
    · refine st 73 _ _ _ _ _ _ rfl ?_
      exact fin _ _ q d x 1 hx hx2 (Or.inr rfl) (by rw [if_pos (Or.inl hc)]) g1 g2 g3 g4 g5 (x_u g5 g6) (x_u g4 g7) (va_up_self _ _ _) (fun b k1 k2 k3 => x_u k1 (g9 b k1 k2 k3))
    · refine x_som_i l1 ?_
      refine And.intro (fun hc2 => ?_) (fun hc2 => ?_)
      · refine st 77 _ _ _ _ _ _ rfl ?_
        exact fin _ _ q d x 0 hx hx2 (Or.inl rfl) (by rw [if_neg (fun z => z.elim hc hc2)]) g1 g2 g3 g4 g5 (x_u g5 g6) (x_u g4 g7) (va_up_self _ _ _) (fun b k1 k2 k3 => x_u k1 (g9 b k1 k2 k3))
      · refine st 73 _ _ _ _ _ _ rfl ?_
        exact fin _ _ q d x 1 hx hx2 (Or.inr rfl) (by rw [if_pos (Or.inr hc2)]) g1 g2 g3 g4 g5 (x_u g5 g6) (x_u g4 g7) (va_up_self _ _ _) (fun b k1 k2 k3 => x_u k1 (g9 b k1 k2 k3))
  refine st 0 _ _ _ _ _ _ rfl ?_
  conv => whnf
  refine ⟨_, _, _, _, _, c_Target_init (Or.inr (Or.inl rfl)) h, ?_, ?_⟩
  · decide
  rintro r f1 ⟨rfl, q, hq, h1, h2, h3⟩
  have hqa : q ≠ a := fun z => by rw [z, h] at hq; cases hq
  intro d hd
  have hda : d ≠ a := fun z => by rw [z, h2] at hd; cases hd
  have hdq : d ≠ q := fun z => by rw [z, h1] at hd; cases hd
  have hd0 : f d = none := (h3 d hda hdq).symm.trans hd
  conv => whnf
  refine ⟨_, _, _, _, _, c_AL_init (va_up_self _ _ _), ?_, ?_⟩
  · decide
  rintro r f' ⟨rfl, rfl⟩
  refine x_o (x_u (Ne.symm hda) (x_u (Ne.symm hda) h2)) ?_
  refine x_o (va_up_self _ _ _) ?_
  refine And.intro (Or.inl rfl) ?_
  refine x_o (va_up_self _ _ _) ?_
  refine And.intro (Or.inl rfl) ?_
  refine x_o (va_up_self _ _ _) ?_
  refine x_o (va_up_self _ _ _) ?_
  refine x_o (va_up_self _ _ _) ?_
  have k1 : ∀ b, b ≠ a → b ≠ q → b ≠ d → ∀ e1 e2 e3 e4 e5 e6 e7 e8 : Option XE, va_up (va_up (va_up (va_up (va_up (va_up (va_up (va_up f1 d e1) d e2) a e3) a e4) a e5) a e6) a e7) a e8 b = f b := by
    intro b b1 b2 b3 e1 e2 e3 e4 e5 e6 e7 e8
    rw [va_up_ne _ _ b1, va_up_ne _ _ b1, va_up_ne _ _ b1, va_up_ne _ _ b1, va_up_ne _ _ b1, va_up_ne _ _ b1, va_up_ne _ _ b3, va_up_ne _ _ b3]
    exact h3 b b1 b2
  have kq : ∀ e1 e2 e3 e4 e5 e6 e7 e8 : Option XE, va_up (va_up (va_up (va_up (va_up (va_up (va_up (va_up f1 d e1) d e2) a e3) a e4) a e5) a e6) a e7) a e8 q = e_al X := by
    intro e1 e2 e3 e4 e5 e6 e7 e8
    rw [va_up_ne _ _ hqa, va_up_ne _ _ hqa, va_up_ne _ _ hqa, va_up_ne _ _ hqa, va_up_ne _ _ hqa, va_up_ne _ _ hqa, va_up_ne _ _ (Ne.symm hdq), va_up_ne _ _ (Ne.symm hdq)]
    exact h1
  have kd : ∀ e1 e2 e3 e4 e5 e6 e7 e8 : Option XE, va_up (va_up (va_up (va_up (va_up (va_up (va_up (va_up f1 d e1) d e2) a e3) a e4) a e5) a e6) a e7) a e8 d = e2 := by
    intro e1 e2 e3 e4 e5 e6 e7 e8
    rw [va_up_ne _ _ hda, va_up_ne _ _ hda, va_up_ne _ _ hda, va_up_ne _ _ hda, va_up_ne _ _ hda, va_up_ne _ _ hda, va_up_self]
  refine And.intro (fun hc => ?_) (fun hc => ?_)
  · refine st 54 _ _ _ _ _ _ rfl ?_
    exact mid _ _ q d 1 (Or.inr rfl) (by rw [if_pos (Or.inl hc)]) hq hd0 hdq hda hqa (kq _ _ _ _ _ _ _ _) (kd _ _ _ _ _ _ _ _) (va_up_self _ _ _) (fun b b1 b2 b3 => k1 b b1 b2 b3 _ _ _ _ _ _ _ _) rfl rfl
  · refine And.intro (fun hc2 => ?_) (fun hc2 => ?_)
    · refine st 58 _ _ _ _ _ _ rfl ?_
      exact mid _ _ q d 0 (Or.inl rfl) (by rw [if_neg (fun z => z.elim hc hc2)]) hq hd0 hdq hda hqa (kq _ _ _ _ _ _ _ _) (kd _ _ _ _ _ _ _ _) (va_up_self _ _ _) (fun b b1 b2 b3 => k1 b b1 b2 b3 _ _ _ _ _ _ _ _) rfl rfl
    · refine st 54 _ _ _ _ _ _ rfl ?_
      exact mid _ _ q d 1 (Or.inr rfl) (by rw [if_pos (Or.inr hc2)]) hq hd0 hdq hda hqa (kq _ _ _ _ _ _ _ _) (kd _ _ _ _ _ _ _ _) (va_up_self _ _ _) (fun b b1 b2 b3 => k1 b b1 b2 b3 _ _ _ _ _ _ _ _) rfl rfl
end
