/-! A new session in the picture. -/
section
variable {X : XC} {f r1 : XH} {A : Nat → Nat → Nat} {DA : Nat → Nat} {v w : SV} {L : SL} {own : Int → Nat}
def csW (v : SV) : SV := up2 (up2 (up2 (up2 v 5 0 (v 5 0 + 1)) 6 (bAnd (v 4 0) 63).toNat (wr (1 + 16 * 0 + 256 * v 5 0))) 4 0 (v 4 0 + 1)) 3 0 (v 3 0 + 1)
theorem csW_c {c : Nat} (h : c < 3 ∨ 6 < c) : csW v c = v c := by
  funext i
  unfold csW
  rw [up2_c (by omega), up2_c (by omega), up2_c (by omega), up2_c (by omega)]
theorem cs_W {s n : Nat} (h4 : 0 ≤ v 4 0) (hb : v 4 0 < 3100) {c i : Nat} (h : c < 20 ∨ 43 < c ∨ (c ≠ 26 ∧ i ≠ 8 + s) ∨ (c = 26 ∧ i % 32 ≠ 8 + s)) : csV v s n c i = csW v c i := by
  have e : m_note (up2 v 5 0 (v 5 0 + 1)) 1 0 (v 5 0) = up2 (up2 (up2 v 5 0 (v 5 0 + 1)) 6 (bAnd (v 4 0) 63).toNat (wr (1 + 16 * 0 + 256 * v 5 0))) 4 0 (v 4 0 + 1) := by
    unfold m_note
    rw [up2_c (c' := 4) (by omega), wr_s (z := v 4 0 + 1) (by constructor <;> omega)]
  unfold csV csW
  by_cases z3 : c = 3 ∧ i = 0
  · rw [if_pos z3, z3.1, z3.2, up2_s]
  · rw [if_neg z3]
    by_cases z4 : 4 ≤ c ∧ c ≤ 6
    · rw [if_pos z4, up2_c (by omega), e]
    · rw [if_neg z4, if_neg (by omega)]
      have : up2 (up2 (up2 (up2 v 5 0 (v 5 0 + 1)) 6 (bAnd (v 4 0) 63).toNat (wr (1 + 16 * 0 + 256 * v 5 0))) 4 0 (v 4 0 + 1)) 3 0 (v 3 0 + 1) c i = v c i := by
        by_cases y : c = 3
        · rw [up2_i (by omega), up2_c (by omega), up2_c (by omega), up2_c (by omega)]
        · rw [up2_c y, up2_c (by omega), up2_c (by omega), up2_c (by omega)]
      rw [this]
theorem PS_cs1 (hP : PS X f A DA v L) (hR : RS own v L w) {s n : Nat} (hs : (L 0).length = s) (s24 : s < 24) (hn : n < 8) (h40 : v 40 n = 1) (hb : v 4 0 < 3100) {a q : Nat} (fa : f a = none) (fq : f q = none) (haq : a ≠ q) (ga : r1 a = some (.inl (8, [.ref q, .ref (A 0 1), .int (iI (v 42 n)), .int 3, .ref (A 9 n), .ref (A 0 3), .int (iI (v 5 0)), .int 1, .int 0, .int (iI (v 3 0 + 1)), .int (iI (v 2 0))]))) (gq : r1 q = e_al X) (g1 : r1 (A 0 1) = some (.inl (0, [.ref (A 0 2), .int (iI (v 4 0 + 1)), .int (iI (v 5 0 + 1))]))) (g2 : r1 (A 0 2) = some (.inr (0, 64, va_up (fun j => .int (iI (v 6 j))) (bAnd (v 4 0) 63).toNat (.int (iI (1 + 16 * 0 + 256 * v 5 0)))))) (g3 : r1 (A 0 3) = some (.inl (1, [.int (iI (v 2 0)), .int (iI (v 3 0 + 1))]))) (g7 : r1 (A 0 7) = some (.inr (3, 32, va_up (fun j => if v 20 j = 0 then .null else .ref (A 5 j)) (8 + s) (.ref a)))) (fr : ∀ b, b ≠ a → b ≠ q → b ≠ A 0 1 → b ≠ A 0 2 → b ≠ A 0 3 → b ≠ A 0 7 → r1 b = f b) : PS X r1 (fun k i => if i = 8 + s ∧ k = 5 then a else if i = 8 + s ∧ k = 6 then q else A k i) (fun l => if l = 108 + s then x_k X 0 else DA l) (csV v s n) (upL L (108 + s) []) := by
  obtain ⟨d1, d2, d3, d4, d5, d6, d7⟩ := hR.2.2.2
  have h4 := hR.2.2.1.2.1
  have hS := hP.2
  have z0 : ∀ i, i ≤ 10 → cc_live v L 0 i := fun i hi => hi
  have inj := hP.1.2.2.1
  have u7 := hP.1.2.2.2.2.2.2
  have nn : ∀ i b, i ≤ 10 → f b = none → A 0 i ≠ b := fun i b hi hb z => u7 0 i (z0 i hi) (z ▸ hb)
  have nA : ∀ i j, i ≤ 10 → j ≤ 10 → i ≠ j → A 0 i ≠ A 0 j := fun i j hi hj h z => h (inj _ _ _ _ (z0 i hi) (z0 j hj) z).2
  have hd : v 20 (8 + s) = 0 := by
    rcases hR.2.1.2.2.2.2.2.2.1.1 s s24 with ⟨z, _⟩ | ⟨_, z⟩
    · omega
    · exact z
  -- the journal and the clock
  have P1 := hP.up 5 0 (v 5 0 + 1) (by decide) (by constructor <;> omega) (k := 0) (j := 1) rfl (e := .inl (0, [.ref (A 0 2), .int (iI (v 4 0)), .int (iI (v 5 0 + 1))])) rfl
  have P2 := P1.up 6 (bAnd (v 4 0) 63).toNat (wr (1 + 16 * 0 + 256 * v 5 0)) (by decide) (wr_i _) (k := 0) (j := 2) rfl (e := .inr (0, 64, va_up (fun j => .int (iI (v 6 j))) (bAnd (v 4 0) 63).toNat (.int (iI (1 + 16 * 0 + 256 * v 5 0))))) (by
    rw [← wr_e (1 + 16 * 0 + 256 * v 5 0), ar_up]; rfl)
  have P3 := P2.up 4 0 (v 4 0 + 1) (by decide) (by constructor <;> omega) (k := 0) (j := 1) rfl (e := .inl (0, [.ref (A 0 2), .int (iI (v 4 0 + 1)), .int (iI (v 5 0 + 1))])) rfl
  have P4 := P3.up 3 0 (v 3 0 + 1) (by decide) (by constructor <;> omega) (k := 0) (j := 3) rfl (e := .inl (1, [.int (iI (v 2 0)), .int (iI (v 3 0 + 1))])) rfl
  have ev : up2 (up2 (up2 (up2 v 5 0 (v 5 0 + 1)) 6 (bAnd (v 4 0) 63).toNat (wr (1 + 16 * 0 + 256 * v 5 0))) 4 0 (v 4 0 + 1)) 3 0 (v 3 0 + 1) = csW v := rfl
  rw [ev] at P4
  obtain ⟨f1, ef⟩ : ∃ f1, va_up (va_up (va_up (va_up f (A 0 1) (some (.inl (0, [.ref (A 0 2), .int (iI (v 4 0)), .int (iI (v 5 0 + 1))])))) (A 0 2) (some (.inr (0, 64, va_up (fun j => .int (iI (v 6 j))) (bAnd (v 4 0) 63).toNat (.int (iI (1 + 16 * 0 + 256 * v 5 0))))))) (A 0 1) (some (.inl (0, [.ref (A 0 2), .int (iI (v 4 0 + 1)), .int (iI (v 5 0 + 1))])))) (A 0 3) (some (.inl (1, [.int (iI (v 2 0)), .int (iI (v 3 0 + 1))]))) = f1 := ⟨_, rfl⟩
  rw [ef] at P4
  have q3 : f1 (A 0 3) = r1 (A 0 3) := by rw [g3, ← ef, va_up_self]
  have q1 : f1 (A 0 1) = r1 (A 0 1) := by rw [g1, ← ef, va_up_ne _ _ (nA 1 3 (by omega) (by omega) (by omega)), va_up_self]
  have q2 : f1 (A 0 2) = r1 (A 0 2) := by rw [g2, ← ef, va_up_ne _ _ (nA 2 3 (by omega) (by omega) (by omega)), va_up_ne _ _ (nA 2 1 (by omega) (by omega) (by omega)), va_up_self]
  have qf : ∀ b, b ≠ A 0 1 → b ≠ A 0 2 → b ≠ A 0 3 → f1 b = f b := fun b b1 b2 b3 => by rw [← ef, va_up_ne _ _ b3, va_up_ne _ _ b1, va_up_ne _ _ b2, va_up_ne _ _ b1]
  have fa1 : f1 a = none := (qf a (Ne.symm (nn 1 a (by omega) fa)) (Ne.symm (nn 2 a (by omega) fa)) (Ne.symm (nn 3 a (by omega) fa))).trans fa
  have fq1 : f1 q = none := (qf q (Ne.symm (nn 1 q (by omega) fq)) (Ne.symm (nn 2 q (by omega) fq)) (Ne.symm (nn 3 q (by omega) fq))).trans fq
  have hr : ∀ b, f1 b ≠ none → b ≠ A 0 7 → r1 b = f1 b := by
    intro b hb b7
    by_cases b1 : b = A 0 1
    · rw [b1, q1]
    · by_cases b2 : b = A 0 2
      · rw [b2, q2]
      · by_cases b3 : b = A 0 3
        · rw [b3, q3]
        · rw [qf b b1 b2 b3]
          exact fr b (fun z => hb (z ▸ fa1)) (fun z => hb (z ▸ fq1)) b1 b2 b3 b7
  have c1 : ∀ c, (c < 3 ∨ 6 < c) → csW v c = v c := fun c hc => csW_c hc
  have hW1 : WF (csW v) L := WF_c hR.1 (fun c i hc => congrFun (c1 c (by unfold wfc at hc; omega)) i)
  obtain ⟨p11, p16, p50⟩ := WF_ptr hW1 (n := 8 + s) (by rw [c1 20 (by omega)]; exact hd)
  have hv : ∀ c i, c ≠ 1 → (c < 20 ∨ 43 < c ∨ (c ≠ 26 ∧ i ≠ 8 + s) ∨ (c = 26 ∧ i % 32 ≠ 8 + s)) → csV v s n c i = csW v c i := fun c i _ h => cs_W h4 hb h
  have n20 : csV v s n 20 (8 + s) = 3 := csV_n (by omega)
  have n40 : csV v s n 40 = v 40 := csV_c (by omega) (by omega) (by omega)
  have lv : cc_live (csW v) L = cc_live v L := by
    funext k i
    unfold cc_live
    rw [c1 20 (by omega), c1 40 (by omega), c1 60 (by omega)]
  have u7' := P4.1.2.2.2.2.2.2
  refine ⟨PC_new P4.1 (n := 8 + s) (fun k => k = 5 ∨ k = 6) (fun k hk => by omega) (fun k i hk => ?_) (fun k hk => ?_) hv (fun k h5 h10 hk => ?_) (upL_n (by omega)) p11 p16 p50 (fun p hp z => ?_) (fun k hk => ?_) (fun k k' hk hk' z => ?_) (fun b hb1 h1 h2 h3 => hr b hb1 h2) (fun i hi => ?_) (fun k x h5 h10 hx => ?_) (fun l hl => ?_) (WF_el hW1) (fun l h1 h2 h3 => ?_) (fun l h => ?_), ?_⟩
  · rw [if_neg (by omega), if_neg (by omega)]
  · rw [lv]
    rcases hk with rfl | rfl <;> (unfold cc_live; simp only; omega)
  · have : k = 5 ∨ k = 6 ∨ k = 7 ∨ k = 8 ∨ k = 9 ∨ k = 10 := by omega
    rw [lv]
    rcases this with rfl | rfl | rfl | rfl | rfl | rfl
    · right; decide
    · right; decide
    · unfold cc_live at hk; simp only [n20] at hk; omega
    · unfold cc_live at hk; simp only [n20] at hk; omega
    · left; unfold cc_live at *; simp only [n40] at hk ⊢; exact hk
    · left; unfold cc_live at *; simp only [n40] at hk ⊢; exact hk
  · rw [c1 20 (by omega)] at hp
    rw [c1 34 (by omega)] at z
    obtain ⟨s', -, -, y, -⟩ := RS_34 hR hp
    omega
  · rcases hk with rfl | rfl
    · simp only [true_and, ↓reduceIte]; exact ⟨fa1, by rw [ga]; exact fun z => nomatch z⟩
    · simp only [true_and, ↓reduceIte, Nat.reduceEqDiff]; exact ⟨fq1, by rw [gq]; exact fun z => nomatch z⟩
  · rcases hk with rfl | rfl <;> rcases hk' with rfl | rfl <;> simp only [true_and, ↓reduceIte, Nat.reduceEqDiff] at z <;> first | rfl | exact absurd z haq | exact absurd z.symm haq
  · rcases hi with rfl | rfl | rfl
    · refine ⟨_, rfl, ?_⟩
      rw [hr _ (u7' 0 0 (by rw [lv]; exact z0 0 (by omega))) (nA 0 7 (by omega) (by omega) (by omega)), P4.1.c 0 0 rfl, hv 1 0 |> fun _ => c1 1 (by omega), c1 0 (by omega), congrFun (csV_c (v := v) (s := s) (n := n) (c := 1) (by omega) (by omega) (by omega)) 0, congrFun (csV_c (v := v) (s := s) (n := n) (c := 0) (by omega) (by omega) (by omega)) 0]
      simp
    · refine ⟨_, rfl, ?_⟩
      rw [g7]
      congr 4
      funext j
      by_cases z : j = 8 + s
      · rw [z, va_up_self, n20, if_neg (by decide)]; simp
      · rw [va_up_ne _ _ z, hv 20 j (by omega) (by omega), c1 20 (by omega)]
        simp [z]
    · refine ⟨_, rfl, ?_⟩
      rw [hr _ (u7' 0 8 (by rw [lv]; exact z0 8 (by omega))) (nA 8 7 (by omega) (by omega) (by omega)), P4.1.c 0 8 rfl, c1 40 (by omega), n40]
      simp
  · have : k = 5 ∨ k = 6 ∨ k = 7 ∨ k = 8 ∨ k = 9 ∨ k = 10 := by omega
    rcases this with rfl | rfl | rfl | rfl | rfl | rfl
    · have N : ∀ c, (20 ≤ c ∧ c ≤ 22 ∨ 34 ≤ c ∧ c ≤ 39) → csV v s n c (8 + s) = csN v n c := fun c h => csV_n h
      have y : cc_cell (fun k i => if i = 8 + s ∧ k = 5 then a else if i = 8 + s ∧ k = 6 then q else A k i) (csV v s n) (upL L (108 + s) []) 5 (8 + s) = some (.inl (8, [.ref q, .ref (A 0 1), .int (iI (v 42 n)), .int 3, .ref (A 9 n), .ref (A 0 3), .int (iI (v 5 0)), .int 1, .int 0, .int (iI (v 3 0 + 1)), .int (iI (v 2 0))])) := by
        unfold cc_cell cc_tgt
        simp only [N 20 (by omega), N 21 (by omega), N 22 (by omega), N 34 (by omega), N 35 (by omega), N 36 (by omega), N 37 (by omega), N 38 (by omega), N 39 (by omega)]
        simp [csN]
        (repeat' apply And.intro) <;> rfl
      rw [y] at hx
      cases hx
      simpa using ga
    · cases hx
    · have y : ¬ csV v s n 20 (8 + s) = 1 := by rw [n20]; decide
      unfold cc_cell at hx
      simp only [y, false_and, if_false] at hx
      cases hx
    · cases hx
    · have y : cc_cell (fun k i => if i = 8 + s ∧ k = 5 then a else if i = 8 + s ∧ k = 6 then q else A k i) (csV v s n) (upL L (108 + s) []) 9 (8 + s) = cc_cell A (csW v) L 9 (8 + s) := by
        unfold cc_cell
        simp only [n40, c1 40 (by omega), c1 41 (by omega), c1 42 (by omega), c1 43 (by omega), csV_c (v := v) (s := s) (n := n) (c := 41) (by omega) (by omega) (by omega), csV_c (v := v) (s := s) (n := n) (c := 42) (by omega) (by omega) (by omega), csV_c (v := v) (s := s) (n := n) (c := 43) (by omega) (by omega) (by omega)]
        simp
      rw [y] at hx
      have hl := cc_cell_live hx
      simp only [Nat.reduceEqDiff, and_false, if_false]
      rw [hr _ (u7' 9 (8 + s) hl) (fun z => absurd (P4.1.2.2.1 _ _ _ _ hl (by rw [lv]; exact z0 7 (by omega)) z).1 (by decide))]
      exact P4.1.c 9 (8 + s) hx
    · cases hx
  · refine upL_n (fun z => ?_)
    have y := hl.2
    rw [z, show 108 + s = 100 + (8 + s) by omega, (cl6 (by omega)).1, lv] at y
    have y : v 20 (8 + s) = 1 ∨ v 20 (8 + s) = 2 ∨ v 20 (8 + s) = 3 := y
    omega
  · have y : (cl_obj l).1 = 6 := by have := cl_obj_k h1; omega
    have z := cl_obj_6 h1 y h3
    have z2 : l = 108 + s := by omega
    refine ⟨by rw [z2]; exact upL_s, ?_, if_pos z2⟩
    rw [y]
    simpa using gq
  · refine if_neg (fun z => h ?_)
    rw [z, show 108 + s = 100 + (8 + s) by omega, (cl6 (by omega)).1]
    exact ⟨Or.inr rfl, rfl⟩
  · intro c i
    by_cases z : i = 8 + s ∧ (20 ≤ c ∧ c ≤ 22 ∨ 34 ≤ c ∧ c ≤ 39)
    · obtain ⟨rfl, z⟩ := z
      rw [csV_n z]
      unfold csN
      repeat' split
      all_goals first
        | exact hS _ _
        | (constructor <;> omega)
    · by_cases z3 : c < 3 ∨ 6 < c
      · have : csV v s n c i = v c i := by
          unfold csV
          rw [if_neg (by omega), if_neg (by omega), if_neg z]
        rw [this]; exact hS c i
      · rw [cs_W h4 hb (by omega)]
        exact P4.2 c i
end
