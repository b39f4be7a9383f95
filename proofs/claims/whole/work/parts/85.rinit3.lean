/-! The reference's constructor: the method. -/
section
variable {X : XC} {f f' : XH} {A : Nat → Nat → Nat} {DA : Nat → Nat} {v : SV} {L : SL}
theorem PC.off {r : Nat} {e : Option XE} (h : PC X f A DA v L) (hr : ∀ k i, cc_live v L k i → A k i ≠ r) (hrd : ∀ l, cl_live v L l → DA l ≠ r) (hrk : r ≠ x_k X 0) : PC X (va_up f r e) A DA v L := by
  obtain ⟨p1, p2, p3, p4, ⟨g0, p5⟩, p6, p7⟩ := h
  exact ⟨fun k i e he => (va_up_ne _ _ (hr k i (cc_cell_live he))).trans (p1 k i e he), fun l hl => al_same (p2 l hl) (va_up_ne _ _ (hr _ _ hl.2)) (va_up_ne _ _ (hrd l hl)), p3, p4, ⟨g0, (va_up_ne _ _ (Ne.symm hrk)).trans p5⟩, p6, fun k i hl => by rw [va_up_ne _ _ (hr k i hl)]; exact p7 k i hl⟩
theorem rvk_s (k : Nat) : up2 (up2 (up2 (rvk v k) 129 k (-1)) 134 k (-1)) 142 k (-1) = rvk v (k + 1) := by
  funext c i
  unfold up2 rvk
  by_cases z : (c = 129 ∨ c = 134 ∨ c = 142) ∧ i = k
  · obtain ⟨z1, rfl⟩ := z
    rcases z1 with rfl | rfl | rfl <;> simp
  · rw [if_neg (by omega), if_neg (by omega), if_neg (by omega)]
    by_cases y : c = 60 ∧ i = 0
    · rw [if_pos y, if_pos y]
    · rw [if_neg y, if_neg y]
      by_cases x : c = 129 ∨ c = 134 ∨ c = 142
      · rw [if_pos x, if_pos x]
        by_cases w : i < k
        · rw [if_pos w, if_pos (by omega)]
        · rw [if_neg w, if_neg (by omega)]
      · rw [if_neg x, if_neg x]
theorem c_R_init {r : Nat} (hP0 : PS X f A DA v L) (hr0 : f r = none) (h60 : v 60 0 = 0) : Holds X y_R_init [.ref r] (va_up f r (some (.inl (11, x_df 11)))) 10 400 36 3832 (fun q f' => q = none ∧ ∃ (A' : Nat → Nat → Nat) (DA' : Nat → Nat), (A' 0 0 = A 0 0 ∧ A' 20 0 = r) ∧ PS X f' A' DA' (rvk v 8) L) := by
  have hr : ∀ k i, cc_live v L k i → A k i ≠ r := fun k i hl z => hP0.1.2.2.2.2.2.2 k i hl (z ▸ hr0)
  have hrd : ∀ l, cl_live v L l → DA l ≠ r := by
    intro l q z
    obtain ⟨m, -, ⟨-, -, g, e⟩ | ⟨cap, G, e, -⟩⟩ := hP0.1.2.1 l q
    · rw [z, hr0] at e; cases e
    · rw [z, hr0] at e; cases e
  have hrk : r ≠ x_k X 0 := fun z => by
    obtain ⟨g0, h⟩ := hP0.1.2.2.2.2.1
    rw [← z, hr0] at h; cases h
  have hP : PS X (va_up f r (some (.inl (11, x_df 11)))) A DA v L := ⟨hP0.1.off hr hrd hrk, hP0.2⟩
  refine x_met ok_R_init (by simp [x_one]) (Nat.le_of_ble_eq_true rfl) fun go st => ?_
  refine st 0 ([(.aload_n 0, 1, 0, [], 0), (.invokespecial 1, 3, 0, [], 0)] ++ (r_sp.flatMap q_op ++ [(.iconst 0, 1, 0, [], 0), (.istore_n 1, 1, 1, [], 0)])) _ _ _ _ _ (by rfl) ?_
  show x_run X 10 400 36 3832 go _ (r_sp.flatMap q_op ++ [(.iconst 0, 1, 0, [], 0), (.istore_n 1, 1, 1, [], 0)]) 4 (x_arg [.ref r]) [] _ 0 0
  refine r_al (r := r) rfl r_sp _ (x_df 11) 4 0 0 (va_up_self _ _ _) rfl (fun e he => ⟨(r_sp_e e he).1, (r_sp_e e he).2.1⟩) (by decide) (by decide) (by decide) (fun f' fs' D pc' g1 g2 g3 g4 g5 g6 g7 => ?_)
  have e7 : pc' = 293 := g7.trans (by decide)
  subst e7
  have hPS := PS_ref hP h60 hr hrd hrk g1 g2 g3 g4 g5 g6 (by rw [va_up_self]; exact fun q => nomatch q)
  obtain ⟨A', eA⟩ : ∃ A' : Nat → Nat → Nat, A' = fun k i => if k = 20 ∧ i = 0 then r else if k = 21 then D i else A k i := ⟨_, rfl⟩
  rw [← eA] at hPS
  have a0 : A' 0 0 = A 0 0 := by rw [eA]; simp
  have a20 : A' 20 0 = r := by rw [eA]; simp
  obtain ⟨ago, hago⟩ : ∃ ago : AJ, ago = fun pc als ast v L nc ns => ∀ f DA, PS X f A' DA v L → go pc (cvl A' als) (ast.map (cv A')) f nc ns := ⟨_, rfl⟩
  have st' : ∀ pc ops ls st' w M nc ns, b_R_init.lookup pc = some ops → ops.all a_cok = true → a_run X 10 400 36 3832 ago (fun ra v' L' => ra = none ∧ v' = rvk v 8 ∧ L' = L) ops pc ls st' w M nc ns → ago pc ls st' w M nc ns := by
    intro pc ops ls st' w M nc ns hl hb hr
    rw [hago]
    intro f DA hP
    refine st pc ops _ _ f nc ns hl (a_run_ok (fun pc als ast v L f DA nc ns p q => by rw [hago] at q; exact q f DA p) (fun ra v' L' f' DA' p q => ?_) ops hb pc ls st' w M f DA nc ns hP hr)
    obtain ⟨rfl, rfl, rfl⟩ := q
    exact ⟨rfl, A', DA', ⟨a0, a20⟩, p⟩
  have loop : ∀ (n k : Nat) (ls : ALc), k + n = 8 → (∀ c i, iS (rvk v k c i)) → ls 0 = some (aR 20 0) → ls 1 = some (aI k) → ago 295 ls [] (rvk v k) L 36 3832 := by
    intro n
    induction n with
    | zero =>
      intro k ls hn hS l0 l1
      have hk : k = 8 := by omega
      subst hk
      refine st' 295 _ _ _ _ _ _ _ rfl (by decide +kernel) ?_
      repeat' first | (refine a_si ?sd ?_; case sd => (first | (first | assumption | exact hS _ _ | omega | (constructor <;> omega) | (show _ = (1 : Int) ∨ _ = (2 : Int) ∨ _ = (3 : Int); omega)) | (refine ⟨?_, ?_⟩ <;> (first | assumption | exact hS _ _ | omega | (constructor <;> omega) | (show _ = (1 : Int) ∨ _ = (2 : Int) ∨ _ = (3 : Int); omega))) | (refine ⟨?_, ?_, ?_⟩ <;> (first | assumption | exact hS _ _ | omega | (constructor <;> omega) | (show _ = (1 : Int) ∨ _ = (2 : Int) ∨ _ = (3 : Int); omega))) | (refine ⟨?_, ?_, ?_, ?_⟩ <;> (first | assumption | exact hS _ _ | omega | (constructor <;> omega) | (show _ = (1 : Int) ∨ _ = (2 : Int) ∨ _ = (3 : Int); omega))) | (refine ⟨⟨?_, ?_⟩, ?_, ?_⟩ <;> (first | assumption | exact hS _ _ | omega | (constructor <;> omega) | (show _ = (1 : Int) ∨ _ = (2 : Int) ∨ _ = (3 : Int); omega))) | decide | (simp only [r_note, up2, Int.toNat_natCast, a_live5, not_true_eq_false, not_false_eq_true, Nat.reduceEqDiff, false_and, true_and, and_true, and_false, and_self, if_true, if_false, ↓reduceIte, reduceCtorEq]; first | (first | assumption | exact hS _ _ | omega | (constructor <;> omega) | (show _ = (1 : Int) ∨ _ = (2 : Int) ∨ _ = (3 : Int); omega)) | (refine ⟨?_, ?_⟩ <;> (first | assumption | exact hS _ _ | omega | (constructor <;> omega) | (show _ = (1 : Int) ∨ _ = (2 : Int) ∨ _ = (3 : Int); omega))) | (refine ⟨?_, ?_, ?_⟩ <;> (first | assumption | exact hS _ _ | omega | (constructor <;> omega) | (show _ = (1 : Int) ∨ _ = (2 : Int) ∨ _ = (3 : Int); omega))) | (refine ⟨?_, ?_, ?_, ?_⟩ <;> (first | assumption | exact hS _ _ | omega | (constructor <;> omega) | (show _ = (1 : Int) ∨ _ = (2 : Int) ∨ _ = (3 : Int); omega))) | (refine ⟨⟨?_, ?_⟩, ?_, ?_⟩ <;> (first | assumption | exact hS _ _ | omega | (constructor <;> omega) | (show _ = (1 : Int) ∨ _ = (2 : Int) ∨ _ = (3 : Int); omega))) | decide))) | (refine And.intro ?_ ?_ <;> (intro hc; (try simp only [r_note, up2, Int.toNat_natCast, a_live5, not_true_eq_false, not_false_eq_true, Nat.reduceEqDiff, false_and, true_and, and_true, and_false, and_self, if_true, if_false, ↓reduceIte, reduceCtorEq] at hc); try (exfalso; first | assumption | omega))) | (refine x_som_i l0 ?_) | (refine x_som_i l1 ?_) | (refine x_som_i l2 ?_) | (refine x_som_i l3 ?_) | (refine x_som_i l4 ?_) | (refine x_som_i l5 ?_) | (refine x_som_i l6 ?_) | (refine x_som_i l7 ?_) | (refine x_som_i l8 ?_) | (refine x_som_i l9 ?_) | (refine a_wo ?sd ?_; case sd => (first | exact hS _ _ | assumption | (constructor <;> omega) | (simp only [r_note, up2, Int.toNat_natCast, a_live5, not_true_eq_false, not_false_eq_true, Nat.reduceEqDiff, false_and, true_and, and_true, and_false, and_self, if_true, if_false, ↓reduceIte, reduceCtorEq]; first | exact hS _ _ | assumption | (constructor <;> omega))))
      refine st' 328 _ _ _ _ _ _ _ rfl (by decide +kernel) ?_
      repeat' first | (refine a_si ?sd ?_; case sd => (first | (first | assumption | exact hS _ _ | omega | (constructor <;> omega) | (show _ = (1 : Int) ∨ _ = (2 : Int) ∨ _ = (3 : Int); omega)) | (refine ⟨?_, ?_⟩ <;> (first | assumption | exact hS _ _ | omega | (constructor <;> omega) | (show _ = (1 : Int) ∨ _ = (2 : Int) ∨ _ = (3 : Int); omega))) | (refine ⟨?_, ?_, ?_⟩ <;> (first | assumption | exact hS _ _ | omega | (constructor <;> omega) | (show _ = (1 : Int) ∨ _ = (2 : Int) ∨ _ = (3 : Int); omega))) | (refine ⟨?_, ?_, ?_, ?_⟩ <;> (first | assumption | exact hS _ _ | omega | (constructor <;> omega) | (show _ = (1 : Int) ∨ _ = (2 : Int) ∨ _ = (3 : Int); omega))) | (refine ⟨⟨?_, ?_⟩, ?_, ?_⟩ <;> (first | assumption | exact hS _ _ | omega | (constructor <;> omega) | (show _ = (1 : Int) ∨ _ = (2 : Int) ∨ _ = (3 : Int); omega))) | decide | (simp only [r_note, up2, Int.toNat_natCast, a_live5, not_true_eq_false, not_false_eq_true, Nat.reduceEqDiff, false_and, true_and, and_true, and_false, and_self, if_true, if_false, ↓reduceIte, reduceCtorEq]; first | (first | assumption | exact hS _ _ | omega | (constructor <;> omega) | (show _ = (1 : Int) ∨ _ = (2 : Int) ∨ _ = (3 : Int); omega)) | (refine ⟨?_, ?_⟩ <;> (first | assumption | exact hS _ _ | omega | (constructor <;> omega) | (show _ = (1 : Int) ∨ _ = (2 : Int) ∨ _ = (3 : Int); omega))) | (refine ⟨?_, ?_, ?_⟩ <;> (first | assumption | exact hS _ _ | omega | (constructor <;> omega) | (show _ = (1 : Int) ∨ _ = (2 : Int) ∨ _ = (3 : Int); omega))) | (refine ⟨?_, ?_, ?_, ?_⟩ <;> (first | assumption | exact hS _ _ | omega | (constructor <;> omega) | (show _ = (1 : Int) ∨ _ = (2 : Int) ∨ _ = (3 : Int); omega))) | (refine ⟨⟨?_, ?_⟩, ?_, ?_⟩ <;> (first | assumption | exact hS _ _ | omega | (constructor <;> omega) | (show _ = (1 : Int) ∨ _ = (2 : Int) ∨ _ = (3 : Int); omega))) | decide))) | (refine And.intro ?_ ?_ <;> (intro hc; (try simp only [r_note, up2, Int.toNat_natCast, a_live5, not_true_eq_false, not_false_eq_true, Nat.reduceEqDiff, false_and, true_and, and_true, and_false, and_self, if_true, if_false, ↓reduceIte, reduceCtorEq] at hc); try (exfalso; first | assumption | omega))) | (refine x_som_i l0 ?_) | (refine x_som_i l1 ?_) | (refine x_som_i l2 ?_) | (refine x_som_i l3 ?_) | (refine x_som_i l4 ?_) | (refine x_som_i l5 ?_) | (refine x_som_i l6 ?_) | (refine x_som_i l7 ?_) | (refine x_som_i l8 ?_) | (refine x_som_i l9 ?_) | (refine a_wo ?sd ?_; case sd => (first | exact hS _ _ | assumption | (constructor <;> omega) | (simp only [r_note, up2, Int.toNat_natCast, a_live5, not_true_eq_false, not_false_eq_true, Nat.reduceEqDiff, false_and, true_and, and_true, and_false, and_self, if_true, if_false, ↓reduceIte, reduceCtorEq]; first | exact hS _ _ | assumption | (constructor <;> omega))))
      exact ⟨rfl, rfl, rfl⟩
    | succ n ih =>
      intro k ls hn hS l0 l1
      have h60 : rvk v k 60 0 = 1 := by unfold rvk; rw [if_pos ⟨rfl, rfl⟩]
      have im : iS (-1 : Int) := by constructor <;> decide
      have hS' : ∀ c i, iS (rvk v (k + 1) c i) := by
        rw [← rvk_s]
        exact iS_up (iS_up (iS_up hS im) im) im
      refine st' 295 _ _ _ _ _ _ _ rfl (by decide +kernel) ?_
      repeat' first | (refine a_si ?sd ?_; case sd => (first | (first | assumption | exact hS _ _ | omega | (constructor <;> omega) | (show _ = (1 : Int) ∨ _ = (2 : Int) ∨ _ = (3 : Int); omega)) | (refine ⟨?_, ?_⟩ <;> (first | assumption | exact hS _ _ | omega | (constructor <;> omega) | (show _ = (1 : Int) ∨ _ = (2 : Int) ∨ _ = (3 : Int); omega))) | (refine ⟨?_, ?_, ?_⟩ <;> (first | assumption | exact hS _ _ | omega | (constructor <;> omega) | (show _ = (1 : Int) ∨ _ = (2 : Int) ∨ _ = (3 : Int); omega))) | (refine ⟨?_, ?_, ?_, ?_⟩ <;> (first | assumption | exact hS _ _ | omega | (constructor <;> omega) | (show _ = (1 : Int) ∨ _ = (2 : Int) ∨ _ = (3 : Int); omega))) | (refine ⟨⟨?_, ?_⟩, ?_, ?_⟩ <;> (first | assumption | exact hS _ _ | omega | (constructor <;> omega) | (show _ = (1 : Int) ∨ _ = (2 : Int) ∨ _ = (3 : Int); omega))) | decide | (simp only [r_note, up2, Int.toNat_natCast, a_live5, not_true_eq_false, not_false_eq_true, Nat.reduceEqDiff, false_and, true_and, and_true, and_false, and_self, if_true, if_false, ↓reduceIte, reduceCtorEq]; first | (first | assumption | exact hS _ _ | omega | (constructor <;> omega) | (show _ = (1 : Int) ∨ _ = (2 : Int) ∨ _ = (3 : Int); omega)) | (refine ⟨?_, ?_⟩ <;> (first | assumption | exact hS _ _ | omega | (constructor <;> omega) | (show _ = (1 : Int) ∨ _ = (2 : Int) ∨ _ = (3 : Int); omega))) | (refine ⟨?_, ?_, ?_⟩ <;> (first | assumption | exact hS _ _ | omega | (constructor <;> omega) | (show _ = (1 : Int) ∨ _ = (2 : Int) ∨ _ = (3 : Int); omega))) | (refine ⟨?_, ?_, ?_, ?_⟩ <;> (first | assumption | exact hS _ _ | omega | (constructor <;> omega) | (show _ = (1 : Int) ∨ _ = (2 : Int) ∨ _ = (3 : Int); omega))) | (refine ⟨⟨?_, ?_⟩, ?_, ?_⟩ <;> (first | assumption | exact hS _ _ | omega | (constructor <;> omega) | (show _ = (1 : Int) ∨ _ = (2 : Int) ∨ _ = (3 : Int); omega))) | decide))) | (refine And.intro ?_ ?_ <;> (intro hc; (try simp only [r_note, up2, Int.toNat_natCast, a_live5, not_true_eq_false, not_false_eq_true, Nat.reduceEqDiff, false_and, true_and, and_true, and_false, and_self, if_true, if_false, ↓reduceIte, reduceCtorEq] at hc); try (exfalso; first | assumption | omega))) | (refine x_som_i l0 ?_) | (refine x_som_i l1 ?_) | (refine x_som_i l2 ?_) | (refine x_som_i l3 ?_) | (refine x_som_i l4 ?_) | (refine x_som_i l5 ?_) | (refine x_som_i l6 ?_) | (refine x_som_i l7 ?_) | (refine x_som_i l8 ?_) | (refine x_som_i l9 ?_) | (refine a_wo ?sd ?_; case sd => (first | exact hS _ _ | assumption | (constructor <;> omega) | (simp only [r_note, up2, Int.toNat_natCast, a_live5, not_true_eq_false, not_false_eq_true, Nat.reduceEqDiff, false_and, true_and, and_true, and_false, and_self, if_true, if_false, ↓reduceIte, reduceCtorEq]; first | exact hS _ _ | assumption | (constructor <;> omega))))
      simp only [Int.toNat_natCast]
      rw [rvk_s]
      exact ih (k + 1) _ (by omega) hS' l0 rfl
  have h9 := loop 8 0 (va_up (a_arg [aR 20 0]) 1 (some (aI 0))) rfl hPS.2 rfl rfl
  rw [hago] at h9
  have h10 := h9 f' DA hPS
  rw [cvl_up, ← x_arg_map] at h10
  have e1 : [aR 20 0].map (cv A') = [Value.ref r] := by show [Value.ref (A' 20 0)] = _; rw [a20]
  rw [e1] at h10
  exact h10
end
