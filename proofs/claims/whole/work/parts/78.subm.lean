/-! The class's submit: the method. -/
section
variable {X : XC} {v w : SV} {L : SL} {own : Int → Nat}
theorem c_submit (t m b : Int) (hR : RS own v L w) (hz : w 141 (L 1).length = 0) (ht : iS t) (hm : iS m) (hb : b = 0 ∨ b = 1) : AHoldsN X y_H_submit [aR 0 0, aI t, aI m, aI b] v L 80 2800 4 280 (AD (okSub v L t m) ((L 1).length : Nat) (stl (tsV v (L 1).length t.toNat m b, tsL L (L 1).length)).1 (stl (tsV v (L 1).length t.toNat m b, tsL L (L 1).length)).2 (-1) v L) := by
  refine a_smN fun hS => ?_
  have hW := hR.1
  have k24 := hW.2.2.2.2.2.1.1
  have no : ¬ okSub v L t m → AD (okSub v L t m) ((L 1).length : Nat) (stl (tsV v (L 1).length t.toNat m b, tsL L (L 1).length)).1 (stl (tsV v (L 1).length t.toNat m b, tsL L (L 1).length)).2 (-1) v L (some (aI (-1))) v L := fun h => ad_f h
  have s1 : iS (((L 1).length : Nat) : Int) := by constructor <;> omega
  refine a_metN ok_H_submit (Nat.le_of_ble_eq_true rfl) fun A go ago st con ast => ?_
  have fin : ∀ (ls : ALc), ls 0 = some (aR 0 0) → ls 2 = some (aI m) → ls 3 = some (aI b) → ls 4 = some (aR 5 t.toNat) → okSub v L t m → ago 43 ls [] v L 0 0 := by
    intro ls l0 l2 l3 l4 hok
    refine con _ _ _ _ _ _ _ fun f DA hP => ?_
    obtain ⟨o1, o2, o3, o4⟩ := id hok
    have tl := WF_live hW o2.2.2
    have s0 : cvl A ls 0 = some (.ref (A 0 0)) := cvl_at l0
    have s2 : cvl A ls 2 = some (.int (iI m)) := cvl_at l2
    have s3 : cvl A ls 3 = some (.int (iI b)) := cvl_at l3
    have s4 : cvl A ls 4 = some (.ref (A 5 t.toNat)) := cvl_at l4
    generalize cvl A ls = ls' at s0 s2 s3 s4
    have h00 := hP.1.c 0 0 rfl
    have hal := hP.1.2.1 1 ll1
    have hal2 : al_ok X f (A 0 10) (DA 1) (L 1).length (fun j => A 11 ((L 1).getD j 0)) := hal
    obtain ⟨mm, hlo, -⟩ := id hal2
    have z0 : ∀ i, i ≤ 10 → cc_live v L 0 i := fun i hi => hi
    have u7 := hP.1.2.2.2.2.2.2
    have nn : ∀ i b, i ≤ 10 → f b = none → A 0 i ≠ b := fun i b hi hb z => u7 0 i (z0 i hi) (z ▸ hb)
    have n010 : A 0 0 ≠ A 0 10 := fun z => absurd (hP.1.2.2.1 _ _ _ _ (z0 0 (by omega)) (z0 10 (by omega)) z).2 (by decide)
    have hel : ∀ j, j < (L 1).length → (al_el f (A 11 ((L 1).getD j 0)) ∧ x_elo f (.ref (A 11 ((L 1).getD j 0)))) ∧ A 11 ((L 1).getD j 0) ≠ A 0 10 ∧ f (A 11 ((L 1).getD j 0)) ≠ none := by
      intro j hj
      have lv : cc_live v L 11 ((L 1).getD j 0) := by
        show (L 1).getD j 0 < (L 1).length
        rw [(hW.2.2.2.2.2.1.2 j hj).1]; exact hj
      have q := cl_elo (l := 1) hP.1 lv
      exact ⟨q.1, q.2 0 10 rfl ll1, u7 _ _ lv⟩
    refine st 43 _ _ _ _ _ _ rfl ?_
    conv => whnf
    refine x_som_i s0 ?_
    refine x_o h00 ?_
    refine x_o hlo ?_
    conv => whnf
    refine ⟨_, _, _, _, _, c_AL_size' hal2, ?_, ?_⟩
    · decide
    rintro r f0 ⟨rfl, e0⟩
    rw [e0]
    conv => whnf
    refine x_som_i ((va_up_ne _ _ (by decide)).trans s0) ?_
    refine x_o h00 ?_
    intro a ha
    have na : ∀ i, i ≤ 10 → A 0 i ≠ a := fun i hi => nn i a hi ha
    conv => whnf
    refine x_som_i ((va_up_ne _ _ (by decide)).trans s4) ?_
    conv => whnf
    refine x_som_i ((va_up_ne _ _ (by decide)).trans s2) ?_
    conv => whnf
    refine x_som_i ((va_up_ne _ _ (by decide)).trans s3) ?_
    conv => whnf
    refine ⟨_, _, _, _, _, c_Task_init (X := X) (t := A 5 t.toNat) (m := iI m) (b := iI b) (by rcases hb with rfl | rfl; exact Or.inl rfl; exact Or.inr rfl) (va_up_self _ _ _), ?_, ?_⟩
    · decide
    rintro r f1 ⟨rfl, g1, g2⟩
    have g2' : ∀ b, b ≠ a → f1 b = f b := fun b hb => (g2 b hb).trans (va_up_ne _ _ hb)
    have al1 : al_ok X f1 (A 0 10) (DA 1) (L 1).length (fun j => A 11 ((L 1).getD j 0)) := by
      refine al_same hal2 (g2' _ (na 10 (by omega))) (g2' _ (fun z => ?_))
      obtain ⟨m, -, ⟨-, -, g, e⟩ | ⟨cap, G, e, -⟩⟩ := hal2
      · rw [z, ha] at e; cases e
      · rw [z, ha] at e; cases e
    obtain ⟨mm1, hlo1, -⟩ := id al1
    refine x_o hlo1 ?_
    conv => whnf
    refine ⟨_, _, _, _, _, c_AL_add (e := a) al1 (by omega) (fun j hj => ?_) ⟨9, _, g1, rfl⟩ (Ne.symm (na 10 (by omega))) (fun j hj => (hel j hj).2.1), ?_, ?_⟩
    · obtain ⟨⟨q1, q2⟩, -, q4⟩ := hel j hj
      have y : A 11 ((L 1).getD j 0) ≠ a := fun z => q4 (z ▸ ha)
      obtain ⟨ci, fs, x1, x2⟩ := q1
      refine ⟨⟨ci, fs, (g2' _ y).trans x1, x2⟩, ?_⟩
      rcases q2 with q2 | ⟨w, ci, fs, x1, x2, x3⟩
      · cases q2
      · cases x1
        exact Or.inr ⟨_, ci, fs, rfl, (g2' _ y).trans x2, x3⟩
    · decide
    rintro r f2 ⟨rfl, d', k1, k2, k3⟩
    have had : d' ≠ a := by
      intro z
      rcases k1 with ⟨y, cap, G, x⟩ | y
      · rw [← y, z, g1] at x; cases x
      · rw [z, g1] at y; cases y
    have hd' : d' = DA 1 ∧ (∃ cap G, f d' = some (.inr (5, cap, G))) ∨ f d' = none := by
      rcases k1 with ⟨y, cap, G, x⟩ | y
      · exact Or.inl ⟨y, cap, G, by rw [y]; rw [← g2' (DA 1) (y ▸ had)]; exact x⟩
      · exact Or.inr (by rw [← g2' d' had]; exact y)
    have ps := PS_ts (f' := f2) (d' := d') (t := t.toNat) (m := m) (b := b) hP hW rfl hm (by rcases hb with rfl | rfl <;> (constructor <;> decide)) (by omega) ha (by rw [k3 a (Ne.symm (na 10 (by omega))) (Ne.symm had)]; exact g1) hd' k2 (fun b b1 b2 b3 => (k3 b b2 b3).trans (g2' b b1))
    obtain ⟨q1, -⟩ := RS_ts hR rfl o4 tl o3 (b := b) (by omega) hz
    have d0 : A 0 0 ≠ d' := by
      intro z
      rcases hd' with ⟨y, -⟩ | y
      · exact (hP.1.2.2.2.1 1 ll1).1 0 0 (z0 0 (by omega)) (z.trans y)
      · exact u7 0 0 (z0 0 (by omega)) (z ▸ y)
    have w00 : f2 (A 0 0) = _ := (k3 _ n010 d0).trans ((g2' _ (na 0 (by omega))).trans h00)
    have cs := c_settle (X := X) q1.1 f2 _ _ ps
    conv => whnf
    refine x_som_i ((va_up_ne _ _ (by decide)).trans s0) ?_
    refine x_o w00 ?_
    conv => whnf
    refine ⟨_, _, _, _, _, cs, ?_, ?_⟩
    · decide
    rintro r f3 ⟨ra, v3, L3, DA3, rfl, c1, rfl, rfl, rfl⟩
    refine ⟨some (aI ((L 1).length : Nat)), _, _, (fun q i => if q = 11 ∧ i = (L 1).length then a else A q i), DA3, ?_, ⟨by simp, by simp⟩, c1, ad_t hok⟩
    show some (Value.int (nI (L 1).length)) = some (Value.int (iI ((L 1).length : Nat)))
    rw [iI_n]
  refine ast 0 _ _ _ _ _ _ _ rfl (by decide +kernel) ?_
  repeat' first | (refine a_si ?sd ?_; case sd => (first | (first | assumption | exact hS _ _ | omega | (constructor <;> omega) | (show _ = (1 : Int) ∨ _ = (2 : Int) ∨ _ = (3 : Int); omega)) | (refine ⟨?_, ?_⟩ <;> (first | assumption | exact hS _ _ | omega | (constructor <;> omega) | (show _ = (1 : Int) ∨ _ = (2 : Int) ∨ _ = (3 : Int); omega))) | (refine ⟨?_, ?_, ?_⟩ <;> (first | assumption | exact hS _ _ | omega | (constructor <;> omega) | (show _ = (1 : Int) ∨ _ = (2 : Int) ∨ _ = (3 : Int); omega))) | (refine ⟨?_, ?_, ?_, ?_⟩ <;> (first | assumption | exact hS _ _ | omega | (constructor <;> omega) | (show _ = (1 : Int) ∨ _ = (2 : Int) ∨ _ = (3 : Int); omega))) | (refine ⟨⟨?_, ?_⟩, ?_, ?_⟩ <;> (first | assumption | exact hS _ _ | omega | (constructor <;> omega) | (show _ = (1 : Int) ∨ _ = (2 : Int) ∨ _ = (3 : Int); omega))) | decide | (simp only [m_note, up2, Int.toNat_natCast, a_live5, not_true_eq_false, not_false_eq_true, Nat.reduceEqDiff, false_and, true_and, and_true, and_false, and_self, if_true, if_false, ↓reduceIte, reduceCtorEq]; first | (first | assumption | exact hS _ _ | omega | (constructor <;> omega) | (show _ = (1 : Int) ∨ _ = (2 : Int) ∨ _ = (3 : Int); omega)) | (refine ⟨?_, ?_⟩ <;> (first | assumption | exact hS _ _ | omega | (constructor <;> omega) | (show _ = (1 : Int) ∨ _ = (2 : Int) ∨ _ = (3 : Int); omega))) | (refine ⟨?_, ?_, ?_⟩ <;> (first | assumption | exact hS _ _ | omega | (constructor <;> omega) | (show _ = (1 : Int) ∨ _ = (2 : Int) ∨ _ = (3 : Int); omega))) | (refine ⟨?_, ?_, ?_, ?_⟩ <;> (first | assumption | exact hS _ _ | omega | (constructor <;> omega) | (show _ = (1 : Int) ∨ _ = (2 : Int) ∨ _ = (3 : Int); omega))) | (refine ⟨⟨?_, ?_⟩, ?_, ?_⟩ <;> (first | assumption | exact hS _ _ | omega | (constructor <;> omega) | (show _ = (1 : Int) ∨ _ = (2 : Int) ∨ _ = (3 : Int); omega))) | decide))) | (refine And.intro ?_ ?_ <;> (intro hc; (try simp only [m_note, up2, Int.toNat_natCast, a_live5, not_true_eq_false, not_false_eq_true, Nat.reduceEqDiff, false_and, true_and, and_true, and_false, and_self, if_true, if_false, ↓reduceIte, reduceCtorEq] at hc); try (exfalso; first | assumption | omega))) | (refine x_som_i l0 ?_) | (refine x_som_i l1 ?_) | (refine x_som_i l2 ?_) | (refine x_som_i l3 ?_) | (refine x_som_i l4 ?_) | (refine x_som_i l5 ?_) | (refine x_som_i l6 ?_) | (refine x_som_i l7 ?_) | (refine x_som_i l8 ?_) | (refine x_som_i l9 ?_) | (refine a_wo ?sd ?_; case sd => (first | exact hS _ _ | assumption | (constructor <;> omega) | (simp only [m_note, up2, Int.toNat_natCast, a_live5, not_true_eq_false, not_false_eq_true, Nat.reduceEqDiff, false_and, true_and, and_true, and_false, and_self, if_true, if_false, ↓reduceIte, reduceCtorEq]; first | exact hS _ _ | assumption | (constructor <;> omega))))
  refine a_ci (c_targetAt t ht) ?room ?_
  case room => first | decide | exact ⟨by decide, by decide, by omega, by omega⟩ | exact ⟨by omega, Nat.le_trans (m := 200) (by decide) (by omega), by omega, by omega⟩
  rintro _ _ _ ⟨⟨ht1, rfl⟩ | ⟨ht1, rfl⟩, rfl, rfl⟩
  · have tl := WF_live hW ht1.2.2
    repeat' first | (refine a_si ?sd ?_; case sd => (first | (first | assumption | exact hS _ _ | omega | (constructor <;> omega) | (show _ = (1 : Int) ∨ _ = (2 : Int) ∨ _ = (3 : Int); omega)) | (refine ⟨?_, ?_⟩ <;> (first | assumption | exact hS _ _ | omega | (constructor <;> omega) | (show _ = (1 : Int) ∨ _ = (2 : Int) ∨ _ = (3 : Int); omega))) | (refine ⟨?_, ?_, ?_⟩ <;> (first | assumption | exact hS _ _ | omega | (constructor <;> omega) | (show _ = (1 : Int) ∨ _ = (2 : Int) ∨ _ = (3 : Int); omega))) | (refine ⟨?_, ?_, ?_, ?_⟩ <;> (first | assumption | exact hS _ _ | omega | (constructor <;> omega) | (show _ = (1 : Int) ∨ _ = (2 : Int) ∨ _ = (3 : Int); omega))) | (refine ⟨⟨?_, ?_⟩, ?_, ?_⟩ <;> (first | assumption | exact hS _ _ | omega | (constructor <;> omega) | (show _ = (1 : Int) ∨ _ = (2 : Int) ∨ _ = (3 : Int); omega))) | decide | (simp only [m_note, up2, Int.toNat_natCast, a_live5, not_true_eq_false, not_false_eq_true, Nat.reduceEqDiff, false_and, true_and, and_true, and_false, and_self, if_true, if_false, ↓reduceIte, reduceCtorEq]; first | (first | assumption | exact hS _ _ | omega | (constructor <;> omega) | (show _ = (1 : Int) ∨ _ = (2 : Int) ∨ _ = (3 : Int); omega)) | (refine ⟨?_, ?_⟩ <;> (first | assumption | exact hS _ _ | omega | (constructor <;> omega) | (show _ = (1 : Int) ∨ _ = (2 : Int) ∨ _ = (3 : Int); omega))) | (refine ⟨?_, ?_, ?_⟩ <;> (first | assumption | exact hS _ _ | omega | (constructor <;> omega) | (show _ = (1 : Int) ∨ _ = (2 : Int) ∨ _ = (3 : Int); omega))) | (refine ⟨?_, ?_, ?_, ?_⟩ <;> (first | assumption | exact hS _ _ | omega | (constructor <;> omega) | (show _ = (1 : Int) ∨ _ = (2 : Int) ∨ _ = (3 : Int); omega))) | (refine ⟨⟨?_, ?_⟩, ?_, ?_⟩ <;> (first | assumption | exact hS _ _ | omega | (constructor <;> omega) | (show _ = (1 : Int) ∨ _ = (2 : Int) ∨ _ = (3 : Int); omega))) | decide))) | (refine And.intro ?_ ?_ <;> (intro hc; (try simp only [m_note, up2, Int.toNat_natCast, a_live5, not_true_eq_false, not_false_eq_true, Nat.reduceEqDiff, false_and, true_and, and_true, and_false, and_self, if_true, if_false, ↓reduceIte, reduceCtorEq] at hc); try (exfalso; first | assumption | omega))) | (refine x_som_i l0 ?_) | (refine x_som_i l1 ?_) | (refine x_som_i l2 ?_) | (refine x_som_i l3 ?_) | (refine x_som_i l4 ?_) | (refine x_som_i l5 ?_) | (refine x_som_i l6 ?_) | (refine x_som_i l7 ?_) | (refine x_som_i l8 ?_) | (refine x_som_i l9 ?_) | (refine a_wo ?sd ?_; case sd => (first | exact hS _ _ | assumption | (constructor <;> omega) | (simp only [m_note, up2, Int.toNat_natCast, a_live5, not_true_eq_false, not_false_eq_true, Nat.reduceEqDiff, false_and, true_and, and_true, and_false, and_self, if_true, if_false, ↓reduceIte, reduceCtorEq]; first | exact hS _ _ | assumption | (constructor <;> omega)))) | (refine ast 41 _ _ _ _ _ _ _ rfl (by decide +kernel) ?_)
    · exact no (fun q => by have := q.1; omega)
    · refine a_vi (Q := AC (0 ≤ m ∧ m < v 22 t.toNat) (aI 1) (aI 0) v L) tl (fun _ => c_hasMode m tl hm) (fun _ => c_hasMode m tl hm) (fun _ => c_hasMode m tl hm) ?room ?_
      case room => decide
      rintro _ _ _ ⟨⟨hm2, rfl⟩ | ⟨hm2, rfl⟩, rfl, rfl⟩ _
      · repeat' first | (refine a_si ?sd ?_; case sd => (first | (first | assumption | exact hS _ _ | omega | (constructor <;> omega) | (show _ = (1 : Int) ∨ _ = (2 : Int) ∨ _ = (3 : Int); omega)) | (refine ⟨?_, ?_⟩ <;> (first | assumption | exact hS _ _ | omega | (constructor <;> omega) | (show _ = (1 : Int) ∨ _ = (2 : Int) ∨ _ = (3 : Int); omega))) | (refine ⟨?_, ?_, ?_⟩ <;> (first | assumption | exact hS _ _ | omega | (constructor <;> omega) | (show _ = (1 : Int) ∨ _ = (2 : Int) ∨ _ = (3 : Int); omega))) | (refine ⟨?_, ?_, ?_, ?_⟩ <;> (first | assumption | exact hS _ _ | omega | (constructor <;> omega) | (show _ = (1 : Int) ∨ _ = (2 : Int) ∨ _ = (3 : Int); omega))) | (refine ⟨⟨?_, ?_⟩, ?_, ?_⟩ <;> (first | assumption | exact hS _ _ | omega | (constructor <;> omega) | (show _ = (1 : Int) ∨ _ = (2 : Int) ∨ _ = (3 : Int); omega))) | decide | (simp only [m_note, up2, Int.toNat_natCast, a_live5, not_true_eq_false, not_false_eq_true, Nat.reduceEqDiff, false_and, true_and, and_true, and_false, and_self, if_true, if_false, ↓reduceIte, reduceCtorEq]; first | (first | assumption | exact hS _ _ | omega | (constructor <;> omega) | (show _ = (1 : Int) ∨ _ = (2 : Int) ∨ _ = (3 : Int); omega)) | (refine ⟨?_, ?_⟩ <;> (first | assumption | exact hS _ _ | omega | (constructor <;> omega) | (show _ = (1 : Int) ∨ _ = (2 : Int) ∨ _ = (3 : Int); omega))) | (refine ⟨?_, ?_, ?_⟩ <;> (first | assumption | exact hS _ _ | omega | (constructor <;> omega) | (show _ = (1 : Int) ∨ _ = (2 : Int) ∨ _ = (3 : Int); omega))) | (refine ⟨?_, ?_, ?_, ?_⟩ <;> (first | assumption | exact hS _ _ | omega | (constructor <;> omega) | (show _ = (1 : Int) ∨ _ = (2 : Int) ∨ _ = (3 : Int); omega))) | (refine ⟨⟨?_, ?_⟩, ?_, ?_⟩ <;> (first | assumption | exact hS _ _ | omega | (constructor <;> omega) | (show _ = (1 : Int) ∨ _ = (2 : Int) ∨ _ = (3 : Int); omega))) | decide))) | (refine And.intro ?_ ?_ <;> (intro hc; (try simp only [m_note, up2, Int.toNat_natCast, a_live5, not_true_eq_false, not_false_eq_true, Nat.reduceEqDiff, false_and, true_and, and_true, and_false, and_self, if_true, if_false, ↓reduceIte, reduceCtorEq] at hc); try (exfalso; first | assumption | omega))) | (refine x_som_i l0 ?_) | (refine x_som_i l1 ?_) | (refine x_som_i l2 ?_) | (refine x_som_i l3 ?_) | (refine x_som_i l4 ?_) | (refine x_som_i l5 ?_) | (refine x_som_i l6 ?_) | (refine x_som_i l7 ?_) | (refine x_som_i l8 ?_) | (refine x_som_i l9 ?_) | (refine a_wo ?sd ?_; case sd => (first | exact hS _ _ | assumption | (constructor <;> omega) | (simp only [m_note, up2, Int.toNat_natCast, a_live5, not_true_eq_false, not_false_eq_true, Nat.reduceEqDiff, false_and, true_and, and_true, and_false, and_self, if_true, if_false, ↓reduceIte, reduceCtorEq]; first | exact hS _ _ | assumption | (constructor <;> omega)))) | (refine ast 41 _ _ _ _ _ _ _ rfl (by decide +kernel) ?_)
        refine a_ci (a_AL_size (l := 1) ll1 rfl) ?room ?_
        case room => decide
        rintro _ _ _ ⟨rfl, rfl, rfl⟩
        repeat' first | (refine a_si ?sd ?_; case sd => (first | (first | assumption | exact hS _ _ | omega | (constructor <;> omega) | (show _ = (1 : Int) ∨ _ = (2 : Int) ∨ _ = (3 : Int); omega)) | (refine ⟨?_, ?_⟩ <;> (first | assumption | exact hS _ _ | omega | (constructor <;> omega) | (show _ = (1 : Int) ∨ _ = (2 : Int) ∨ _ = (3 : Int); omega))) | (refine ⟨?_, ?_, ?_⟩ <;> (first | assumption | exact hS _ _ | omega | (constructor <;> omega) | (show _ = (1 : Int) ∨ _ = (2 : Int) ∨ _ = (3 : Int); omega))) | (refine ⟨?_, ?_, ?_, ?_⟩ <;> (first | assumption | exact hS _ _ | omega | (constructor <;> omega) | (show _ = (1 : Int) ∨ _ = (2 : Int) ∨ _ = (3 : Int); omega))) | (refine ⟨⟨?_, ?_⟩, ?_, ?_⟩ <;> (first | assumption | exact hS _ _ | omega | (constructor <;> omega) | (show _ = (1 : Int) ∨ _ = (2 : Int) ∨ _ = (3 : Int); omega))) | decide | (simp only [m_note, up2, Int.toNat_natCast, a_live5, not_true_eq_false, not_false_eq_true, Nat.reduceEqDiff, false_and, true_and, and_true, and_false, and_self, if_true, if_false, ↓reduceIte, reduceCtorEq]; first | (first | assumption | exact hS _ _ | omega | (constructor <;> omega) | (show _ = (1 : Int) ∨ _ = (2 : Int) ∨ _ = (3 : Int); omega)) | (refine ⟨?_, ?_⟩ <;> (first | assumption | exact hS _ _ | omega | (constructor <;> omega) | (show _ = (1 : Int) ∨ _ = (2 : Int) ∨ _ = (3 : Int); omega))) | (refine ⟨?_, ?_, ?_⟩ <;> (first | assumption | exact hS _ _ | omega | (constructor <;> omega) | (show _ = (1 : Int) ∨ _ = (2 : Int) ∨ _ = (3 : Int); omega))) | (refine ⟨?_, ?_, ?_, ?_⟩ <;> (first | assumption | exact hS _ _ | omega | (constructor <;> omega) | (show _ = (1 : Int) ∨ _ = (2 : Int) ∨ _ = (3 : Int); omega))) | (refine ⟨⟨?_, ?_⟩, ?_, ?_⟩ <;> (first | assumption | exact hS _ _ | omega | (constructor <;> omega) | (show _ = (1 : Int) ∨ _ = (2 : Int) ∨ _ = (3 : Int); omega))) | decide))) | (refine And.intro ?_ ?_ <;> (intro hc; (try simp only [m_note, up2, Int.toNat_natCast, a_live5, not_true_eq_false, not_false_eq_true, Nat.reduceEqDiff, false_and, true_and, and_true, and_false, and_self, if_true, if_false, ↓reduceIte, reduceCtorEq] at hc); try (exfalso; first | assumption | omega))) | (refine x_som_i l0 ?_) | (refine x_som_i l1 ?_) | (refine x_som_i l2 ?_) | (refine x_som_i l3 ?_) | (refine x_som_i l4 ?_) | (refine x_som_i l5 ?_) | (refine x_som_i l6 ?_) | (refine x_som_i l7 ?_) | (refine x_som_i l8 ?_) | (refine x_som_i l9 ?_) | (refine a_wo ?sd ?_; case sd => (first | exact hS _ _ | assumption | (constructor <;> omega) | (simp only [m_note, up2, Int.toNat_natCast, a_live5, not_true_eq_false, not_false_eq_true, Nat.reduceEqDiff, false_and, true_and, and_true, and_false, and_self, if_true, if_false, ↓reduceIte, reduceCtorEq]; first | exact hS _ _ | assumption | (constructor <;> omega)))) | (refine ast 41 _ _ _ _ _ _ _ rfl (by decide +kernel) ?_)
        all_goals first
          | exact fin _ rfl rfl rfl rfl ⟨by assumption, ht1, hm2, by omega⟩
          | exact no (fun q => by have := q.2.2.2; omega)
      · repeat' first | (refine a_si ?sd ?_; case sd => (first | (first | assumption | exact hS _ _ | omega | (constructor <;> omega) | (show _ = (1 : Int) ∨ _ = (2 : Int) ∨ _ = (3 : Int); omega)) | (refine ⟨?_, ?_⟩ <;> (first | assumption | exact hS _ _ | omega | (constructor <;> omega) | (show _ = (1 : Int) ∨ _ = (2 : Int) ∨ _ = (3 : Int); omega))) | (refine ⟨?_, ?_, ?_⟩ <;> (first | assumption | exact hS _ _ | omega | (constructor <;> omega) | (show _ = (1 : Int) ∨ _ = (2 : Int) ∨ _ = (3 : Int); omega))) | (refine ⟨?_, ?_, ?_, ?_⟩ <;> (first | assumption | exact hS _ _ | omega | (constructor <;> omega) | (show _ = (1 : Int) ∨ _ = (2 : Int) ∨ _ = (3 : Int); omega))) | (refine ⟨⟨?_, ?_⟩, ?_, ?_⟩ <;> (first | assumption | exact hS _ _ | omega | (constructor <;> omega) | (show _ = (1 : Int) ∨ _ = (2 : Int) ∨ _ = (3 : Int); omega))) | decide | (simp only [m_note, up2, Int.toNat_natCast, a_live5, not_true_eq_false, not_false_eq_true, Nat.reduceEqDiff, false_and, true_and, and_true, and_false, and_self, if_true, if_false, ↓reduceIte, reduceCtorEq]; first | (first | assumption | exact hS _ _ | omega | (constructor <;> omega) | (show _ = (1 : Int) ∨ _ = (2 : Int) ∨ _ = (3 : Int); omega)) | (refine ⟨?_, ?_⟩ <;> (first | assumption | exact hS _ _ | omega | (constructor <;> omega) | (show _ = (1 : Int) ∨ _ = (2 : Int) ∨ _ = (3 : Int); omega))) | (refine ⟨?_, ?_, ?_⟩ <;> (first | assumption | exact hS _ _ | omega | (constructor <;> omega) | (show _ = (1 : Int) ∨ _ = (2 : Int) ∨ _ = (3 : Int); omega))) | (refine ⟨?_, ?_, ?_, ?_⟩ <;> (first | assumption | exact hS _ _ | omega | (constructor <;> omega) | (show _ = (1 : Int) ∨ _ = (2 : Int) ∨ _ = (3 : Int); omega))) | (refine ⟨⟨?_, ?_⟩, ?_, ?_⟩ <;> (first | assumption | exact hS _ _ | omega | (constructor <;> omega) | (show _ = (1 : Int) ∨ _ = (2 : Int) ∨ _ = (3 : Int); omega))) | decide))) | (refine And.intro ?_ ?_ <;> (intro hc; (try simp only [m_note, up2, Int.toNat_natCast, a_live5, not_true_eq_false, not_false_eq_true, Nat.reduceEqDiff, false_and, true_and, and_true, and_false, and_self, if_true, if_false, ↓reduceIte, reduceCtorEq] at hc); try (exfalso; first | assumption | omega))) | (refine x_som_i l0 ?_) | (refine x_som_i l1 ?_) | (refine x_som_i l2 ?_) | (refine x_som_i l3 ?_) | (refine x_som_i l4 ?_) | (refine x_som_i l5 ?_) | (refine x_som_i l6 ?_) | (refine x_som_i l7 ?_) | (refine x_som_i l8 ?_) | (refine x_som_i l9 ?_) | (refine a_wo ?sd ?_; case sd => (first | exact hS _ _ | assumption | (constructor <;> omega) | (simp only [m_note, up2, Int.toNat_natCast, a_live5, not_true_eq_false, not_false_eq_true, Nat.reduceEqDiff, false_and, true_and, and_true, and_false, and_self, if_true, if_false, ↓reduceIte, reduceCtorEq]; first | exact hS _ _ | assumption | (constructor <;> omega)))) | (refine ast 41 _ _ _ _ _ _ _ rfl (by decide +kernel) ?_)
        exact no (fun q => hm2 q.2.2.1)
  · repeat' first | (refine a_si ?sd ?_; case sd => (first | (first | assumption | exact hS _ _ | omega | (constructor <;> omega) | (show _ = (1 : Int) ∨ _ = (2 : Int) ∨ _ = (3 : Int); omega)) | (refine ⟨?_, ?_⟩ <;> (first | assumption | exact hS _ _ | omega | (constructor <;> omega) | (show _ = (1 : Int) ∨ _ = (2 : Int) ∨ _ = (3 : Int); omega))) | (refine ⟨?_, ?_, ?_⟩ <;> (first | assumption | exact hS _ _ | omega | (constructor <;> omega) | (show _ = (1 : Int) ∨ _ = (2 : Int) ∨ _ = (3 : Int); omega))) | (refine ⟨?_, ?_, ?_, ?_⟩ <;> (first | assumption | exact hS _ _ | omega | (constructor <;> omega) | (show _ = (1 : Int) ∨ _ = (2 : Int) ∨ _ = (3 : Int); omega))) | (refine ⟨⟨?_, ?_⟩, ?_, ?_⟩ <;> (first | assumption | exact hS _ _ | omega | (constructor <;> omega) | (show _ = (1 : Int) ∨ _ = (2 : Int) ∨ _ = (3 : Int); omega))) | decide | (simp only [m_note, up2, Int.toNat_natCast, a_live5, not_true_eq_false, not_false_eq_true, Nat.reduceEqDiff, false_and, true_and, and_true, and_false, and_self, if_true, if_false, ↓reduceIte, reduceCtorEq]; first | (first | assumption | exact hS _ _ | omega | (constructor <;> omega) | (show _ = (1 : Int) ∨ _ = (2 : Int) ∨ _ = (3 : Int); omega)) | (refine ⟨?_, ?_⟩ <;> (first | assumption | exact hS _ _ | omega | (constructor <;> omega) | (show _ = (1 : Int) ∨ _ = (2 : Int) ∨ _ = (3 : Int); omega))) | (refine ⟨?_, ?_, ?_⟩ <;> (first | assumption | exact hS _ _ | omega | (constructor <;> omega) | (show _ = (1 : Int) ∨ _ = (2 : Int) ∨ _ = (3 : Int); omega))) | (refine ⟨?_, ?_, ?_, ?_⟩ <;> (first | assumption | exact hS _ _ | omega | (constructor <;> omega) | (show _ = (1 : Int) ∨ _ = (2 : Int) ∨ _ = (3 : Int); omega))) | (refine ⟨⟨?_, ?_⟩, ?_, ?_⟩ <;> (first | assumption | exact hS _ _ | omega | (constructor <;> omega) | (show _ = (1 : Int) ∨ _ = (2 : Int) ∨ _ = (3 : Int); omega))) | decide))) | (refine And.intro ?_ ?_ <;> (intro hc; (try simp only [m_note, up2, Int.toNat_natCast, a_live5, not_true_eq_false, not_false_eq_true, Nat.reduceEqDiff, false_and, true_and, and_true, and_false, and_self, if_true, if_false, ↓reduceIte, reduceCtorEq] at hc); try (exfalso; first | assumption | omega))) | (refine x_som_i l0 ?_) | (refine x_som_i l1 ?_) | (refine x_som_i l2 ?_) | (refine x_som_i l3 ?_) | (refine x_som_i l4 ?_) | (refine x_som_i l5 ?_) | (refine x_som_i l6 ?_) | (refine x_som_i l7 ?_) | (refine x_som_i l8 ?_) | (refine x_som_i l9 ?_) | (refine a_wo ?sd ?_; case sd => (first | exact hS _ _ | assumption | (constructor <;> omega) | (simp only [m_note, up2, Int.toNat_natCast, a_live5, not_true_eq_false, not_false_eq_true, Nat.reduceEqDiff, false_and, true_and, and_true, and_false, and_self, if_true, if_false, ↓reduceIte, reduceCtorEq]; first | exact hS _ _ | assumption | (constructor <;> omega)))) | (refine ast 41 _ _ _ _ _ _ _ rfl (by decide +kernel) ?_)
    all_goals first
      | exact no (fun q => ht1 q.2.1)
      | exact no (fun q => by have := q.1; omega)
end
