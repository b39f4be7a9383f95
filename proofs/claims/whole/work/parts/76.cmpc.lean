/-! The class's component. -/
section
variable {X : XC} {v w : SV} {L : SL} {own : Int → Nat}
def okSz (k n : Int) : Prop := (k = 2 ∧ 0 ≤ n ∧ n ≤ 3) ∨ ((k = 0 ∨ k = 1) ∧ 1 ≤ n ∧ n ≤ 4)
theorem c_isSizeOfKind (k n : Int) (hk : iS k) (hn : iS n) : AHolds X y_H_isSizeOfKind [aI k, aI n] v L 0 0 0 0 (AC (okSz k n) (aI 1) (aI 0) v L) := by
  refine a_sm fun hS => ?_
  refine a_met ok_H_isSizeOfKind (by decide +kernel) (Nat.le_of_ble_eq_true rfl) fun go st => ?_
  repeat' first | (refine a_si ?sd ?_; case sd => (first | (first | assumption | exact hS _ _ | omega | (constructor <;> omega) | (show _ = (1 : Int) ∨ _ = (2 : Int) ∨ _ = (3 : Int); omega)) | (refine ⟨?_, ?_⟩ <;> (first | assumption | exact hS _ _ | omega | (constructor <;> omega) | (show _ = (1 : Int) ∨ _ = (2 : Int) ∨ _ = (3 : Int); omega))) | (refine ⟨?_, ?_, ?_⟩ <;> (first | assumption | exact hS _ _ | omega | (constructor <;> omega) | (show _ = (1 : Int) ∨ _ = (2 : Int) ∨ _ = (3 : Int); omega))) | (refine ⟨?_, ?_, ?_, ?_⟩ <;> (first | assumption | exact hS _ _ | omega | (constructor <;> omega) | (show _ = (1 : Int) ∨ _ = (2 : Int) ∨ _ = (3 : Int); omega))) | (refine ⟨⟨?_, ?_⟩, ?_, ?_⟩ <;> (first | assumption | exact hS _ _ | omega | (constructor <;> omega) | (show _ = (1 : Int) ∨ _ = (2 : Int) ∨ _ = (3 : Int); omega))) | decide | (simp only [up2, Int.toNat_natCast, a_live5, not_true_eq_false, not_false_eq_true, Nat.reduceEqDiff, false_and, true_and, and_true, and_false, and_self, if_true, if_false, ↓reduceIte, reduceCtorEq]; first | (first | assumption | exact hS _ _ | omega | (constructor <;> omega) | (show _ = (1 : Int) ∨ _ = (2 : Int) ∨ _ = (3 : Int); omega)) | (refine ⟨?_, ?_⟩ <;> (first | assumption | exact hS _ _ | omega | (constructor <;> omega) | (show _ = (1 : Int) ∨ _ = (2 : Int) ∨ _ = (3 : Int); omega))) | (refine ⟨?_, ?_, ?_⟩ <;> (first | assumption | exact hS _ _ | omega | (constructor <;> omega) | (show _ = (1 : Int) ∨ _ = (2 : Int) ∨ _ = (3 : Int); omega))) | (refine ⟨?_, ?_, ?_, ?_⟩ <;> (first | assumption | exact hS _ _ | omega | (constructor <;> omega) | (show _ = (1 : Int) ∨ _ = (2 : Int) ∨ _ = (3 : Int); omega))) | (refine ⟨⟨?_, ?_⟩, ?_, ?_⟩ <;> (first | assumption | exact hS _ _ | omega | (constructor <;> omega) | (show _ = (1 : Int) ∨ _ = (2 : Int) ∨ _ = (3 : Int); omega))) | decide))) | (refine And.intro ?_ ?_ <;> (intro hc; (try simp only [up2, Int.toNat_natCast, a_live5, not_true_eq_false, not_false_eq_true, Nat.reduceEqDiff, false_and, true_and, and_true, and_false, and_self, if_true, if_false, ↓reduceIte, reduceCtorEq] at hc); try (exfalso; first | assumption | omega))) | (refine x_som_i l0 ?_) | (refine x_som_i l1 ?_) | (refine x_som_i l2 ?_) | (refine x_som_i l3 ?_) | (refine x_som_i l4 ?_) | (refine x_som_i l5 ?_) | (refine x_som_i l6 ?_) | (refine x_som_i l7 ?_) | (refine x_som_i l8 ?_) | (refine x_som_i l9 ?_) | (refine a_wo ?sd ?_; case sd => (first | exact hS _ _ | assumption | (constructor <;> omega) | (simp only [up2, Int.toNat_natCast, a_live5, not_true_eq_false, not_false_eq_true, Nat.reduceEqDiff, false_and, true_and, and_true, and_false, and_self, if_true, if_false, ↓reduceIte, reduceCtorEq]; first | exact hS _ _ | assumption | (constructor <;> omega)))) | (refine st 0 _ _ _ _ _ _ _ rfl ?_) | (refine st 18 _ _ _ _ _ _ _ rfl ?_) | (refine st 19 _ _ _ _ _ _ _ rfl ?_) | (refine st 20 _ _ _ _ _ _ _ rfl ?_) | (refine st 29 _ _ _ _ _ _ _ rfl ?_) | (refine st 43 _ _ _ _ _ _ _ rfl ?_) | (refine st 44 _ _ _ _ _ _ _ rfl ?_)
  all_goals first
    | exact ac_t (P := okSz k n) (by unfold okSz; omega)
    | exact ac_f (P := okSz k n) (by unfold okSz; omega)
theorem c_component (k n t d : Int) (hR : RS own v L w) (hk : iS k) (hn : iS n) (ht : iS t) (hd : iS d) : AHoldsN X y_H_component [aR 0 0, aI k, aI n, aI t, aI d] v L 20 800 4 30 (AD (okCmp v k n t d) (v 1 0) (cmV v k n t d) (cmL v L) (-1) v L) := by
  have b0 := hR.2.1.1.2.2.2.2.2.2
  have no : ¬ okCmp v k n t d → AD (okCmp v k n t d) (v 1 0) (cmV v k n t d) (cmL v L) (-1) v L (some (aI (-1))) v L := fun h => ad_f h
  refine a_metN ok_H_component (Nat.le_of_ble_eq_true rfl) fun A go ago st con ast => ?_
  have fin : ∀ (ls : ALc), ls 0 = some (aR 0 0) → ls 1 = some (aI k) → ls 2 = some (aI n) → ls 3 = some (aI t) → ls 4 = some (aI d) → okCmp v k n t d → ago 62 ls [] v L 0 0 := by
    intro ls l0 l1 l2 l3 l4 hok
    refine con _ _ _ _ _ _ _ fun f DA hP => ?_
    have s0 : cvl A ls 0 = some (.ref (A 0 0)) := cvl_at l0
    have s1 : cvl A ls 1 = some (.int (iI k)) := cvl_at l1
    have s2 : cvl A ls 2 = some (.int (iI n)) := cvl_at l2
    have s3 : cvl A ls 3 = some (.int (iI t)) := cvl_at l3
    have s4 : cvl A ls 4 = some (.int (iI d)) := cvl_at l4
    generalize cvl A ls = ls' at s0 s1 s2 s3 s4
    have h00 := hP.1.c 0 0 rfl
    have h07 := hP.1.c 0 7 rfl
    have h08 := hP.1.c 0 8 rfl
    have ei := vp_in_i (j := v 1 0) (n := 8) ⟨by omega, by have := hok.2.1; omega, by decide⟩
    have ei2 := vp_in_i (j := v 1 0) (n := 32) ⟨by omega, by have := hok.2.1; omega, by decide⟩
    have z0 : ∀ i, i ≤ 10 → cc_live v L 0 i := fun i hi => hi
    have u7 := hP.1.2.2.2.2.2.2
    have nn : ∀ i b, i ≤ 10 → f b = none → A 0 i ≠ b := fun i b hi hb z => u7 0 i (z0 i hi) (z ▸ hb)
    have n07 : A 0 7 ≠ A 0 0 := fun z => absurd (hP.1.2.2.1 _ _ _ _ (z0 7 (by omega)) (z0 0 (by omega)) z).2 (by decide)
    have n08 : A 0 8 ≠ A 0 0 := fun z => absurd (hP.1.2.2.1 _ _ _ _ (z0 8 (by omega)) (z0 0 (by omega)) z).2 (by decide)
    have e1 : iI (v 1 0) + 1 = iI (v 1 0 + 1) := by rw [show (1 : Int32) = iI 1 from rfl, iI_add]
    have ik1 : iI k = 1 ↔ k = 1 := iI_eq (b := 1) hk (by constructor <;> decide)
    have ik0 : iI k = 0 ↔ k = 0 := iI_eq (b := 0) hk (by constructor <;> decide)
    refine st 62 _ _ _ _ _ _ rfl ?_
    conv => whnf
    refine x_som_i s0 ?_
    refine x_o h00 ?_
    conv => whnf
    refine x_som_i ((va_up_ne _ _ (by decide)).trans s0) ?_
    refine x_o h00 ?_
    refine x_o h00 ?_
    conv => whnf
    refine x_som_i ((va_up_ne _ _ (by decide)).trans s1) ?_
    rw [show iI (v 1 0) + 1 = iI (v 1 0 + 1) from e1]
    have t0 : va_up ls' 5 (some (.int (iI (v 1 0)))) 0 = some (.ref (A 0 0)) := (va_up_ne _ _ (by decide)).trans s0
    have t1 : va_up ls' 5 (some (.int (iI (v 1 0)))) 1 = some (.int (iI k)) := (va_up_ne _ _ (by decide)).trans s1
    have t2 : va_up ls' 5 (some (.int (iI (v 1 0)))) 2 = some (.int (iI n)) := (va_up_ne _ _ (by decide)).trans s2
    have t3 : va_up ls' 5 (some (.int (iI (v 1 0)))) 3 = some (.int (iI t)) := (va_up_ne _ _ (by decide)).trans s3
    have t4 : va_up ls' 5 (some (.int (iI (v 1 0)))) 4 = some (.int (iI d)) := (va_up_ne _ _ (by decide)).trans s4
    have t5 : va_up ls' 5 (some (.int (iI (v 1 0)))) 5 = some (.int (iI (v 1 0))) := va_up_self _ _ _
    generalize va_up ls' 5 (some (.int (iI (v 1 0)))) = lt at t0 t1 t2 t3 t4 t5 ⊢
    have ret : ∀ (f2 : XH) (nc ns : Nat) (A' : Nat → Nat → Nat) (DA' : Nat → Nat), nc ≤ 4 → ns ≤ 30 → (A' 0 0 = A 0 0 ∧ A' 20 0 = A 20 0) → PS X f2 A' DA' (cmV v k n t d) (cmL v L) → go 151 lt [] f2 nc ns := by
      intro f2 nc ns A' DA' h1 h2 h3 h4
      refine st 151 _ _ _ _ _ _ rfl ?_
      conv => whnf
      refine x_som_i t5 ?_
      refine x_leb_i h1 (x_leb_i h2 ?_)
      exact ⟨some (aI (v 1 0)), _, _, A', DA', rfl, h3, h4, ad_t hok⟩
    have q00 : va_up f (A 0 0) (some (.inl (10, [.ref (A 0 1), .ref (A 0 3), .ref (A 0 4), .ref (A 0 6), .ref (A 0 7), .ref (A 0 8), .ref (A 0 9), .ref (A 0 10), .int (iI (v 1 0 + 1)), .int (iI (v 0 0))]))) (A 0 0) = some (.inl (10, [.ref (A 0 1), .ref (A 0 3), .ref (A 0 4), .ref (A 0 6), .ref (A 0 7), .ref (A 0 8), .ref (A 0 9), .ref (A 0 10), .int (iI (v 1 0 + 1)), .int (iI (v 0 0))])) := va_up_self _ _ _
    have qf : ∀ b, b ≠ A 0 0 → va_up f (A 0 0) (some (.inl (10, [.ref (A 0 1), .ref (A 0 3), .ref (A 0 4), .ref (A 0 6), .ref (A 0 7), .ref (A 0 8), .ref (A 0 9), .ref (A 0 10), .int (iI (v 1 0 + 1)), .int (iI (v 0 0))]))) b = f b := fun b hb => va_up_ne _ _ hb
    refine And.intro (fun hc => ?_) (fun hc => ?_)
    · show go 104 lt [] (va_up f (A 0 0) (some (.inl (10, [.ref (A 0 1), .ref (A 0 3), .ref (A 0 4), .ref (A 0 6), .ref (A 0 7), .ref (A 0 8), .ref (A 0 9), .ref (A 0 10), .int (iI (v 1 0 + 1)), .int (iI (v 0 0))])))) 0 0
      generalize va_up f (A 0 0) (some (.inl (10, [.ref (A 0 1), .ref (A 0 3), .ref (A 0 4), .ref (A 0 6), .ref (A 0 7), .ref (A 0 8), .ref (A 0 9), .ref (A 0 10), .int (iI (v 1 0 + 1)), .int (iI (v 0 0))]))) = f1 at q00 qf ⊢
      have k1 : ¬ k = 1 := fun z => hc (ik1.mpr z)
      have w07 := (qf _ n07).trans h07
      refine st 104 _ _ _ _ _ _ rfl ?_
      conv => whnf
      refine x_som_i t1 ?_
      refine And.intro (fun hc0 => ?_) (fun hc0 => ?_)
      · have k2 : k = 2 := by
          have : ¬ k = 0 := fun z => hc0 (ik0.mpr z)
          have := hok.2.2.1; omega
        subst k2
        refine st 131 _ _ _ _ _ _ rfl ?_
        conv => whnf
        refine x_som_i t0 ?_
        refine x_o q00 ?_
        conv => whnf
        refine x_som_i t5 ?_
        intro a ha1
        have na : a ≠ A 0 0 := fun z => by rw [z, q00] at ha1; cases ha1
        have fa : f a = none := (qf a na).symm.trans ha1
        conv => whnf
        refine x_som_i t2 ?_
        conv => whnf
        refine x_som_i t3 ?_
        conv => whnf
        refine x_som_i t0 ?_
        refine x_o (x_u (Ne.symm na) q00) ?_
        conv => whnf
        refine ⟨_, _, _, _, _, c_Singleton_init (va_up_self _ _ _), ?_, ?_⟩
        · decide
        rintro r f2 ⟨rfl, q, e, g1, g2, g3, g4, g5, g6, g7, g8⟩
        have nqa : q ≠ a := fun z => by rw [z, va_up_self] at g1; cases g1
        rw [va_up_ne _ _ nqa] at g1
        rw [va_up_ne _ _ g4] at g2
        have nq : q ≠ A 0 0 := fun z => by rw [z, q00] at g1; cases g1
        have ne : e ≠ A 0 0 := fun z => by rw [z, q00] at g2; cases g2
        have fq : f q = none := (qf q nq).symm.trans g1
        have fe : f e = none := (qf e ne).symm.trans g2
        have u : ∀ b, b ≠ a → b ≠ q → b ≠ e → b ≠ A 0 0 → f2 b = f b := fun b b1 b2 b3 b4 => by rw [g8 b b1 b2 b3, va_up_ne _ _ b1, qf b b4]
        have w7 : f2 (A 0 7) = _ := (u _ (nn 7 a (by omega) fa) (nn 7 q (by omega) fq) (nn 7 e (by omega) fe) n07).trans h07
        have w0 : f2 (A 0 0) = _ := (g8 _ (Ne.symm na) (Ne.symm nq) (Ne.symm ne)).trans (x_u (Ne.symm na) q00)
        refine x_a w7 ?_
        refine And.intro ei2.1 ?_
        refine x_o g7 ?_
        rw [ei2.2]
        have a7 : a ≠ A 0 7 := Ne.symm (nn 7 a (by omega) fa)
        obtain ⟨A', DA', c1, c2⟩ := PS_cm2 (f' := va_up f2 (A 0 7) (some (.inr (3, 32, va_up (fun j => if v 20 j = 0 then .null else .ref (A 5 j)) (v 1 0).toNat (.ref a))))) hP hR hok fa fq fe (Ne.symm nqa) (Ne.symm g4) (Ne.symm g3) ((va_up_ne _ _ a7).trans g7) ((va_up_ne _ _ (Ne.symm (nn 7 q (by omega) fq))).trans g5) ((va_up_ne _ _ (Ne.symm (nn 7 e (by omega) fe))).trans g6) ((va_up_ne _ _ (Ne.symm n07)).trans w0) (va_up_self _ _ _) (fun b b1 b2 b3 b4 b5 => (va_up_ne _ _ b5).trans (u b b1 b2 b3 b4))
        exact ret _ 3 18 A' DA' (by decide) (by decide) c1 c2
      · have k2 : k = 0 := ik0.mp hc0
        subst k2
        conv => whnf
        refine x_som_i t0 ?_
        refine x_o q00 ?_
        conv => whnf
        refine x_som_i t5 ?_
        intro a ha1
        have na : a ≠ A 0 0 := fun z => by rw [z, q00] at ha1; cases ha1
        have fa : f a = none := (qf a na).symm.trans ha1
        conv => whnf
        refine x_som_i t2 ?_
        conv => whnf
        refine x_som_i t3 ?_
        conv => whnf
        refine x_som_i t0 ?_
        refine x_o (x_u (Ne.symm na) q00) ?_
        conv => whnf
        refine ⟨_, _, _, _, _, c_Pool_init (va_up_self _ _ _), ?_, ?_⟩
        · decide
        rintro r f2 ⟨rfl, q, e, g1, g2, g3, g4, g5, g6, g7, g8⟩
        have nqa : q ≠ a := fun z => by rw [z, va_up_self] at g1; cases g1
        rw [va_up_ne _ _ nqa] at g1
        rw [va_up_ne _ _ g4] at g2
        have nq : q ≠ A 0 0 := fun z => by rw [z, q00] at g1; cases g1
        have ne : e ≠ A 0 0 := fun z => by rw [z, q00] at g2; cases g2
        have fq : f q = none := (qf q nq).symm.trans g1
        have fe : f e = none := (qf e ne).symm.trans g2
        have u : ∀ b, b ≠ a → b ≠ q → b ≠ e → b ≠ A 0 0 → f2 b = f b := fun b b1 b2 b3 b4 => by rw [g8 b b1 b2 b3, va_up_ne _ _ b1, qf b b4]
        have w7 : f2 (A 0 7) = _ := (u _ (nn 7 a (by omega) fa) (nn 7 q (by omega) fq) (nn 7 e (by omega) fe) n07).trans h07
        have w0 : f2 (A 0 0) = _ := (g8 _ (Ne.symm na) (Ne.symm nq) (Ne.symm ne)).trans (x_u (Ne.symm na) q00)
        refine x_a w7 ?_
        refine And.intro ei2.1 ?_
        refine x_o g7 ?_
        rw [ei2.2]
        have a7 : a ≠ A 0 7 := Ne.symm (nn 7 a (by omega) fa)
        obtain ⟨A', DA', c1, c2⟩ := PS_cm0 (f' := va_up f2 (A 0 7) (some (.inr (3, 32, va_up (fun j => if v 20 j = 0 then .null else .ref (A 5 j)) (v 1 0).toNat (.ref a))))) hP hR hok fa fq fe (Ne.symm nqa) (Ne.symm g4) (Ne.symm g3) ((va_up_ne _ _ a7).trans g7) ((va_up_ne _ _ (Ne.symm (nn 7 q (by omega) fq))).trans g5) ((va_up_ne _ _ (Ne.symm (nn 7 e (by omega) fe))).trans g6) ((va_up_ne _ _ (Ne.symm n07)).trans w0) (va_up_self _ _ _) (fun b b1 b2 b3 b4 b5 => (va_up_ne _ _ b5).trans (u b b1 b2 b3 b4))
        exact ret _ 3 15 A' DA' (by decide) (by decide) c1 c2
    · have k2 : k = 1 := ik1.mp hc
      subst k2
      conv => whnf
      refine x_som_i t0 ?_
      refine x_o q00 ?_
      conv => whnf
      refine x_som_i t5 ?_
      intro a ha1
      have na : a ≠ A 0 0 := fun z => by subst z; exact absurd (q00.symm.trans ha1) (fun q => nomatch q)
      have fa : f a = none := (qf a na).symm.trans ha1
      conv => whnf
      refine x_som_i t2 ?_
      conv => whnf
      refine x_som_i t3 ?_
      conv => whnf
      refine x_som_i t4 ?_
      conv => whnf
      refine ⟨_, _, _, _, _, c_Stateful_init (va_up_self _ _ _), ?_, ?_⟩
      · decide
      rintro r f2 ⟨rfl, q, g1, g5, g7, g8⟩
      have nqa : q ≠ a := fun z => by rw [z, va_up_self] at g1; cases g1
      rw [va_up_ne _ _ nqa] at g1
      have nq : q ≠ A 0 0 := fun z => by subst z; exact absurd (q00.symm.trans g1) (fun q => nomatch q)
      have fq : f q = none := (qf q nq).symm.trans g1
      have u : ∀ b, b ≠ a → b ≠ q → b ≠ A 0 0 → f2 b = f b := fun b b1 b2 b4 => (g8 b b1 b2).trans ((va_up_ne _ _ b1).trans (qf b b4))
      have w7 : f2 (A 0 8) = _ := (u _ (nn 8 a (by omega) fa) (nn 8 q (by omega) fq) n08).trans h08
      have w0 : f2 (A 0 0) = _ := (g8 _ (Ne.symm na) (Ne.symm nq)).trans (x_u (Ne.symm na) q00)
      refine x_a w7 ?_
      refine And.intro ei.1 ?_
      refine x_o g7 ?_
      rw [ei.2]
      have a7 : a ≠ A 0 8 := Ne.symm (nn 8 a (by omega) fa)
      obtain ⟨A', DA', c1, c2⟩ := PS_cm1 (f' := va_up f2 (A 0 8) (some (.inr (4, 8, va_up (fun j => if v 40 j = 0 then .null else .ref (A 9 j)) (v 1 0).toNat (.ref a))))) hP hR hok fa fq (Ne.symm nqa) ((va_up_ne _ _ a7).trans g7) ((va_up_ne _ _ (Ne.symm (nn 8 q (by omega) fq))).trans g5) ((va_up_ne _ _ (Ne.symm n08)).trans w0) (va_up_self _ _ _) (fun b b1 b2 b4 b5 => (va_up_ne _ _ b5).trans (u b b1 b2 b4))
      exact ret _ 2 7 A' DA' (by decide) (by decide) c1 c2
  have hS : ∀ c i, iS (v c i) → True := fun _ _ _ => trivial
  have a60 : ∀ ls : ALc, ¬ okCmp v k n t d → ago 60 ls [] v L 0 0 := by
    intro ls hno
    refine ast 60 _ _ _ _ _ _ _ rfl (by decide +kernel) ?_
    repeat' first | (refine a_si ?sd ?_; case sd => (first | (first | assumption | exact hS _ _ | omega | (constructor <;> omega) | (show _ = (1 : Int) ∨ _ = (2 : Int) ∨ _ = (3 : Int); omega)) | (refine ⟨?_, ?_⟩ <;> (first | assumption | exact hS _ _ | omega | (constructor <;> omega) | (show _ = (1 : Int) ∨ _ = (2 : Int) ∨ _ = (3 : Int); omega))) | (refine ⟨?_, ?_, ?_⟩ <;> (first | assumption | exact hS _ _ | omega | (constructor <;> omega) | (show _ = (1 : Int) ∨ _ = (2 : Int) ∨ _ = (3 : Int); omega))) | (refine ⟨?_, ?_, ?_, ?_⟩ <;> (first | assumption | exact hS _ _ | omega | (constructor <;> omega) | (show _ = (1 : Int) ∨ _ = (2 : Int) ∨ _ = (3 : Int); omega))) | (refine ⟨⟨?_, ?_⟩, ?_, ?_⟩ <;> (first | assumption | exact hS _ _ | omega | (constructor <;> omega) | (show _ = (1 : Int) ∨ _ = (2 : Int) ∨ _ = (3 : Int); omega))) | decide | (simp only [up2, Int.toNat_natCast, a_live5, not_true_eq_false, not_false_eq_true, Nat.reduceEqDiff, false_and, true_and, and_true, and_false, and_self, if_true, if_false, ↓reduceIte, reduceCtorEq]; first | (first | assumption | exact hS _ _ | omega | (constructor <;> omega) | (show _ = (1 : Int) ∨ _ = (2 : Int) ∨ _ = (3 : Int); omega)) | (refine ⟨?_, ?_⟩ <;> (first | assumption | exact hS _ _ | omega | (constructor <;> omega) | (show _ = (1 : Int) ∨ _ = (2 : Int) ∨ _ = (3 : Int); omega))) | (refine ⟨?_, ?_, ?_⟩ <;> (first | assumption | exact hS _ _ | omega | (constructor <;> omega) | (show _ = (1 : Int) ∨ _ = (2 : Int) ∨ _ = (3 : Int); omega))) | (refine ⟨?_, ?_, ?_, ?_⟩ <;> (first | assumption | exact hS _ _ | omega | (constructor <;> omega) | (show _ = (1 : Int) ∨ _ = (2 : Int) ∨ _ = (3 : Int); omega))) | (refine ⟨⟨?_, ?_⟩, ?_, ?_⟩ <;> (first | assumption | exact hS _ _ | omega | (constructor <;> omega) | (show _ = (1 : Int) ∨ _ = (2 : Int) ∨ _ = (3 : Int); omega))) | decide))) | (refine And.intro ?_ ?_ <;> (intro hc; (try simp only [up2, Int.toNat_natCast, a_live5, not_true_eq_false, not_false_eq_true, Nat.reduceEqDiff, false_and, true_and, and_true, and_false, and_self, if_true, if_false, ↓reduceIte, reduceCtorEq] at hc); try (exfalso; first | assumption | omega))) | (refine x_som_i l0 ?_) | (refine x_som_i l1 ?_) | (refine x_som_i l2 ?_) | (refine x_som_i l3 ?_) | (refine x_som_i l4 ?_) | (refine x_som_i l5 ?_) | (refine x_som_i l6 ?_) | (refine x_som_i l7 ?_) | (refine x_som_i l8 ?_) | (refine x_som_i l9 ?_) | (refine a_wo ?sd ?_; case sd => (first | exact hS _ _ | assumption | (constructor <;> omega) | (simp only [up2, Int.toNat_natCast, a_live5, not_true_eq_false, not_false_eq_true, Nat.reduceEqDiff, false_and, true_and, and_true, and_false, and_self, if_true, if_false, ↓reduceIte, reduceCtorEq]; first | exact hS _ _ | assumption | (constructor <;> omega))))
    exact no hno
  have a57 : ∀ (ls : ALc) (z : Int), ls 0 = some (aR 0 0) → ls 1 = some (aI k) → ls 2 = some (aI n) → ls 3 = some (aI t) → ls 4 = some (aI d) → v 0 0 = 0 → v 1 0 < 8 → okSz k n → (-1 ≤ t ∧ t ≤ 100) → 0 ≤ d → (k = 1 ∧ z = 100 ∨ ¬ k = 1 ∧ z = 0) → ago 57 ls [aI z, aI d] v L 0 0 := by
    intro ls z l0 l1 l2 l3 l4 h1 h2 h3 h4 h5 h6
    have iz : iS z := by constructor <;> omega
    refine ast 57 _ _ _ _ _ _ _ rfl (by decide +kernel) ?_
    repeat' first | (refine a_si ?sd ?_; case sd => (first | (first | assumption | exact hS _ _ | omega | (constructor <;> omega) | (show _ = (1 : Int) ∨ _ = (2 : Int) ∨ _ = (3 : Int); omega)) | (refine ⟨?_, ?_⟩ <;> (first | assumption | exact hS _ _ | omega | (constructor <;> omega) | (show _ = (1 : Int) ∨ _ = (2 : Int) ∨ _ = (3 : Int); omega))) | (refine ⟨?_, ?_, ?_⟩ <;> (first | assumption | exact hS _ _ | omega | (constructor <;> omega) | (show _ = (1 : Int) ∨ _ = (2 : Int) ∨ _ = (3 : Int); omega))) | (refine ⟨?_, ?_, ?_, ?_⟩ <;> (first | assumption | exact hS _ _ | omega | (constructor <;> omega) | (show _ = (1 : Int) ∨ _ = (2 : Int) ∨ _ = (3 : Int); omega))) | (refine ⟨⟨?_, ?_⟩, ?_, ?_⟩ <;> (first | assumption | exact hS _ _ | omega | (constructor <;> omega) | (show _ = (1 : Int) ∨ _ = (2 : Int) ∨ _ = (3 : Int); omega))) | decide | (simp only [up2, Int.toNat_natCast, a_live5, not_true_eq_false, not_false_eq_true, Nat.reduceEqDiff, false_and, true_and, and_true, and_false, and_self, if_true, if_false, ↓reduceIte, reduceCtorEq]; first | (first | assumption | exact hS _ _ | omega | (constructor <;> omega) | (show _ = (1 : Int) ∨ _ = (2 : Int) ∨ _ = (3 : Int); omega)) | (refine ⟨?_, ?_⟩ <;> (first | assumption | exact hS _ _ | omega | (constructor <;> omega) | (show _ = (1 : Int) ∨ _ = (2 : Int) ∨ _ = (3 : Int); omega))) | (refine ⟨?_, ?_, ?_⟩ <;> (first | assumption | exact hS _ _ | omega | (constructor <;> omega) | (show _ = (1 : Int) ∨ _ = (2 : Int) ∨ _ = (3 : Int); omega))) | (refine ⟨?_, ?_, ?_, ?_⟩ <;> (first | assumption | exact hS _ _ | omega | (constructor <;> omega) | (show _ = (1 : Int) ∨ _ = (2 : Int) ∨ _ = (3 : Int); omega))) | (refine ⟨⟨?_, ?_⟩, ?_, ?_⟩ <;> (first | assumption | exact hS _ _ | omega | (constructor <;> omega) | (show _ = (1 : Int) ∨ _ = (2 : Int) ∨ _ = (3 : Int); omega))) | decide))) | (refine And.intro ?_ ?_ <;> (intro hc; (try simp only [up2, Int.toNat_natCast, a_live5, not_true_eq_false, not_false_eq_true, Nat.reduceEqDiff, false_and, true_and, and_true, and_false, and_self, if_true, if_false, ↓reduceIte, reduceCtorEq] at hc); try (exfalso; first | assumption | omega))) | (refine x_som_i l0 ?_) | (refine x_som_i l1 ?_) | (refine x_som_i l2 ?_) | (refine x_som_i l3 ?_) | (refine x_som_i l4 ?_) | (refine x_som_i l5 ?_) | (refine x_som_i l6 ?_) | (refine x_som_i l7 ?_) | (refine x_som_i l8 ?_) | (refine x_som_i l9 ?_) | (refine a_wo ?sd ?_; case sd => (first | exact hS _ _ | assumption | (constructor <;> omega) | (simp only [up2, Int.toNat_natCast, a_live5, not_true_eq_false, not_false_eq_true, Nat.reduceEqDiff, false_and, true_and, and_true, and_false, and_self, if_true, if_false, ↓reduceIte, reduceCtorEq]; first | exact hS _ _ | assumption | (constructor <;> omega))))
    all_goals first
      | (refine fin _ l0 l1 l2 l3 l4 ⟨h1, h2, h3, h4, h5, ?_⟩; omega)
      | (refine a60 _ (fun q => ?_); have := q.2.2.2.2.2; omega)
  have a39 : ∀ (ls : ALc), ls 0 = some (aR 0 0) → ls 1 = some (aI k) → ls 2 = some (aI n) → ls 3 = some (aI t) → ls 4 = some (aI d) → v 0 0 = 0 → v 1 0 < 8 → okSz k n → (-1 ≤ t ∧ t ≤ 100) → ago 39 ls [] v L 0 0 := by
    intro ls l0 l1 l2 l3 l4 h1 h2 h3 h4
    refine ast 39 _ _ _ _ _ _ _ rfl (by decide +kernel) ?_
    repeat' first | (refine a_si ?sd ?_; case sd => (first | (first | assumption | exact hS _ _ | omega | (constructor <;> omega) | (show _ = (1 : Int) ∨ _ = (2 : Int) ∨ _ = (3 : Int); omega)) | (refine ⟨?_, ?_⟩ <;> (first | assumption | exact hS _ _ | omega | (constructor <;> omega) | (show _ = (1 : Int) ∨ _ = (2 : Int) ∨ _ = (3 : Int); omega))) | (refine ⟨?_, ?_, ?_⟩ <;> (first | assumption | exact hS _ _ | omega | (constructor <;> omega) | (show _ = (1 : Int) ∨ _ = (2 : Int) ∨ _ = (3 : Int); omega))) | (refine ⟨?_, ?_, ?_, ?_⟩ <;> (first | assumption | exact hS _ _ | omega | (constructor <;> omega) | (show _ = (1 : Int) ∨ _ = (2 : Int) ∨ _ = (3 : Int); omega))) | (refine ⟨⟨?_, ?_⟩, ?_, ?_⟩ <;> (first | assumption | exact hS _ _ | omega | (constructor <;> omega) | (show _ = (1 : Int) ∨ _ = (2 : Int) ∨ _ = (3 : Int); omega))) | decide | (simp only [up2, Int.toNat_natCast, a_live5, not_true_eq_false, not_false_eq_true, Nat.reduceEqDiff, false_and, true_and, and_true, and_false, and_self, if_true, if_false, ↓reduceIte, reduceCtorEq]; first | (first | assumption | exact hS _ _ | omega | (constructor <;> omega) | (show _ = (1 : Int) ∨ _ = (2 : Int) ∨ _ = (3 : Int); omega)) | (refine ⟨?_, ?_⟩ <;> (first | assumption | exact hS _ _ | omega | (constructor <;> omega) | (show _ = (1 : Int) ∨ _ = (2 : Int) ∨ _ = (3 : Int); omega))) | (refine ⟨?_, ?_, ?_⟩ <;> (first | assumption | exact hS _ _ | omega | (constructor <;> omega) | (show _ = (1 : Int) ∨ _ = (2 : Int) ∨ _ = (3 : Int); omega))) | (refine ⟨?_, ?_, ?_, ?_⟩ <;> (first | assumption | exact hS _ _ | omega | (constructor <;> omega) | (show _ = (1 : Int) ∨ _ = (2 : Int) ∨ _ = (3 : Int); omega))) | (refine ⟨⟨?_, ?_⟩, ?_, ?_⟩ <;> (first | assumption | exact hS _ _ | omega | (constructor <;> omega) | (show _ = (1 : Int) ∨ _ = (2 : Int) ∨ _ = (3 : Int); omega))) | decide))) | (refine And.intro ?_ ?_ <;> (intro hc; (try simp only [up2, Int.toNat_natCast, a_live5, not_true_eq_false, not_false_eq_true, Nat.reduceEqDiff, false_and, true_and, and_true, and_false, and_self, if_true, if_false, ↓reduceIte, reduceCtorEq] at hc); try (exfalso; first | assumption | omega))) | (refine x_som_i l0 ?_) | (refine x_som_i l1 ?_) | (refine x_som_i l2 ?_) | (refine x_som_i l3 ?_) | (refine x_som_i l4 ?_) | (refine x_som_i l5 ?_) | (refine x_som_i l6 ?_) | (refine x_som_i l7 ?_) | (refine x_som_i l8 ?_) | (refine x_som_i l9 ?_) | (refine a_wo ?sd ?_; case sd => (first | exact hS _ _ | assumption | (constructor <;> omega) | (simp only [up2, Int.toNat_natCast, a_live5, not_true_eq_false, not_false_eq_true, Nat.reduceEqDiff, false_and, true_and, and_true, and_false, and_self, if_true, if_false, ↓reduceIte, reduceCtorEq]; first | exact hS _ _ | assumption | (constructor <;> omega)))) | (refine ast 56 _ _ _ _ _ _ _ rfl (by decide +kernel) ?_)
    all_goals first
      | (refine a60 _ (fun q => ?_); have := q.2.2.2.2.1; omega)
      | exact a57 _ _ l0 l1 l2 l3 l4 h1 h2 h3 h4 (by omega) (by omega)
  have a18 : ∀ (ls : ALc), ls 0 = some (aR 0 0) → ls 1 = some (aI k) → ls 2 = some (aI n) → ls 3 = some (aI t) → ls 4 = some (aI d) → v 0 0 = 0 → v 1 0 < 8 → ago 18 ls [] v L 0 0 := by
    intro ls l0 l1 l2 l3 l4 h1 h2
    refine ast 18 _ _ _ _ _ _ _ rfl (by decide +kernel) ?_
    repeat' first | (refine a_si ?sd ?_; case sd => (first | (first | assumption | exact hS _ _ | omega | (constructor <;> omega) | (show _ = (1 : Int) ∨ _ = (2 : Int) ∨ _ = (3 : Int); omega)) | (refine ⟨?_, ?_⟩ <;> (first | assumption | exact hS _ _ | omega | (constructor <;> omega) | (show _ = (1 : Int) ∨ _ = (2 : Int) ∨ _ = (3 : Int); omega))) | (refine ⟨?_, ?_, ?_⟩ <;> (first | assumption | exact hS _ _ | omega | (constructor <;> omega) | (show _ = (1 : Int) ∨ _ = (2 : Int) ∨ _ = (3 : Int); omega))) | (refine ⟨?_, ?_, ?_, ?_⟩ <;> (first | assumption | exact hS _ _ | omega | (constructor <;> omega) | (show _ = (1 : Int) ∨ _ = (2 : Int) ∨ _ = (3 : Int); omega))) | (refine ⟨⟨?_, ?_⟩, ?_, ?_⟩ <;> (first | assumption | exact hS _ _ | omega | (constructor <;> omega) | (show _ = (1 : Int) ∨ _ = (2 : Int) ∨ _ = (3 : Int); omega))) | decide | (simp only [up2, Int.toNat_natCast, a_live5, not_true_eq_false, not_false_eq_true, Nat.reduceEqDiff, false_and, true_and, and_true, and_false, and_self, if_true, if_false, ↓reduceIte, reduceCtorEq]; first | (first | assumption | exact hS _ _ | omega | (constructor <;> omega) | (show _ = (1 : Int) ∨ _ = (2 : Int) ∨ _ = (3 : Int); omega)) | (refine ⟨?_, ?_⟩ <;> (first | assumption | exact hS _ _ | omega | (constructor <;> omega) | (show _ = (1 : Int) ∨ _ = (2 : Int) ∨ _ = (3 : Int); omega))) | (refine ⟨?_, ?_, ?_⟩ <;> (first | assumption | exact hS _ _ | omega | (constructor <;> omega) | (show _ = (1 : Int) ∨ _ = (2 : Int) ∨ _ = (3 : Int); omega))) | (refine ⟨?_, ?_, ?_, ?_⟩ <;> (first | assumption | exact hS _ _ | omega | (constructor <;> omega) | (show _ = (1 : Int) ∨ _ = (2 : Int) ∨ _ = (3 : Int); omega))) | (refine ⟨⟨?_, ?_⟩, ?_, ?_⟩ <;> (first | assumption | exact hS _ _ | omega | (constructor <;> omega) | (show _ = (1 : Int) ∨ _ = (2 : Int) ∨ _ = (3 : Int); omega))) | decide))) | (refine And.intro ?_ ?_ <;> (intro hc; (try simp only [up2, Int.toNat_natCast, a_live5, not_true_eq_false, not_false_eq_true, Nat.reduceEqDiff, false_and, true_and, and_true, and_false, and_self, if_true, if_false, ↓reduceIte, reduceCtorEq] at hc); try (exfalso; first | assumption | omega))) | (refine x_som_i l0 ?_) | (refine x_som_i l1 ?_) | (refine x_som_i l2 ?_) | (refine x_som_i l3 ?_) | (refine x_som_i l4 ?_) | (refine x_som_i l5 ?_) | (refine x_som_i l6 ?_) | (refine x_som_i l7 ?_) | (refine x_som_i l8 ?_) | (refine x_som_i l9 ?_) | (refine a_wo ?sd ?_; case sd => (first | exact hS _ _ | assumption | (constructor <;> omega) | (simp only [up2, Int.toNat_natCast, a_live5, not_true_eq_false, not_false_eq_true, Nat.reduceEqDiff, false_and, true_and, and_true, and_false, and_self, if_true, if_false, ↓reduceIte, reduceCtorEq]; first | exact hS _ _ | assumption | (constructor <;> omega))))
    conv => whnf
    refine ⟨_, _, _, _, _, c_isSizeOfKind k n hk hn, ?room, ?_⟩
    case room => decide
    rintro _ _ _ ⟨⟨hs, rfl⟩ | ⟨hs, rfl⟩, rfl, rfl⟩
    · repeat' first | (refine a_si ?sd ?_; case sd => (first | (first | assumption | exact hS _ _ | omega | (constructor <;> omega) | (show _ = (1 : Int) ∨ _ = (2 : Int) ∨ _ = (3 : Int); omega)) | (refine ⟨?_, ?_⟩ <;> (first | assumption | exact hS _ _ | omega | (constructor <;> omega) | (show _ = (1 : Int) ∨ _ = (2 : Int) ∨ _ = (3 : Int); omega))) | (refine ⟨?_, ?_, ?_⟩ <;> (first | assumption | exact hS _ _ | omega | (constructor <;> omega) | (show _ = (1 : Int) ∨ _ = (2 : Int) ∨ _ = (3 : Int); omega))) | (refine ⟨?_, ?_, ?_, ?_⟩ <;> (first | assumption | exact hS _ _ | omega | (constructor <;> omega) | (show _ = (1 : Int) ∨ _ = (2 : Int) ∨ _ = (3 : Int); omega))) | (refine ⟨⟨?_, ?_⟩, ?_, ?_⟩ <;> (first | assumption | exact hS _ _ | omega | (constructor <;> omega) | (show _ = (1 : Int) ∨ _ = (2 : Int) ∨ _ = (3 : Int); omega))) | decide | (simp only [up2, Int.toNat_natCast, a_live5, not_true_eq_false, not_false_eq_true, Nat.reduceEqDiff, false_and, true_and, and_true, and_false, and_self, if_true, if_false, ↓reduceIte, reduceCtorEq]; first | (first | assumption | exact hS _ _ | omega | (constructor <;> omega) | (show _ = (1 : Int) ∨ _ = (2 : Int) ∨ _ = (3 : Int); omega)) | (refine ⟨?_, ?_⟩ <;> (first | assumption | exact hS _ _ | omega | (constructor <;> omega) | (show _ = (1 : Int) ∨ _ = (2 : Int) ∨ _ = (3 : Int); omega))) | (refine ⟨?_, ?_, ?_⟩ <;> (first | assumption | exact hS _ _ | omega | (constructor <;> omega) | (show _ = (1 : Int) ∨ _ = (2 : Int) ∨ _ = (3 : Int); omega))) | (refine ⟨?_, ?_, ?_, ?_⟩ <;> (first | assumption | exact hS _ _ | omega | (constructor <;> omega) | (show _ = (1 : Int) ∨ _ = (2 : Int) ∨ _ = (3 : Int); omega))) | (refine ⟨⟨?_, ?_⟩, ?_, ?_⟩ <;> (first | assumption | exact hS _ _ | omega | (constructor <;> omega) | (show _ = (1 : Int) ∨ _ = (2 : Int) ∨ _ = (3 : Int); omega))) | decide))) | (refine And.intro ?_ ?_ <;> (intro hc; (try simp only [up2, Int.toNat_natCast, a_live5, not_true_eq_false, not_false_eq_true, Nat.reduceEqDiff, false_and, true_and, and_true, and_false, and_self, if_true, if_false, ↓reduceIte, reduceCtorEq] at hc); try (exfalso; first | assumption | omega))) | (refine x_som_i l0 ?_) | (refine x_som_i l1 ?_) | (refine x_som_i l2 ?_) | (refine x_som_i l3 ?_) | (refine x_som_i l4 ?_) | (refine x_som_i l5 ?_) | (refine x_som_i l6 ?_) | (refine x_som_i l7 ?_) | (refine x_som_i l8 ?_) | (refine x_som_i l9 ?_) | (refine a_wo ?sd ?_; case sd => (first | exact hS _ _ | assumption | (constructor <;> omega) | (simp only [up2, Int.toNat_natCast, a_live5, not_true_eq_false, not_false_eq_true, Nat.reduceEqDiff, false_and, true_and, and_true, and_false, and_self, if_true, if_false, ↓reduceIte, reduceCtorEq]; first | exact hS _ _ | assumption | (constructor <;> omega)))) | (refine ast 37 _ _ _ _ _ _ _ rfl (by decide +kernel) ?_)
      all_goals first
        | exact a39 _ l0 l1 l2 l3 l4 h1 h2 hs (by omega)
        | (refine no (fun q => ?_); have := q.2.2.2.1; omega)
    · repeat' first | (refine a_si ?sd ?_; case sd => (first | (first | assumption | exact hS _ _ | omega | (constructor <;> omega) | (show _ = (1 : Int) ∨ _ = (2 : Int) ∨ _ = (3 : Int); omega)) | (refine ⟨?_, ?_⟩ <;> (first | assumption | exact hS _ _ | omega | (constructor <;> omega) | (show _ = (1 : Int) ∨ _ = (2 : Int) ∨ _ = (3 : Int); omega))) | (refine ⟨?_, ?_, ?_⟩ <;> (first | assumption | exact hS _ _ | omega | (constructor <;> omega) | (show _ = (1 : Int) ∨ _ = (2 : Int) ∨ _ = (3 : Int); omega))) | (refine ⟨?_, ?_, ?_, ?_⟩ <;> (first | assumption | exact hS _ _ | omega | (constructor <;> omega) | (show _ = (1 : Int) ∨ _ = (2 : Int) ∨ _ = (3 : Int); omega))) | (refine ⟨⟨?_, ?_⟩, ?_, ?_⟩ <;> (first | assumption | exact hS _ _ | omega | (constructor <;> omega) | (show _ = (1 : Int) ∨ _ = (2 : Int) ∨ _ = (3 : Int); omega))) | decide | (simp only [up2, Int.toNat_natCast, a_live5, not_true_eq_false, not_false_eq_true, Nat.reduceEqDiff, false_and, true_and, and_true, and_false, and_self, if_true, if_false, ↓reduceIte, reduceCtorEq]; first | (first | assumption | exact hS _ _ | omega | (constructor <;> omega) | (show _ = (1 : Int) ∨ _ = (2 : Int) ∨ _ = (3 : Int); omega)) | (refine ⟨?_, ?_⟩ <;> (first | assumption | exact hS _ _ | omega | (constructor <;> omega) | (show _ = (1 : Int) ∨ _ = (2 : Int) ∨ _ = (3 : Int); omega))) | (refine ⟨?_, ?_, ?_⟩ <;> (first | assumption | exact hS _ _ | omega | (constructor <;> omega) | (show _ = (1 : Int) ∨ _ = (2 : Int) ∨ _ = (3 : Int); omega))) | (refine ⟨?_, ?_, ?_, ?_⟩ <;> (first | assumption | exact hS _ _ | omega | (constructor <;> omega) | (show _ = (1 : Int) ∨ _ = (2 : Int) ∨ _ = (3 : Int); omega))) | (refine ⟨⟨?_, ?_⟩, ?_, ?_⟩ <;> (first | assumption | exact hS _ _ | omega | (constructor <;> omega) | (show _ = (1 : Int) ∨ _ = (2 : Int) ∨ _ = (3 : Int); omega))) | decide))) | (refine And.intro ?_ ?_ <;> (intro hc; (try simp only [up2, Int.toNat_natCast, a_live5, not_true_eq_false, not_false_eq_true, Nat.reduceEqDiff, false_and, true_and, and_true, and_false, and_self, if_true, if_false, ↓reduceIte, reduceCtorEq] at hc); try (exfalso; first | assumption | omega))) | (refine x_som_i l0 ?_) | (refine x_som_i l1 ?_) | (refine x_som_i l2 ?_) | (refine x_som_i l3 ?_) | (refine x_som_i l4 ?_) | (refine x_som_i l5 ?_) | (refine x_som_i l6 ?_) | (refine x_som_i l7 ?_) | (refine x_som_i l8 ?_) | (refine x_som_i l9 ?_) | (refine a_wo ?sd ?_; case sd => (first | exact hS _ _ | assumption | (constructor <;> omega) | (simp only [up2, Int.toNat_natCast, a_live5, not_true_eq_false, not_false_eq_true, Nat.reduceEqDiff, false_and, true_and, and_true, and_false, and_self, if_true, if_false, ↓reduceIte, reduceCtorEq]; first | exact hS _ _ | assumption | (constructor <;> omega)))) | (refine ast 37 _ _ _ _ _ _ _ rfl (by decide +kernel) ?_)
      all_goals first
        | (exfalso; omega)
        | exact no (fun q => hs q.2.2.1)
  have hp0 : iS (v 0 0) := by constructor <;> omega
  have hp1 : iS (v 1 0) := by constructor <;> omega
  refine ast 0 _ _ _ _ _ _ _ rfl (by decide +kernel) ?_
  repeat' first | (refine a_si ?sd ?_; case sd => (first | (first | assumption | exact hS _ _ | omega | (constructor <;> omega) | (show _ = (1 : Int) ∨ _ = (2 : Int) ∨ _ = (3 : Int); omega)) | (refine ⟨?_, ?_⟩ <;> (first | assumption | exact hS _ _ | omega | (constructor <;> omega) | (show _ = (1 : Int) ∨ _ = (2 : Int) ∨ _ = (3 : Int); omega))) | (refine ⟨?_, ?_, ?_⟩ <;> (first | assumption | exact hS _ _ | omega | (constructor <;> omega) | (show _ = (1 : Int) ∨ _ = (2 : Int) ∨ _ = (3 : Int); omega))) | (refine ⟨?_, ?_, ?_, ?_⟩ <;> (first | assumption | exact hS _ _ | omega | (constructor <;> omega) | (show _ = (1 : Int) ∨ _ = (2 : Int) ∨ _ = (3 : Int); omega))) | (refine ⟨⟨?_, ?_⟩, ?_, ?_⟩ <;> (first | assumption | exact hS _ _ | omega | (constructor <;> omega) | (show _ = (1 : Int) ∨ _ = (2 : Int) ∨ _ = (3 : Int); omega))) | decide | (simp only [up2, Int.toNat_natCast, a_live5, not_true_eq_false, not_false_eq_true, Nat.reduceEqDiff, false_and, true_and, and_true, and_false, and_self, if_true, if_false, ↓reduceIte, reduceCtorEq]; first | (first | assumption | exact hS _ _ | omega | (constructor <;> omega) | (show _ = (1 : Int) ∨ _ = (2 : Int) ∨ _ = (3 : Int); omega)) | (refine ⟨?_, ?_⟩ <;> (first | assumption | exact hS _ _ | omega | (constructor <;> omega) | (show _ = (1 : Int) ∨ _ = (2 : Int) ∨ _ = (3 : Int); omega))) | (refine ⟨?_, ?_, ?_⟩ <;> (first | assumption | exact hS _ _ | omega | (constructor <;> omega) | (show _ = (1 : Int) ∨ _ = (2 : Int) ∨ _ = (3 : Int); omega))) | (refine ⟨?_, ?_, ?_, ?_⟩ <;> (first | assumption | exact hS _ _ | omega | (constructor <;> omega) | (show _ = (1 : Int) ∨ _ = (2 : Int) ∨ _ = (3 : Int); omega))) | (refine ⟨⟨?_, ?_⟩, ?_, ?_⟩ <;> (first | assumption | exact hS _ _ | omega | (constructor <;> omega) | (show _ = (1 : Int) ∨ _ = (2 : Int) ∨ _ = (3 : Int); omega))) | decide))) | (refine And.intro ?_ ?_ <;> (intro hc; (try simp only [up2, Int.toNat_natCast, a_live5, not_true_eq_false, not_false_eq_true, Nat.reduceEqDiff, false_and, true_and, and_true, and_false, and_self, if_true, if_false, ↓reduceIte, reduceCtorEq] at hc); try (exfalso; first | assumption | omega))) | (refine x_som_i l0 ?_) | (refine x_som_i l1 ?_) | (refine x_som_i l2 ?_) | (refine x_som_i l3 ?_) | (refine x_som_i l4 ?_) | (refine x_som_i l5 ?_) | (refine x_som_i l6 ?_) | (refine x_som_i l7 ?_) | (refine x_som_i l8 ?_) | (refine x_som_i l9 ?_) | (refine a_wo ?sd ?_; case sd => (first | exact hS _ _ | assumption | (constructor <;> omega) | (simp only [up2, Int.toNat_natCast, a_live5, not_true_eq_false, not_false_eq_true, Nat.reduceEqDiff, false_and, true_and, and_true, and_false, and_self, if_true, if_false, ↓reduceIte, reduceCtorEq]; first | exact hS _ _ | assumption | (constructor <;> omega)))) | (refine ast 16 _ _ _ _ _ _ _ rfl (by decide +kernel) ?_)
  all_goals first
    | exact a18 _ rfl rfl rfl rfl rfl (by omega) (by omega)
    | (refine no (fun q => ?_); have y1 := q.1; have y2 := q.2.1; omega)
end
