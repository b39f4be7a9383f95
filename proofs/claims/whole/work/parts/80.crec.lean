/-! The class's create. -/
section
variable {X : XC} {v w : SV} {L : SL} {own : Int → Nat}
theorem PC.add {f f' : XH} {A : Nat → Nat → Nat} {DA : Nat → Nat} (h : PC X f A DA v L) {l d' e : Nat} {g : Nat → Nat} (hl : cl_live v L l) (h1 : l ≠ 1) (hd : d' = DA l ∧ (∃ cap G, f d' = some (.inr (5, cap, G))) ∨ f d' = none) (ha : al_ok X f' (A (cl_obj l).1 (cl_obj l).2) d' ((L l).length + 1) (va_up g (L l).length (A (cl_el l) e))) (hg : ∀ j, j < (L l).length → g j = A (cl_el l) ((L l).getD j 0)) (hf : ∀ b, b ≠ A (cl_obj l).1 (cl_obj l).2 → b ≠ d' → f' b = f b) : PC X f' A (va_up DA l d') v (upL L l (L l ++ [e])) := by
  refine h.lst hl h1 hd ?_ hf
  refine al_eqg ha (by rw [List.length_append]; rfl) (fun j hj => ?_)
  by_cases z : j = (L l).length
  · rw [z, va_up_self, List.getD_eq_getElem?_getD, List.getElem?_append_right (by omega)]
    simp
  · rw [va_up_ne _ _ z, hg j (by omega), List.getD_eq_getElem?_getD, List.getD_eq_getElem?_getD, List.getElem?_append_left (by omega)]
theorem c_create (c : Int) (hR : RS own v L w) (hc : iS c) (hb : v 4 0 < 3100) : AHoldsN X y_H_create [aR 0 0, aI c] v L 80 2800 6 400 (AD (okCre v L c) ((L 0).length : Nat) (stl (csV v (L 0).length c.toNat, csL L (L 0).length c.toNat)).1 (stl (csV v (L 0).length c.toNat, csL L (L 0).length c.toNat)).2 (-1) v L) := by
  refine a_smN fun hS => ?_
  have hW := hR.1
  have l24 := hW.2.2.2.2.1.2.1
  have no : ¬ okCre v L c → AD (okCre v L c) ((L 0).length : Nat) (stl (csV v (L 0).length c.toNat, csL L (L 0).length c.toNat)).1 (stl (csV v (L 0).length c.toNat, csL L (L 0).length c.toNat)).2 (-1) v L (some (aI (-1))) v L := fun h => ad_f h
  have s1 : iS (((L 0).length : Nat) : Int) := by constructor <;> omega
  refine a_metN ok_H_create (Nat.le_of_ble_eq_true rfl) fun A go ago st con ast => ?_
  have fin : ∀ (ls : ALc), ls 0 = some (aR 0 0) → ls 2 = some (aR 9 c.toNat) → okCre v L c → ago 45 ls [] v L 0 0 := by
    intro ls l0 l2 hok
    refine con _ _ _ _ _ _ _ fun f DA hP => ?_
    obtain ⟨o1, o2, o3, o4⟩ := id hok
    obtain ⟨n, en⟩ : ∃ n, c.toNat = n := ⟨_, rfl⟩
    obtain ⟨s, es⟩ : ∃ s, (L 0).length = s := ⟨_, rfl⟩
    rw [en] at l2 o4
    rw [es] at o3
    have n8 : n < 8 := by omega
    have s0 : cvl A ls 0 = some (.ref (A 0 0)) := cvl_at l0
    have s2 : cvl A ls 2 = some (.ref (A 9 n)) := cvl_at l2
    generalize cvl A ls = ls' at s0 s2
    have h00 := hP.1.c 0 0 rfl
    have h01 := hP.1.c 0 1 rfl
    have h02 := hP.1.c 0 2 rfl
    have h03 := hP.1.c 0 3 rfl
    have h07 := hP.1.c 0 7 rfl
    have h9n : f (A 9 n) = some (.inl (5, [.ref (A 10 n), .int (iI (v 41 n)), .int (iI (v 42 n)), .int (iI (v 43 n))])) := hP.1.c 9 n (if_pos o4)
    have inj := hP.1.2.2.1
    have u7 := hP.1.2.2.2.2.2.2
    have z0 : ∀ i, i ≤ 10 → cc_live v L 0 i := fun i hi => hi
    have nl : ∀ k i b, cc_live v L k i → f b = none → A k i ≠ b := fun k i b hi hb z => u7 k i hi (z ▸ hb)
    have lv9 : cc_live v L 9 n := o4
    have lv10 : cc_live v L 10 n := o4
    have al0 : al_ok X f (A 0 9) (DA 0) (L 0).length (fun j => A 5 ((L 0).getD j 0)) := hP.1.2.1 0 ll0
    have c3 := cl10 n8
    have ll3 : cl_live v L (300 + n) := ll10 n8 o4
    have al3 : al_ok X f (A 10 n) (DA (300 + n)) (L (300 + n)).length (fun j => A 5 ((L (300 + n)).getD j 0)) := by
      have := hP.1.2.1 (300 + n) ll3
      rw [c3.1, c3.2] at this
      exact this
    have e0 : ∀ e ∈ L 0, cc_live v L 5 e := WF_el hW 0 ll0
    have e3 : ∀ e ∈ L (300 + n), cc_live v L 5 e := by
      have := WF_el hW (300 + n) ll3
      rw [c3.2] at this
      exact this
    have st3 : (L (300 + n)).length ≤ 40 := by
      rcases hW.2.2.2.2.1.1 n n8 with q | q
      · omega
      · exact q.1.2.2.1
    have gm : ∀ (M : List Nat) (j : Nat), j < M.length → M.getD j 0 ∈ M := fun M j hj => by
      rw [List.getD_eq_getElem?_getD, List.getElem?_eq_getElem hj]
      exact List.getElem_mem hj
    have el : ∀ e, cc_live v L 5 e → al_el f (A 5 e) ∧ x_elo f (.ref (A 5 e)) := fun e he => (cl_elo (l := 0) hP.1 he).1
    have dn : ∀ l, cl_live v L l → f (DA l) ≠ none := by
      intro l q z
      obtain ⟨m, -, ⟨-, -, g, e⟩ | ⟨cap, G, e, -⟩⟩ := hP.1.2.1 l q
      · rw [z] at e; cases e
      · rw [z] at e; cases e
    have da := fun l q k i hk => (hP.1.2.2.2.1 l q).1 k i hk
    obtain ⟨mm0, hlo0, -⟩ := id al0
    refine st 45 _ _ _ _ _ _ rfl ?_
    conv => whnf
    refine x_som_i s0 ?_
    refine x_o h00 ?_
    refine x_o hlo0 ?_
    conv => whnf
    refine ⟨_, _, _, _, _, c_AL_size' al0, ?_, ?_⟩
    · decide
    rintro r f0 ⟨rfl, ef⟩
    rw [ef]
    rw [es] at al0 ⊢
    intro a ha
    have na : ∀ k i, cc_live v L k i → A k i ≠ a := fun k i hk => nl k i a hk ha
    conv => whnf
    refine x_som_i s2 ?_
    conv => whnf
    refine x_som_i s0 ?_
    refine x_o (x_u (na 0 0 (z0 0 (by omega))) h00) ?_
    conv => whnf
    refine x_som_i s0 ?_
    refine x_o (x_u (na 0 0 (z0 0 (by omega))) h00) ?_
    conv => whnf
    refine ⟨_, _, _, _, _, c_Session_init (va_up_self _ _ _) (x_u (na 9 n lv9) h9n), ?_, ?_⟩
    · decide
    rintro r f1 ⟨rfl, q, g1, g2, g3, g4⟩
    have nqa : q ≠ a := fun z => by rw [z, va_up_self] at g1; cases g1
    rw [va_up_ne _ _ nqa] at g1
    have nq : ∀ k i, cc_live v L k i → A k i ≠ q := fun k i hk => nl k i q hk g1
    have g4' : ∀ b, b ≠ a → b ≠ q → f1 b = f b := fun b b1 b2 => (g4 b b1 b2).trans (va_up_ne _ _ b1)
    have k1 : ∀ k i, cc_live v L k i → f1 (A k i) = f (A k i) := fun k i hk => g4' _ (na k i hk) (nq k i hk)
    refine x_o g3 ?_
    conv => whnf
    refine ⟨_, _, _, _, _, c_comeToBe' g3 ((k1 0 3 (z0 3 (by omega))).trans h03) ((k1 0 1 (z0 1 (by omega))).trans h01) ((k1 0 2 (z0 2 (by omega))).trans h02), ?_, ?_⟩
    · decide
    rintro r f2 ⟨rfl, j1, j2, j3, j4, j5⟩
    have f2f : ∀ b, b ≠ a → b ≠ q → b ≠ A 0 1 → b ≠ A 0 2 → b ≠ A 0 3 → f2 b = f b := fun b b1 b2 b3 b4 b5 => (j5 b b1 b5 b3 b4).trans (g4' b b1 b2)
    have iA : ∀ k i j, cc_live v L k i → j ≤ 10 → ¬ (k = 0 ∧ i = j) → A k i ≠ A 0 j := fun k i j hk hj hn z => hn (inj _ _ _ _ hk (z0 j hj) z)
    have k2 : ∀ k i, cc_live v L k i → ¬ (k = 0 ∧ (i = 1 ∨ i = 2 ∨ i = 3)) → f2 (A k i) = f (A k i) := fun k i hk hn => f2f _ (na k i hk) (nq k i hk) (iA k i 1 hk (by omega) (by omega)) (iA k i 2 hk (by omega) (by omega)) (iA k i 3 hk (by omega) (by omega))
    have d2 : ∀ l, cl_live v L l → f2 (DA l) = f (DA l) := fun l hl => f2f _ (fun z => dn l hl (z ▸ ha)) (fun z => dn l hl (z ▸ g1)) (fun z => da l hl 0 1 (z0 1 (by omega)) z.symm) (fun z => da l hl 0 2 (z0 2 (by omega)) z.symm) (fun z => da l hl 0 3 (z0 3 (by omega)) z.symm)
    have al3' := al_same al3 (k2 10 n lv10 (by omega)) (d2 _ ll3)
    have el2 : ∀ e, cc_live v L 5 e → al_el f2 (A 5 e) ∧ x_elo f2 (.ref (A 5 e)) := by
      intro e he
      have y := k2 5 e he (by omega)
      obtain ⟨⟨ci, fs, x1, x2⟩, x3⟩ := el e he
      refine ⟨⟨ci, fs, y.trans x1, x2⟩, ?_⟩
      rcases x3 with x3 | ⟨w, ci, fs, y1, y2, y3⟩
      · cases x3
      · cases y1
        exact Or.inr ⟨_, ci, fs, rfl, y.trans y2, y3⟩
    conv => whnf
    refine x_som_i s2 ?_
    refine x_o ((k2 9 n lv9 (by omega)).trans h9n) ?_
    obtain ⟨mm3, hlo3, -⟩ := id al3'
    refine x_o hlo3 ?_
    conv => whnf
    refine ⟨_, _, _, _, _, c_AL_add (e := a) al3' st3 (fun j hj => el2 _ (e3 _ (gm _ j hj))) ⟨8, _, j1, rfl⟩ (Ne.symm (na 10 n lv10)) (fun j hj z => absurd (inj _ _ _ _ (e3 _ (gm _ j hj)) lv10 z).1 (by decide)), ?_, ?_⟩
    · decide
    rintro r f3 ⟨rfl, d3, m1, m2, m3⟩
    have hd3 : d3 = DA (300 + n) ∧ (∃ cap G, f d3 = some (.inr (5, cap, G))) ∨ f2 d3 = none := by
      rcases m1 with ⟨y, cap, G, x⟩ | y
      · exact Or.inl ⟨y, cap, G, by rw [y, ← d2 _ ll3]; exact x⟩
      · exact Or.inr y
    have fn : ∀ b, f2 b = none → f b = none ∧ b ≠ a ∧ b ≠ q := by
      intro b hb
      have b1 : b ≠ a := fun z => by rw [z, j1] at hb; cases hb
      have b2 : b ≠ q := fun z => by
        rw [z, j5 q nqa (Ne.symm (nq 0 3 (z0 3 (by omega)))) (Ne.symm (nq 0 1 (z0 1 (by omega)))) (Ne.symm (nq 0 2 (z0 2 (by omega)))), g2] at hb; cases hb
      refine ⟨?_, b1, b2⟩
      rw [← f2f b b1 b2 (fun z => by rw [z, j3] at hb; cases hb) (fun z => by rw [z, j4] at hb; cases hb) (fun z => by rw [z, j2] at hb; cases hb)]
      exact hb
    have d3n : ∀ k i, cc_live v L k i → A k i ≠ d3 := by
      intro k i hk z
      rcases hd3 with ⟨y, -⟩ | y
      · exact da _ ll3 k i hk (z.trans y)
      · exact u7 k i hk (z ▸ (fn d3 y).1)
    have d3a : d3 ≠ a ∧ d3 ≠ q := by
      rcases hd3 with ⟨y, -⟩ | y
      · exact ⟨fun z => dn _ ll3 (by rw [← y, z]; exact ha), fun z => dn _ ll3 (by rw [← y, z]; exact g1)⟩
      · exact (fn d3 y).2
    have x0 : ∃ g0, f (x_k X 0) = some (.inr (99, 0, g0)) := hP.1.2.2.2.2.1
    have d30 : DA 0 ≠ d3 := by
      intro z
      rcases hd3 with ⟨y, cap, G, x⟩ | y
      · have := (hP.1.2.2.2.1 (300 + n) ll3).2 0 ll0 (by omega) (z.trans y)
        obtain ⟨g0, x0⟩ := x0
        rw [y, this, x0] at x
        cases x
      · exact dn 0 ll0 (by rw [z]; exact (fn d3 y).1)
    have k3 : ∀ k i, cc_live v L k i → ¬ (k = 10 ∧ i = n) → f3 (A k i) = f2 (A k i) := fun k i hk hn => m3 _ (fun z => hn (inj _ _ _ _ hk lv10 z)) (d3n k i hk)
    have al0' : al_ok X f3 (A 0 9) (DA 0) s (fun j => A 5 ((L 0).getD j 0)) := al_same al0 ((k3 0 9 (z0 9 (by omega)) (by omega)).trans (k2 0 9 (z0 9 (by omega)) (by omega))) ((m3 _ (fun z => da 0 ll0 10 n lv10 z.symm) d30).trans (d2 0 ll0))
    have ja : f3 a = f2 a := m3 a (Ne.symm (na 10 n lv10)) (Ne.symm d3a.1)
    have el3 : ∀ e, cc_live v L 5 e → al_el f3 (A 5 e) ∧ x_elo f3 (.ref (A 5 e)) := by
      intro e he
      have y := k3 5 e he (by omega)
      obtain ⟨⟨ci, fs, x1, x2⟩, x3⟩ := el2 e he
      refine ⟨⟨ci, fs, y.trans x1, x2⟩, ?_⟩
      rcases x3 with x3 | ⟨w, ci, fs, y1, y2, y3⟩
      · cases x3
      · cases y1
        exact Or.inr ⟨_, ci, fs, rfl, y.trans y2, y3⟩
    conv => whnf
    refine x_som_i s0 ?_
    refine x_o ((k3 0 0 (z0 0 (by omega)) (by omega)).trans ((k2 0 0 (z0 0 (by omega)) (by omega)).trans h00)) ?_
    obtain ⟨mm4, hlo4, -⟩ := id al0'
    refine x_o hlo4 ?_
    conv => whnf
    refine ⟨_, _, _, _, _, c_AL_add (e := a) al0' (by omega) (fun j hj => el3 _ (e0 _ (gm _ j (by omega)))) ⟨8, _, ja.trans j1, rfl⟩ (Ne.symm (na 0 9 (z0 9 (by omega)))) (fun j hj z => absurd (inj _ _ _ _ (e0 _ (gm _ j (by omega))) (z0 9 (by omega)) z).1 (by decide)), ?_, ?_⟩
    · decide
    rintro r f4 ⟨rfl, d0, t1, t2, t3⟩
    have hd0 : d0 = DA 0 ∧ (∃ cap G, f3 d0 = some (.inr (5, cap, G))) ∨ f3 d0 = none := by
      rcases t1 with ⟨y, cap, G, x⟩ | y
      · exact Or.inl ⟨y, cap, G, by rw [y]; exact x⟩
      · exact Or.inr y
    have d0n : ∀ k i, cc_live v L k i → A k i ≠ d0 := by
      intro k i hk z
      rcases hd0 with ⟨y, -⟩ | y
      · exact da _ ll0 k i hk (z.trans y)
      · by_cases x : k = 10 ∧ i = n
        · obtain ⟨rfl, rfl⟩ := x
          obtain ⟨m, e, -⟩ := m2
          rw [z, y] at e; cases e
        · rw [← z, k3 k i hk x] at y
          exact u7 k i hk (fn _ y).1
    have k4 : ∀ k i, cc_live v L k i → ¬ (k = 0 ∧ i = 9) → f4 (A k i) = f3 (A k i) := fun k i hk hn => t3 _ (iA k i 9 hk (by omega) hn) (d0n k i hk)
    have w00 : f4 (A 0 0) = _ := (k4 0 0 (z0 0 (by omega)) (by omega)).trans ((k3 0 0 (z0 0 (by omega)) (by omega)).trans ((k2 0 0 (z0 0 (by omega)) (by omega)).trans h00))
    have w07 : f4 (A 0 7) = _ := (k4 0 7 (z0 7 (by omega)) (by omega)).trans ((k3 0 7 (z0 7 (by omega)) (by omega)).trans ((k2 0 7 (z0 7 (by omega)) (by omega)).trans h07))
    have d0a : d0 ≠ a := by
      intro z
      rcases hd0 with ⟨y, -⟩ | y
      · exact dn 0 ll0 (by rw [← y, z]; exact ha)
      · rw [z, ja, j1] at y; cases y
    have j4a : f4 a = f3 a := t3 a (Ne.symm (na 0 9 (z0 9 (by omega)))) (Ne.symm d0a)
    conv => whnf
    refine x_som_i s0 ?_
    refine x_o w00 ?_
    refine x_a w07 ?_
    have ei := vp_in_i (j := ((8 + s : Nat) : Int)) (n := 32) ⟨by omega, by omega, by decide⟩
    have e8 : (8 : Int32) + nI s = iI ((8 + s : Nat) : Int) := by rw [iI_n, show (8 : Int32) = nI 8 from rfl, nI_add]
    rw [show (8 : Int32) + nI s = iI ((8 + s : Nat) : Int) from e8]
    refine And.intro ei.1 ?_
    refine x_o (j4a.trans (ja.trans j1)) ?_
    rw [ei.2, Int.toNat_natCast]
    -- the picture
    obtain ⟨T, eT⟩ : ∃ T : Option XE, some (.inr (3, 32, va_up (fun j => if v 20 j = 0 then .null else .ref (A 5 j)) (8 + s) (.ref a))) = T := ⟨_, rfl⟩
    have up7 : ∀ (g : XH) b, b ≠ A 0 7 → va_up g (A 0 7) T b = g b := fun g b hb => va_up_ne _ _ hb
    have a7 : a ≠ A 0 7 := Ne.symm (na 0 7 (z0 7 (by omega)))
    have q7 : q ≠ A 0 7 := Ne.symm (nq 0 7 (z0 7 (by omega)))
    have n7 : ∀ j, j ≤ 10 → j ≠ 7 → A 0 j ≠ A 0 7 := fun j hj hn => iA 0 j 7 (z0 j hj) (by omega) (by omega)
    have P1 := PS_cs1 (r1 := va_up f2 (A 0 7) T) hP hR es o3 n8 o4 hb ha g1 (Ne.symm nqa) ((up7 _ _ a7).trans j1) ((up7 _ _ q7).trans ((j5 q nqa (Ne.symm (nq 0 3 (z0 3 (by omega)))) (Ne.symm (nq 0 1 (z0 1 (by omega)))) (Ne.symm (nq 0 2 (z0 2 (by omega))))).trans g2)) ((up7 _ _ (n7 1 (by omega) (by omega))).trans j3) ((up7 _ _ (n7 2 (by omega) (by omega))).trans j4) ((up7 _ _ (n7 3 (by omega) (by omega))).trans j2) ((va_up_self _ _ _).trans eT.symm) (fun b b1 b2 b3 b4 b5 b7 => (up7 _ _ b7).trans (f2f b b1 b2 b3 b4 b5))
    have A'5 : ∀ e, cc_live v L 5 e → (if e = 8 + s ∧ (5 : Nat) = 5 then a else if e = 8 + s ∧ (5 : Nat) = 6 then q else A 5 e) = A 5 e := by
      intro e he
      have : e ≠ 8 + s := by
        intro z
        have he : v 20 e = 1 ∨ v 20 e = 2 ∨ v 20 e = 3 := he
        rcases hR.2.1.2.2.2.2.2.2.1.1 s o3 with ⟨y, _⟩ | ⟨_, y⟩
        · omega
        · rw [z] at he; omega
      simp [this]
    have v40 : csV v s n 40 n = 1 := by rw [csV_c (by omega) (by omega) (by omega)]; exact o4
    have L3 : upL L (108 + s) [] (300 + n) = L (300 + n) := upL_n (by omega)
    have P2 := PC.add (f' := va_up f3 (A 0 7) T) (d' := d3) (e := 8 + s) (g := fun j => A 5 ((L (300 + n)).getD j 0)) (l := 300 + n) P1.1 (ll10 n8 v40) (by omega) (by
      rcases hd3 with ⟨y, cap, G, x⟩ | y
      · refine Or.inl ⟨by rw [if_neg (by omega)]; exact y, cap, G, ?_⟩
        rw [up7 _ _ (fun z => da _ ll3 0 7 (z0 7 (by omega)) (z ▸ y)), f2f d3 d3a.1 d3a.2 (Ne.symm (d3n 0 1 (z0 1 (by omega)))) (Ne.symm (d3n 0 2 (z0 2 (by omega)))) (Ne.symm (d3n 0 3 (z0 3 (by omega))))]
        exact x
      · exact Or.inr ((up7 _ _ (Ne.symm (d3n 0 7 (z0 7 (by omega))))).trans y)) (by
      rw [L3, c3.1, c3.2]
      simp only [Nat.reduceEqDiff, and_false, if_false, and_true, if_true]
      exact al_same m2 (up7 _ _ (iA 10 n 7 lv10 (by omega) (by omega))) (up7 _ _ (Ne.symm (d3n 0 7 (z0 7 (by omega)))))) (fun j hj => by
      rw [L3] at hj ⊢
      rw [c3.2]
      exact (A'5 _ (e3 _ (gm _ j hj))).symm) (fun b b1 b2 => by
      rw [c3.1] at b1
      simp only [Nat.reduceEqDiff, and_false, if_false] at b1
      by_cases b7 : b = A 0 7
      · rw [b7, va_up_self, va_up_self]
      · rw [up7 _ _ b7, up7 _ _ b7]; exact m3 b b1 b2)
    have L0 : upL (upL L (108 + s) []) (300 + n) (upL L (108 + s) [] (300 + n) ++ [8 + s]) 0 = L 0 := (upL_n (by omega)).trans (upL_n (by omega))
    have P3 := PC.add (f' := va_up f4 (A 0 7) T) (d' := d0) (e := 8 + s) (g := fun j => A 5 ((L 0).getD j 0)) (l := 0) P2 ll0 (by omega) (by
      rcases hd0 with ⟨y, cap, G, x⟩ | y
      · refine Or.inl ⟨by rw [va_up_ne _ _ (by omega), if_neg (by omega)]; exact y, cap, G, ?_⟩
        rw [up7 _ _ (fun z => da _ ll0 0 7 (z0 7 (by omega)) (z ▸ y))]
        exact x
      · exact Or.inr ((up7 _ _ (Ne.symm (d0n 0 7 (z0 7 (by omega))))).trans y)) (by
      rw [L0, es]
      show al_ok X _ (if (9 : Nat) = 8 + s ∧ (0 : Nat) = 5 then a else if (9 : Nat) = 8 + s ∧ (0 : Nat) = 6 then q else A 0 9) d0 (s + 1) (va_up _ s (if 8 + s = 8 + s ∧ (5 : Nat) = 5 then a else _))
      simp only [Nat.reduceEqDiff, and_false, if_false, and_true, if_true]
      exact al_same t2 (up7 _ _ (n7 9 (by omega) (by omega))) (up7 _ _ (Ne.symm (d0n 0 7 (z0 7 (by omega)))))) (fun j hj => by
      rw [L0] at hj ⊢
      exact (A'5 _ (e0 _ (gm _ j hj))).symm) (fun b b1 b2 => by
      have b1 : b ≠ (if (9 : Nat) = 8 + s ∧ (0 : Nat) = 5 then a else if (9 : Nat) = 8 + s ∧ (0 : Nat) = 6 then q else A 0 9) := b1
      simp only [Nat.reduceEqDiff, and_false, if_false] at b1
      by_cases b7 : b = A 0 7
      · rw [b7, va_up_self, va_up_self]
      · rw [up7 _ _ b7, up7 _ _ b7]; exact t3 b b1 b2)
    have eL : upL (upL (upL L (108 + s) []) (300 + n) (upL L (108 + s) [] (300 + n) ++ [8 + s])) 0 (upL (upL L (108 + s) []) (300 + n) (upL L (108 + s) [] (300 + n) ++ [8 + s]) 0 ++ [8 + s]) = csL L s n := by
      funext l
      rw [L0, L3]
      unfold csL
      by_cases y0 : l = 0
      · rw [y0, upL_s, if_neg (by omega), if_pos rfl]
      · rw [upL_n y0]
        by_cases y3 : l = 300 + n
        · rw [y3, upL_s, if_neg (by omega), if_neg (by omega), if_pos rfl]
        · rw [upL_n y3]
          by_cases y8 : l = 108 + s
          · rw [y8, upL_s, if_pos rfl]
          · rw [upL_n y8, if_neg y8, if_neg y0, if_neg y3]
    rw [eL] at P3
    obtain ⟨⟨own', q1⟩, -⟩ := RS_cs hR es o3 n8 o4 hb
    have cs := c_settle (X := X) q1.1 _ _ _ ⟨P3, P1.2⟩
    rw [← eT] at cs
    have eA : List.map (cv fun k i => if i = 8 + s ∧ k = 5 then a else if i = 8 + s ∧ k = 6 then q else A k i) [aR 0 0] = [.ref (A 0 0)] := by
      show [Value.ref (if (0 : Nat) = 8 + s ∧ (0 : Nat) = 5 then a else if (0 : Nat) = 8 + s ∧ (0 : Nat) = 6 then q else A 0 0)] = _
      simp
    rw [eA] at cs
    conv => whnf
    refine x_som_i s0 ?_
    refine x_o ((va_up_ne _ _ (n7 0 (by omega) (by omega))).trans w00) ?_
    conv => whnf
    refine ⟨_, _, _, _, _, cs, ?_, ?_⟩
    · decide
    rintro r f5 ⟨ra, v5, L5, DA5, rfl, c1, rfl, rfl, rfl⟩
    rw [en]
    refine ⟨some (aI (s : Nat)), _, _, (fun k i => if i = 8 + s ∧ k = 5 then a else if i = 8 + s ∧ k = 6 then q else A k i), DA5, ?_, ⟨by simp, by simp⟩, c1, ad_t hok⟩
    show some (Value.int (nI s)) = some (Value.int (iI (s : Nat)))
    rw [iI_n]
  have b40 : 0 ≤ c → c < 8 → v 40 c.toNat = 0 ∨ v 40 c.toNat = 1 := by
    intro h1 h2
    rcases hW.2.2.2.2.1.1 c.toNat (by omega) with q | q
    · exact Or.inl q
    · exact Or.inr q.1.2.1
  refine ast 0 _ _ _ _ _ _ _ rfl (by decide +kernel) ?_
  repeat' first | (refine a_si ?sd ?_; case sd => (first | (first | assumption | exact hS _ _ | omega | (constructor <;> omega) | (show _ = (1 : Int) ∨ _ = (2 : Int) ∨ _ = (3 : Int); omega)) | (refine ⟨?_, ?_⟩ <;> (first | assumption | exact hS _ _ | omega | (constructor <;> omega) | (show _ = (1 : Int) ∨ _ = (2 : Int) ∨ _ = (3 : Int); omega))) | (refine ⟨?_, ?_, ?_⟩ <;> (first | assumption | exact hS _ _ | omega | (constructor <;> omega) | (show _ = (1 : Int) ∨ _ = (2 : Int) ∨ _ = (3 : Int); omega))) | (refine ⟨?_, ?_, ?_, ?_⟩ <;> (first | assumption | exact hS _ _ | omega | (constructor <;> omega) | (show _ = (1 : Int) ∨ _ = (2 : Int) ∨ _ = (3 : Int); omega))) | (refine ⟨⟨?_, ?_⟩, ?_, ?_⟩ <;> (first | assumption | exact hS _ _ | omega | (constructor <;> omega) | (show _ = (1 : Int) ∨ _ = (2 : Int) ∨ _ = (3 : Int); omega))) | decide | (simp only [m_note, up2, Int.toNat_natCast, a_live5, not_true_eq_false, not_false_eq_true, Nat.reduceEqDiff, false_and, true_and, and_true, and_false, and_self, if_true, if_false, ↓reduceIte, reduceCtorEq]; first | (first | assumption | exact hS _ _ | omega | (constructor <;> omega) | (show _ = (1 : Int) ∨ _ = (2 : Int) ∨ _ = (3 : Int); omega)) | (refine ⟨?_, ?_⟩ <;> (first | assumption | exact hS _ _ | omega | (constructor <;> omega) | (show _ = (1 : Int) ∨ _ = (2 : Int) ∨ _ = (3 : Int); omega))) | (refine ⟨?_, ?_, ?_⟩ <;> (first | assumption | exact hS _ _ | omega | (constructor <;> omega) | (show _ = (1 : Int) ∨ _ = (2 : Int) ∨ _ = (3 : Int); omega))) | (refine ⟨?_, ?_, ?_, ?_⟩ <;> (first | assumption | exact hS _ _ | omega | (constructor <;> omega) | (show _ = (1 : Int) ∨ _ = (2 : Int) ∨ _ = (3 : Int); omega))) | (refine ⟨⟨?_, ?_⟩, ?_, ?_⟩ <;> (first | assumption | exact hS _ _ | omega | (constructor <;> omega) | (show _ = (1 : Int) ∨ _ = (2 : Int) ∨ _ = (3 : Int); omega))) | decide))) | (refine And.intro ?_ ?_ <;> (intro hc; (try simp only [m_note, up2, Int.toNat_natCast, a_live5, not_true_eq_false, not_false_eq_true, Nat.reduceEqDiff, false_and, true_and, and_true, and_false, and_self, if_true, if_false, ↓reduceIte, reduceCtorEq] at hc); try (exfalso; first | assumption | omega))) | (refine x_som_i l0 ?_) | (refine x_som_i l1 ?_) | (refine x_som_i l2 ?_) | (refine x_som_i l3 ?_) | (refine x_som_i l4 ?_) | (refine x_som_i l5 ?_) | (refine x_som_i l6 ?_) | (refine x_som_i l7 ?_) | (refine x_som_i l8 ?_) | (refine x_som_i l9 ?_) | (refine a_wo ?sd ?_; case sd => (first | exact hS _ _ | assumption | (constructor <;> omega) | (simp only [m_note, up2, Int.toNat_natCast, a_live5, not_true_eq_false, not_false_eq_true, Nat.reduceEqDiff, false_and, true_and, and_true, and_false, and_self, if_true, if_false, ↓reduceIte, reduceCtorEq]; first | exact hS _ _ | assumption | (constructor <;> omega)))) | (refine ast 30 _ _ _ _ _ _ _ rfl (by decide +kernel) ?_)
  all_goals first
    | (refine no (fun q => ?_); have y1 := q.1; have y2 := q.2.1; omega)
    | skip
  refine a_ci (a_AL_size (l := 0) ll0 rfl) ?room ?_
  case room => decide
  rintro _ _ _ ⟨rfl, rfl, rfl⟩
  have c0 : 0 ≤ c := by omega
  have c8 : c < 8 := by omega
  repeat' first | (refine a_si ?sd ?_; case sd => (first | (first | assumption | exact hS _ _ | omega | (constructor <;> omega) | (show _ = (1 : Int) ∨ _ = (2 : Int) ∨ _ = (3 : Int); omega)) | (refine ⟨?_, ?_⟩ <;> (first | assumption | exact hS _ _ | omega | (constructor <;> omega) | (show _ = (1 : Int) ∨ _ = (2 : Int) ∨ _ = (3 : Int); omega))) | (refine ⟨?_, ?_, ?_⟩ <;> (first | assumption | exact hS _ _ | omega | (constructor <;> omega) | (show _ = (1 : Int) ∨ _ = (2 : Int) ∨ _ = (3 : Int); omega))) | (refine ⟨?_, ?_, ?_, ?_⟩ <;> (first | assumption | exact hS _ _ | omega | (constructor <;> omega) | (show _ = (1 : Int) ∨ _ = (2 : Int) ∨ _ = (3 : Int); omega))) | (refine ⟨⟨?_, ?_⟩, ?_, ?_⟩ <;> (first | assumption | exact hS _ _ | omega | (constructor <;> omega) | (show _ = (1 : Int) ∨ _ = (2 : Int) ∨ _ = (3 : Int); omega))) | decide | (simp only [m_note, up2, Int.toNat_natCast, a_live5, not_true_eq_false, not_false_eq_true, Nat.reduceEqDiff, false_and, true_and, and_true, and_false, and_self, if_true, if_false, ↓reduceIte, reduceCtorEq]; first | (first | assumption | exact hS _ _ | omega | (constructor <;> omega) | (show _ = (1 : Int) ∨ _ = (2 : Int) ∨ _ = (3 : Int); omega)) | (refine ⟨?_, ?_⟩ <;> (first | assumption | exact hS _ _ | omega | (constructor <;> omega) | (show _ = (1 : Int) ∨ _ = (2 : Int) ∨ _ = (3 : Int); omega))) | (refine ⟨?_, ?_, ?_⟩ <;> (first | assumption | exact hS _ _ | omega | (constructor <;> omega) | (show _ = (1 : Int) ∨ _ = (2 : Int) ∨ _ = (3 : Int); omega))) | (refine ⟨?_, ?_, ?_, ?_⟩ <;> (first | assumption | exact hS _ _ | omega | (constructor <;> omega) | (show _ = (1 : Int) ∨ _ = (2 : Int) ∨ _ = (3 : Int); omega))) | (refine ⟨⟨?_, ?_⟩, ?_, ?_⟩ <;> (first | assumption | exact hS _ _ | omega | (constructor <;> omega) | (show _ = (1 : Int) ∨ _ = (2 : Int) ∨ _ = (3 : Int); omega))) | decide))) | (refine And.intro ?_ ?_ <;> (intro hc; (try simp only [m_note, up2, Int.toNat_natCast, a_live5, not_true_eq_false, not_false_eq_true, Nat.reduceEqDiff, false_and, true_and, and_true, and_false, and_self, if_true, if_false, ↓reduceIte, reduceCtorEq] at hc); try (exfalso; first | assumption | omega))) | (refine x_som_i l0 ?_) | (refine x_som_i l1 ?_) | (refine x_som_i l2 ?_) | (refine x_som_i l3 ?_) | (refine x_som_i l4 ?_) | (refine x_som_i l5 ?_) | (refine x_som_i l6 ?_) | (refine x_som_i l7 ?_) | (refine x_som_i l8 ?_) | (refine x_som_i l9 ?_) | (refine a_wo ?sd ?_; case sd => (first | exact hS _ _ | assumption | (constructor <;> omega) | (simp only [m_note, up2, Int.toNat_natCast, a_live5, not_true_eq_false, not_false_eq_true, Nat.reduceEqDiff, false_and, true_and, and_true, and_false, and_self, if_true, if_false, ↓reduceIte, reduceCtorEq]; first | exact hS _ _ | assumption | (constructor <;> omega)))) | (refine ast 30 _ _ _ _ _ _ _ rfl (by decide +kernel) ?_) | (refine ast 32 _ _ _ _ _ _ _ rfl (by decide +kernel) ?_)
  all_goals first
    | (refine fin _ rfl rfl ⟨by assumption, ⟨c0, c8⟩, by omega, ?_⟩; rcases b40 c0 c8 with y | y <;> omega)
    | (refine no (fun q => ?_); have y1 := q.1; have y2 := q.2.2.1; have y3 := q.2.2.2; omega)
end
