/-! The host's constructor: the method. -/
section
variable {X : XC} {f f' : XH}
theorem kn_r3 {K : List (Nat × XE)} {p q r : Nat × XE} (h : kn f (p :: q :: r :: K)) : kn f (r :: p :: q :: K) := by
  have e : (r :: p :: q :: K).Perm (p :: q :: r :: K) := (List.Perm.swap p r (q :: K)).trans (List.Perm.cons p (List.Perm.swap q r K))
  refine ⟨fun x hx => h.1 x (e.mem_iff.mp hx), ?_⟩
  exact (e.map Prod.fst).nodup_iff.mpr h.2
theorem c_H_init {a : Nat} {g0 : Nat → Value} (k0 : kn f [(a, .inl (10, x_df 10)), (x_k X 0, .inr (99, 0, g0))]) : Holds X y_H_init [.ref a] f 10 400 50 400 (fun r f' => r = none ∧ ∃ (A : Nat → Nat → Nat) (DA : Nat → Nat), A 0 0 = a ∧ PS X f' A DA v0 L0) := by
  refine x_wk2 (Q := fun r f' => r = none ∧ ∃ A : Nat → Nat → Nat, A 0 0 = a ∧ iv_h X f' A 8) ?_ (fun r f' q => ?_)
  case refine_2 =>
    obtain ⟨rfl, A, e, h⟩ := q
    have h6 := h.1 0 6 (Or.inl ⟨rfl, by omega⟩)
    refine ⟨_, fun H hP => hP.cg (g' := fun j => .ref (A 1 j)) h6 (fun j hj => if_pos hj), fun hD => hD.cg h6 (by decide), rfl, A, _, e, iv_end h⟩
  refine x_met ok_H_init (by simp [x_one]) (Nat.le_of_ble_eq_true rfl) fun go st => ?_
  have loop : ∀ (n k : Nat) (A : Nat → Nat → Nat) (F : XH) (ls : XL) (nc ns : Nat), k + n = 8 → A 0 0 = a → iv_h X F A k → nc ≤ 10 + 4 * k → ns ≤ 140 + 22 * k → ls 0 = some (.ref a) → ls 1 = some (.int (nI k)) → go 98 ls [] F nc ns := by
    intro n
    induction n with
    | zero =>
      intro k A F ls nc ns hk eA hI h1 h2 l0 l1
      have hk8 : k = 8 := by omega
      subst hk8
      refine st 98 _ _ _ _ _ _ rfl ?_
      conv => whnf
      refine x_som_i l1 ?_
      refine And.intro (fun _ => ?_) (fun hc => absurd (show (8 : Int32) ≤ nI 8 by decide) hc)
      refine st 124 _ _ _ _ _ _ rfl ?_
      refine x_leb_i (by omega) (x_leb_i (by omega) ?_)
      exact ⟨rfl, A, eA, hI⟩
    | succ n ih =>
      intro k A F ls nc ns hk eA hI h1 h2 l0 l1
      have h00 : F (A 0 0) = some (.inl (10, [.ref (A 0 1), .ref (A 0 3), .ref (A 0 4), .ref (A 0 6), .ref (A 0 7), .ref (A 0 8), .ref (A 0 9), .ref (A 0 10), .int (iI (v0 1 0)), .int (iI (v0 0 0))])) := hI.1 0 0 (Or.inl ⟨rfl, by omega⟩)
      have h06 : F (A 0 6) = some (.inr (2, 8, fun j => if j < k then .ref (A 1 j) else .null)) := hI.1 0 6 (Or.inl ⟨rfl, by omega⟩)
      rw [← eA] at l0
      have ei : vp_in (nI k) 8 := vp_in_nI (by omega) (by decide)
      have ec : (nI k).toNatClampNeg = k := nI_clamp (by omega)
      have lt : ¬ (8 : Int32) ≤ nI k := fun h => by
        have h : nI 8 ≤ nI k := h
        have := (nI_leI (by omega) (by omega)).mp h
        omega
      refine st 98 _ _ _ _ _ _ rfl ?_
      conv => whnf
      refine x_som_i l1 ?_
      refine And.intro (fun hc => absurd hc lt) (fun _ => ?_)
      conv => whnf
      refine x_som_i l0 ?_
      refine x_o h00 ?_
      conv => whnf
      refine x_som_i l1 ?_
      refine x_leb_i (by omega) (x_leb_i (show ns + 10 ≤ 400 by omega) ?_)
      intro c hc
      have nA : ∀ i, i ≤ 10 → A 0 i ≠ c := fun i hi z => by
        have q := hI.1 0 i (Or.inl ⟨rfl, hi⟩)
        rw [z, hc] at q
        unfold e_h at q
        split at q
        · cases q
        · split at q
          · cases q
          · have : i = 0 ∨ i = 1 ∨ i = 2 ∨ i = 3 ∨ i = 4 ∨ i = 5 ∨ i = 7 ∨ i = 8 := by omega
            rcases this with rfl | rfl | rfl | rfl | rfl | rfl | rfl | rfl <;> cases q
      conv => whnf
      refine x_som_i l1 ?_
      conv => whnf
      refine ⟨_, _, _, _, _, c_Caller_init (va_up_self _ _ _), ?_, ?_⟩
      · exact ⟨by decide, by decide, by omega, by show ns + 10 + 12 ≤ 400; omega⟩
      rintro r F1 ⟨rfl, d1, d2, d3, q1, q2, q3, hn, g1, g2, g3, ga, hf⟩
      rw [va_up_ne _ _ hn.1] at q1
      rw [va_up_ne _ _ hn.2.1] at q2
      rw [va_up_ne _ _ hn.2.2.1] at q3
      have hf' : ∀ b, b ≠ c → b ≠ d1 → b ≠ d2 → b ≠ d3 → F1 b = F b := fun b b1 b2 b3 b4 => (hf b b1 b2 b3 b4).trans (va_up_ne _ _ b1)
      have n6 : ∀ d, F d = none → A 0 6 ≠ d := fun d hd z => by rw [z, hd] at h06; cases h06
      have w6 : F1 (A 0 6) = _ := (hf' _ (nA 6 (by omega)) (n6 d1 q1) (n6 d2 q2) (n6 d3 q3)).trans h06
      refine x_a w6 ?_
      refine And.intro ei ?_
      refine x_o ga ?_
      rw [ec]
      obtain ⟨A', e0, hI'⟩ := iv_step hI (by omega) hc q1 q2 q3 hn g1 g2 g3 ga hf'
      conv => whnf
      refine x_som_i l1 ?_
      refine ih (k + 1) A' _ _ _ _ (by omega) ((e0 0).trans eA) hI' (by omega) (by show ns + 10 + 12 ≤ _; omega) ?_ ?_
      · exact (va_up_ne _ _ (by decide)).trans (l0.trans (by rw [eA]))
      · rw [va_up_self, show nI k + 1 = nI (k + 1) from nI_1 k]
  refine st 0 _ _ _ _ _ _ rfl ?_
  intro j hj
  have m1 := kn_new (e := .inl (0, x_df 0)) k0 hj
  conv => whnf
  refine ⟨_, _, _, _, _, c_Journal_init (va_up_self _ _ _), ?_, ?_⟩
  · decide
  rintro r f1 ⟨rfl, jd, u1, u2, u3, u4, u5⟩
  have k1 := kn_r3 (kn_i1 m1 u1 u2 u4 u3 u5)
  refine x_o (kn_hd k1) ?_
  have p1 := kn_put (e' := .inl (10, [.ref j, .null, .null, .null, .null, .null, .null, .null, .int 0, .int 0])) k1
  intro ck hck
  have m2 := kn_new (e := .inl (1, x_df 1)) p1 hck
  conv => whnf
  refine ⟨_, _, _, _, _, c_Clock_init (va_up_self _ _ _), ?_, ?_⟩
  · decide
  rintro r f2 ⟨rfl, u1, u2⟩
  have k2 := kn_sw (kn_i0 m2 u1 u2)
  refine x_o (kn_hd k2) ?_
  have p2 := kn_put (e' := .inl (10, [.ref j, .ref ck, .null, .null, .null, .null, .null, .null, .int 0, .int 0])) k2
  intro ty hty
  have m3 := kn_new (e := .inl (2, x_df 2)) p2 hty
  conv => whnf
  refine ⟨_, _, _, _, _, c_ExceptionTypes_init (va_up_self _ _ _), ?_, ?_⟩
  · decide
  rintro r f3 ⟨rfl, tyd, u1, u2, u3, u4, u5⟩
  have k3 := kn_r3 (kn_i1 m3 u1 u2 u4 u3 u5)
  refine x_o (kn_hd k3) ?_
  have p3 := kn_put (e' := .inl (10, [.ref j, .ref ck, .ref ty, .null, .null, .null, .null, .null, .int 0, .int 0])) k3
  conv => whnf
  refine ⟨by decide, by decide, by decide, by decide, fun ca hca => ?_⟩
  have k4 := kn_sw (kn_new (e := .inr (2, 8, fun _ => .null)) p3 hca)
  refine x_o (kn_hd k4) ?_
  have p4 := kn_put (e' := .inl (10, [.ref j, .ref ck, .ref ty, .ref ca, .null, .null, .null, .null, .int 0, .int 0])) k4
  conv => whnf
  refine ⟨by decide, by decide, by decide, by decide, fun ta hta => ?_⟩
  have k5 := kn_sw (kn_new (e := .inr (3, 32, fun _ => .null)) p4 hta)
  refine x_o (kn_hd k5) ?_
  have p5 := kn_put (e' := .inl (10, [.ref j, .ref ck, .ref ty, .ref ca, .ref ta, .null, .null, .null, .int 0, .int 0])) k5
  conv => whnf
  refine ⟨by decide, by decide, by decide, by decide, fun sa hsa => ?_⟩
  have k6 := kn_sw (kn_new (e := .inr (4, 8, fun _ => .null)) p5 hsa)
  refine x_o (kn_hd k6) ?_
  have p6 := kn_put (e' := .inl (10, [.ref j, .ref ck, .ref ty, .ref ca, .ref ta, .ref sa, .null, .null, .int 0, .int 0])) k6
  intro sl hsl
  have m7 := kn_new (e := .inl (3, x_df 3)) p6 hsl
  conv => whnf
  refine ⟨_, _, _, _, _, c_AL_init (va_up_self _ _ _), ?_, ?_⟩
  · decide
  rintro r f7 ⟨rfl, e7⟩
  have k7 := kn_sw (kn_i0 (f' := f7) m7 (by rw [e7, va_up_self]) (fun b hb => (congrFun e7 b).trans (va_up_ne _ _ hb)))
  refine x_o (kn_hd k7) ?_
  have p7 := kn_put (e' := .inl (10, [.ref j, .ref ck, .ref ty, .ref ca, .ref ta, .ref sa, .ref sl, .null, .int 0, .int 0])) k7
  intro tl htl
  have m8 := kn_new (e := .inl (3, x_df 3)) p7 htl
  conv => whnf
  refine ⟨_, _, _, _, _, c_AL_init (va_up_self _ _ _), ?_, ?_⟩
  · decide
  rintro r f8 ⟨rfl, e8⟩
  have k8 := kn_sw (kn_i0 (f' := f8) m8 (by rw [e8, va_up_self]) (fun b hb => (congrFun e8 b).trans (va_up_ne _ _ hb)))
  refine x_o (kn_hd k8) ?_
  have p8 := kn_put (e' := .inl (10, [.ref j, .ref ck, .ref ty, .ref ca, .ref ta, .ref sa, .ref sl, .ref tl, .int 0, .int 0])) k8
  refine x_o (kn_hd p8) ?_
  have pa := kn_put (e' := .inl (10, [.ref j, .ref ck, .ref ty, .ref ca, .ref ta, .ref sa, .ref sl, .ref tl, .int 0, .int 0])) p8
  refine x_o (kn_hd pa) ?_
  have pb := kn_put (e' := .inl (10, [.ref j, .ref ck, .ref ty, .ref ca, .ref ta, .ref sa, .ref sl, .ref tl, .int 0, .int 0])) pa
  have nd : [a, tl, sl, sa, ta, ca, tyd, ty, ck, jd, j, x_k X 0].Nodup := pb.2
  have nd' : ([a, tl, sl, sa, ta, ca, tyd, ty, ck, jd, j] ++ [x_k X 0]).Nodup := nd
  obtain ⟨n1, -, n3⟩ := List.nodup_append.mp nd'
  have pm : [a, j, jd, ck, ty, tyd, ca, ta, sa, sl, tl].Perm [a, tl, sl, sa, ta, ca, tyd, ty, ck, jd, j] := List.Perm.cons a (List.reverse_perm [tl, sl, sa, ta, ca, tyd, ty, ck, jd, j])
  have n2 : [a, j, jd, ck, ty, tyd, ca, ta, sa, sl, tl].Nodup := pm.nodup_iff.mpr n1
  have hI := pb.1
  have i11 : ∀ i, i ≤ 10 → i = 0 ∨ i = 1 ∨ i = 2 ∨ i = 3 ∨ i = 4 ∨ i = 5 ∨ i = 6 ∨ i = 7 ∨ i = 8 ∨ i = 9 ∨ i = 10 := fun i hi => by omega
  refine loop 8 0 (fun q i => if q = 0 then [a, j, jd, ck, ty, tyd, ca, ta, sa, sl, tl].getD i 0 else 0) _ _ _ _ rfl rfl ⟨fun q i hs => ?_, fun q i q' i' hs hs' z => ?_, fun q i hs z => ?_, g0, ?_⟩ (by decide) (by decide) rfl rfl
  · rcases hs with ⟨rfl, hi⟩ | ⟨-, hi⟩
    · rcases i11 i hi with rfl | rfl | rfl | rfl | rfl | rfl | rfl | rfl | rfl | rfl | rfl
      · exact (hI (a, .inl (10, [.ref j, .ref ck, .ref ty, .ref ca, .ref ta, .ref sa, .ref sl, .ref tl, .int 0, .int 0])) (by simp)).trans rfl
      · exact (hI (j, .inl (0, [.ref jd, .int 0, .int 0])) (by simp)).trans rfl
      · exact (hI (jd, .inr (0, 64, fun _ => .int 0)) (by simp)).trans rfl
      · exact (hI (ck, .inl (1, [.int 0, .int 0])) (by simp)).trans rfl
      · exact (hI (ty, .inl (2, [.ref tyd])) (by simp)).trans rfl
      · exact (hI (tyd, .inr (0, 8, fun _ => .int 0)) (by simp)).trans rfl
      · refine (hI (ca, .inr (2, 8, fun _ => .null)) (by simp)).trans ?_
        unfold e_h
        simp
      · refine (hI (ta, .inr (3, 32, fun _ => .null)) (by simp)).trans ?_
        unfold e_h cc_cell cc_one
        simp [v0]
      · refine (hI (sa, .inr (4, 8, fun _ => .null)) (by simp)).trans ?_
        unfold e_h cc_cell cc_one
        simp [v0]
      · exact (hI (sl, .inl (3, [.int 0, .ref (x_k X 0), .int (nI 0)])) (by simp)).trans rfl
      · exact (hI (tl, .inl (3, [.int 0, .ref (x_k X 0), .int (nI 0)])) (by simp)).trans rfl
    · omega
  · rcases hs with ⟨rfl, hi⟩ | ⟨-, hi⟩
    · rcases hs' with ⟨rfl, hi'⟩ | ⟨-, hi'⟩
      · refine ⟨rfl, nd_inj _ n2 i i' ?_ ?_ z⟩
        · show i < 11; omega
        · show i' < 11; omega
      · omega
    · omega
  · rcases hs with ⟨rfl, hi⟩ | ⟨-, hi⟩
    · have hm : [a, j, jd, ck, ty, tyd, ca, ta, sa, sl, tl].getD i 0 ∈ [a, j, jd, ck, ty, tyd, ca, ta, sa, sl, tl] := by
        rw [List.getD_eq_getElem?_getD, List.getElem?_eq_getElem (show i < 11 by omega)]
        exact List.getElem_mem _
      exact n3 _ (pm.mem_iff.mp hm) (x_k X 0) (by simp) z
    · omega
  · exact hI (x_k X 0, _) (by simp)
end
