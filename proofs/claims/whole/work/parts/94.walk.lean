/-! The law's walk. -/
theorem l_rm {y lo : Nat} (h : (x_mt y).2.2.1 ≤ 100) (h2 : lo ≤ 4000) : 8 + ((x_mt y).2.2.1 + 11) + lo ≤ 84000 := by omega
def l_tg : List Nat := [690, 128, 181, 214, 263, 276, 299, 342, 375, 398, 457, 480, 493, 516, 539, 562, 585, 608, 631, 654, 667]
theorem l_swt (x : Int32) : x_swt 32 658 0 19 [96, 149, 182, 231, 244, 267, 310, 343, 366, 425, 448, 461, 484, 507, 530, 553, 576, 599, 622, 635] x ∈ l_tg := by
  unfold x_swt
  by_cases h : x.toInt < 0 ∨ 19 < x.toInt
  · rw [if_pos h]; decide
  · rw [if_neg h]
    have q : ∀ j, j < 20 → ((32 : Int) + ([96, 149, 182, 231, 244, 267, 310, 343, 366, 425, 448, 461, 484, 507, 530, 553, 576, 599, 622, 635] : List Int).getD j 0).toNat ∈ l_tg := by decide
    exact q (x.toInt - 0).toNat (by omega)
theorem law_go {X : XC} {b Ln : Nat} {xs : Nat → Int32} (hL : Ln ≤ 2560) (go : XJ) (st : ∀ pc ops ls st f nc ns, b_law.lookup pc = some ops → l_run X 2048 84000 605926 7284469 b Ln xs go (fun r _ => r = some (.int 1)) ops pc ls st f nc ns → go pc ls st f nc ns) {f : XH} {g0 : Nat → Value} (hf0 : f (x_k X 0) = some (.inr (99, 0, g0))) : go 0 (x_arg [.ref b]) [] f 0 0 := by
  have zi : ∀ x : Int32, iS x.toInt := fun x => ⟨x.le_toInt, x.toInt_lt⟩
  have loop : ∀ (k n : Nat) (f : XH) (A : Nat → Nat → Nat) (DA : Nat → Nat) (v : SV) (L : SL) (own : Int → Nat) (ls : XL) (nc ns : Nat), n + k = 513 → PS X f A DA v L → RJ own n v L → ls 0 = some (.ref b) → ls 1 = some (.ref (A 0 0)) → ls 2 = some (.ref (A 20 0)) → ls 3 = some (.int (nI (5 * n))) → nc ≤ 100 + 100 * n → ns ≤ 5000 + 9000 * n → n ≤ 512 → go 18 ls [] f nc ns := by
    intro k
    induction k with
    | zero => intro n f A DA v L own ls nc ns h1 _ _ _ _ _ _ _ _ h2; omega
    | succ k ih =>
      intro n f A DA v L own ls nc ns hk hPS hJ l0 l1 l2 l3 hc hs hn
      have h10 := hPS.1.c 0 0 rfl
      refine st 18 _ _ _ _ _ _ rfl ?_
      conv => whnf
      refine x_som_i l3 ?_
      refine And.intro l0 ?_
      have e5 : nI Ln - 5 = iI ((Ln : Int) - 5) := by rw [← iI_n, show (5 : Int32) = iI 5 from rfl, iI_sub]
      have e3 : nI (5 * n) = iI ((5 * n : Nat) : Int) := (iI_n _).symm
      refine And.intro (fun hg => ?_) (fun hg => ?_)
      · refine st 696 _ _ _ _ _ _ rfl ?_
        refine And.intro (Or.inr rfl) ?_
        exact x_leb_i (by omega) (x_leb_i (by omega) rfl)
      · have hg : ¬ nI Ln - 5 < nI (5 * n) := hg
        rw [e5, e3, iI_lt (by constructor <;> omega) (by constructor <;> omega)] at hg
        have n5 : n < 512 := by omega
        have n6 : 5 * n + 5 ≤ Ln := by omega
        have nxt : ∀ (f' : XH) (A' : Nat → Nat → Nat) (DA' : Nat → Nat) (v' : SV) (L' : SL) (own' : Int → Nat) (nc' ns' : Nat), PS X f' A' DA' v' L' → RJ own' (n + 1) v' L' → A' 0 0 = A 0 0 → A' 20 0 = A 20 0 → nc' ≤ 200 + 100 * n → ns' ≤ 14000 + 9000 * n → go 690 ls [] f' nc' ns' := by
          intro f' A' DA' v' L' own' nc' ns' g1 g2 g3 g4 g5 g6
          refine st 690 _ _ _ _ _ _ rfl ?_
          conv => whnf
          refine x_som_i l3 ?_
          refine ih (n + 1) f' A' DA' v' L' own' _ _ _ (by omega) g1 g2 ?_ ?_ ?_ ?_ (by omega) (by omega) (by omega)
          · exact (va_up_ne _ _ (by decide)).trans l0
          · exact (va_up_ne _ _ (by decide)).trans (by rw [g3]; exact l1)
          · exact (va_up_ne _ _ (by decide)).trans (by rw [g4]; exact l2)
          · refine (va_up_self _ _ _).trans ?_
            show some (Value.int (nI (5 * n) + nI 5)) = _
            rw [nI_add]
            rfl
        conv => whnf
        refine ⟨5 * n, l0, l3, by omega, ?_⟩
        show go (x_swt 32 658 0 19 [96, 149, 182, 231, 244, 267, 310, 343, 366, 425, 448, 461, 484, 507, 530, 553, 576, 599, 622, 635] (iI (xs (5 * n + 0)).toInt &&& 31)) ls [] f nc ns
        have hm := l_swt (iI (xs (5 * n + 0)).toInt &&& 31)
        generalize x_swt 32 658 0 19 [96, 149, 182, 231, 244, 267, 310, 343, 366, 425, 448, 461, 484, 507, 530, 553, 576, 599, 622, 635] (iI (xs (5 * n + 0)).toInt &&& 31) = T at hm ⊢
        simp only [l_tg, List.mem_cons, List.not_mem_nil, or_false] at hm
        rcases hm with rfl | rfl | rfl | rfl | rfl | rfl | rfl | rfl | rfl | rfl | rfl | rfl | rfl | rfl | rfl | rfl | rfl | rfl | rfl | rfl | rfl
        · exact nxt f A DA v L own nc ns hPS (RJ_up hJ) rfl rfl (by omega) (by omega)
        · obtain ⟨fr1, lo1, mc1, ms1, Q1, H1, B1, K1⟩ : P2 X 9 117 [aI (xs (5 * n + 1)).toInt, aI (xs (5 * n + 2)).toInt, aI (xs (5 * n + 3)).toInt, aI (xs (5 * n + 4)).toInt] v L n := p_component _ _ _ _ hJ (zi _) (zi _) (zi _) (zi _)
          refine st 128 _ _ _ _ _ _ rfl ?_
          conv => whnf
          refine x_som_i l1 ?_
          conv => whnf
          refine ⟨5 * n, l0, l3, by omega, ?_⟩
          conv => whnf
          refine ⟨5 * n, l0, l3, by omega, ?_⟩
          conv => whnf
          refine ⟨5 * n, l0, l3, by omega, ?_⟩
          conv => whnf
          refine ⟨5 * n, l0, l3, by omega, ?_⟩
          refine x_o h10 ?_
          conv => whnf
          refine ⟨fr1, lo1, mc1, ms1, _, H1 f A DA hPS, ⟨by omega, l_rm (y := 9) (by decide) B1.2.1, by omega, by omega⟩, ?_⟩
          rintro r1 f1 ⟨ra, v1, L1, A1, DA1, rfl, ⟨e1, e2⟩, hPS1, q1⟩
          obtain ⟨g60, z, fr2, lo2, Q2, rfl, H2, B2, K2⟩ := K1 ra v1 L1 q1
          have l2n : ls 2 = some (.ref (A1 20 0)) := by rw [e2]; exact l2
          have h20 : f1 (A1 20 0) = some (.inl (11, r_fs A1 v1)) := hPS1.1.c 20 0 (if_pos ⟨g60, rfl⟩)
          conv => whnf
          refine x_som_i l2n ?_
          conv => whnf
          refine ⟨5 * n, l0, l3, by omega, ?_⟩
          conv => whnf
          refine ⟨5 * n, l0, l3, by omega, ?_⟩
          conv => whnf
          refine ⟨5 * n, l0, l3, by omega, ?_⟩
          conv => whnf
          refine ⟨5 * n, l0, l3, by omega, ?_⟩
          refine x_o h20 ?_
          conv => whnf
          refine ⟨fr2, lo2, 0, 0, _, H2 f1 A1 DA1 hPS1, ⟨by omega, l_rm (y := 117) (by decide) B2.2, by omega, by omega⟩, ?_⟩
          rintro r2 f2 ⟨rb, v2, L2, DA2, rfl, hPS2, q2⟩
          obtain ⟨rfl, own2, hJ2⟩ := K2 rb v2 L2 q2
          refine And.intro (fun _ => ?_) (fun hc => absurd rfl hc)
          exact nxt f2 A1 DA2 v2 L2 own2 _ _ hPS2 hJ2 e1 e2 (by omega) (by omega)
        · obtain ⟨fr1, lo1, mc1, ms1, Q1, H1, B1, K1⟩ : P2 X 15 118 [aI (xs (5 * n + 1)).toInt, aI (xs (5 * n + 2)).toInt] v L n := p_depends _ _ hJ (zi _) (zi _)
          refine st 181 _ _ _ _ _ _ rfl ?_
          conv => whnf
          refine x_som_i l1 ?_
          conv => whnf
          refine ⟨5 * n, l0, l3, by omega, ?_⟩
          conv => whnf
          refine ⟨5 * n, l0, l3, by omega, ?_⟩
          refine x_o h10 ?_
          conv => whnf
          refine ⟨fr1, lo1, mc1, ms1, _, H1 f A DA hPS, ⟨by omega, l_rm (y := 15) (by decide) B1.2.1, by omega, by omega⟩, ?_⟩
          rintro r1 f1 ⟨ra, v1, L1, A1, DA1, rfl, ⟨e1, e2⟩, hPS1, q1⟩
          obtain ⟨g60, z, fr2, lo2, Q2, rfl, H2, B2, K2⟩ := K1 ra v1 L1 q1
          have l2n : ls 2 = some (.ref (A1 20 0)) := by rw [e2]; exact l2
          have h20 : f1 (A1 20 0) = some (.inl (11, r_fs A1 v1)) := hPS1.1.c 20 0 (if_pos ⟨g60, rfl⟩)
          conv => whnf
          refine x_som_i l2n ?_
          conv => whnf
          refine ⟨5 * n, l0, l3, by omega, ?_⟩
          conv => whnf
          refine ⟨5 * n, l0, l3, by omega, ?_⟩
          refine x_o h20 ?_
          conv => whnf
          refine ⟨fr2, lo2, 0, 0, _, H2 f1 A1 DA1 hPS1, ⟨by omega, l_rm (y := 118) (by decide) B2.2, by omega, by omega⟩, ?_⟩
          rintro r2 f2 ⟨rb, v2, L2, DA2, rfl, hPS2, q2⟩
          obtain ⟨rfl, own2, hJ2⟩ := K2 rb v2 L2 q2
          refine And.intro (fun _ => ?_) (fun hc => absurd rfl hc)
          exact nxt f2 A1 DA2 v2 L2 own2 _ _ hPS2 hJ2 e1 e2 (by omega) (by omega)
        · have at2 : ∀ bb : Int, (bb = 0 ∨ bb = 1) → (iI (xs (5 * n + 2)).toInt = 0 ↔ bb = 0) → go 233 ls [.int (iI bb), .int (iI (xs (5 * n + 1)).toInt), .ref (A 0 0)] f nc ns := by
            intro bb hb hz
            obtain ⟨fr1, lo1, mc1, ms1, Q1, H1, B1, K1⟩ : P2 X 35 121 [aI (xs (5 * n + 1)).toInt, aI bb] v L n := p_application _ bb hJ (zi _) hb
            refine st 233 _ _ _ _ _ _ rfl ?_
            refine x_o h10 ?_
            conv => whnf
            refine ⟨fr1, lo1, mc1, ms1, _, H1 f A DA hPS, ⟨by omega, l_rm (y := 35) (by decide) B1.2.1, by omega, by omega⟩, ?_⟩
            rintro r1 f1 ⟨ra, v1, L1, A1, DA1, rfl, ⟨e1, e2⟩, hPS1, q1⟩
            obtain ⟨g60, z, fr2, lo2, Q2, rfl, H2, B2, K2⟩ := K1 ra v1 L1 q1
            have l2n : ls 2 = some (.ref (A1 20 0)) := by rw [e2]; exact l2
            have h20 : f1 (A1 20 0) = some (.inl (11, r_fs A1 v1)) := hPS1.1.c 20 0 (if_pos ⟨g60, rfl⟩)
            have at4 : go 255 ls [.int (iI bb), .int (iI (xs (5 * n + 1)).toInt), .ref (A1 20 0), .int (iI z)] f1 (nc + mc1) (ns + ms1) := by
              refine st 255 _ _ _ _ _ _ rfl ?_
              refine x_o h20 ?_
              conv => whnf
              refine ⟨fr2, lo2, 0, 0, _, H2 f1 A1 DA1 hPS1, ⟨by omega, l_rm (y := 121) (by decide) B2.2, by omega, by omega⟩, ?_⟩
              rintro r2 f2 ⟨rb, v2, L2, DA2, rfl, hPS2, q2⟩
              obtain ⟨rfl, own2, hJ2⟩ := K2 rb v2 L2 q2
              refine And.intro (fun _ => ?_) (fun hc => absurd rfl hc)
              exact nxt f2 A1 DA2 v2 L2 own2 _ _ hPS2 hJ2 e1 e2 (by omega) (by omega)
            conv => whnf
            refine x_som_i l2n ?_
            conv => whnf
            refine ⟨5 * n, l0, l3, by omega, ?_⟩
            conv => whnf
            refine ⟨5 * n, l0, l3, by omega, ?_⟩
            refine And.intro (fun hq => ?_) (fun hq => ?_)
            · refine st 254 _ _ _ _ _ _ rfl ?_
              have e0 : bb = 0 := hz.mp hq
              subst e0
              exact at4
            · have e0 : bb = 1 := hb.resolve_left (fun y => hq (hz.mpr y))
              subst e0
              exact at4
          refine st 214 _ _ _ _ _ _ rfl ?_
          conv => whnf
          refine x_som_i l1 ?_
          conv => whnf
          refine ⟨5 * n, l0, l3, by omega, ?_⟩
          conv => whnf
          refine ⟨5 * n, l0, l3, by omega, ?_⟩
          refine And.intro (fun hq => ?_) (fun hq => ?_)
          · refine st 232 _ _ _ _ _ _ rfl ?_
            exact at2 0 (Or.inl rfl) ⟨fun _ => rfl, fun _ => hq⟩
          · exact at2 1 (Or.inr rfl) ⟨fun y => absurd y hq, fun y => absurd y (by decide)⟩
        · obtain ⟨fr1, lo1, mc1, ms1, Q1, H1, B1, K1⟩ : P2 X 37 122 [] v L n := p_start hJ n5
          refine st 263 _ _ _ _ _ _ rfl ?_
          conv => whnf
          refine x_som_i l1 ?_
          refine x_o h10 ?_
          conv => whnf
          refine ⟨fr1, lo1, mc1, ms1, _, H1 f A DA hPS, ⟨by omega, l_rm (y := 37) (by decide) B1.2.1, by omega, by omega⟩, ?_⟩
          rintro r1 f1 ⟨ra, v1, L1, A1, DA1, rfl, ⟨e1, e2⟩, hPS1, q1⟩
          obtain ⟨g60, z, fr2, lo2, Q2, rfl, H2, B2, K2⟩ := K1 ra v1 L1 q1
          have l2n : ls 2 = some (.ref (A1 20 0)) := by rw [e2]; exact l2
          have h20 : f1 (A1 20 0) = some (.inl (11, r_fs A1 v1)) := hPS1.1.c 20 0 (if_pos ⟨g60, rfl⟩)
          conv => whnf
          refine x_som_i l2n ?_
          refine x_o h20 ?_
          conv => whnf
          refine ⟨fr2, lo2, 0, 0, _, H2 f1 A1 DA1 hPS1, ⟨by omega, l_rm (y := 122) (by decide) B2.2, by omega, by omega⟩, ?_⟩
          rintro r2 f2 ⟨rb, v2, L2, DA2, rfl, hPS2, q2⟩
          obtain ⟨rfl, own2, hJ2⟩ := K2 rb v2 L2 q2
          refine And.intro (fun _ => ?_) (fun hc => absurd rfl hc)
          exact nxt f2 A1 DA2 v2 L2 own2 _ _ hPS2 hJ2 e1 e2 (by omega) (by omega)
        · obtain ⟨fr1, lo1, mc1, ms1, Q1, H1, B1, K1⟩ : P2 X 42 126 [aI (xs (5 * n + 1)).toInt] v L n := p_create _ hJ n5 (zi _)
          refine st 276 _ _ _ _ _ _ rfl ?_
          conv => whnf
          refine x_som_i l1 ?_
          conv => whnf
          refine ⟨5 * n, l0, l3, by omega, ?_⟩
          refine x_o h10 ?_
          conv => whnf
          refine ⟨fr1, lo1, mc1, ms1, _, H1 f A DA hPS, ⟨by omega, l_rm (y := 42) (by decide) B1.2.1, by omega, by omega⟩, ?_⟩
          rintro r1 f1 ⟨ra, v1, L1, A1, DA1, rfl, ⟨e1, e2⟩, hPS1, q1⟩
          obtain ⟨g60, z, fr2, lo2, Q2, rfl, H2, B2, K2⟩ := K1 ra v1 L1 q1
          have l2n : ls 2 = some (.ref (A1 20 0)) := by rw [e2]; exact l2
          have h20 : f1 (A1 20 0) = some (.inl (11, r_fs A1 v1)) := hPS1.1.c 20 0 (if_pos ⟨g60, rfl⟩)
          conv => whnf
          refine x_som_i l2n ?_
          conv => whnf
          refine ⟨5 * n, l0, l3, by omega, ?_⟩
          refine x_o h20 ?_
          conv => whnf
          refine ⟨fr2, lo2, 0, 0, _, H2 f1 A1 DA1 hPS1, ⟨by omega, l_rm (y := 126) (by decide) B2.2, by omega, by omega⟩, ?_⟩
          rintro r2 f2 ⟨rb, v2, L2, DA2, rfl, hPS2, q2⟩
          obtain ⟨rfl, own2, hJ2⟩ := K2 rb v2 L2 q2
          refine And.intro (fun _ => ?_) (fun hc => absurd rfl hc)
          exact nxt f2 A1 DA2 v2 L2 own2 _ _ hPS2 hJ2 e1 e2 (by omega) (by omega)
        · obtain ⟨fr1, lo1, mc1, ms1, Q1, H1, B1, K1⟩ : P2 X 74 146 [aI (xs (5 * n + 1)).toInt, aI (xs (5 * n + 2)).toInt, aI (xs (5 * n + 3)).toInt] v L n := p_call _ _ _ hJ n5 (zi _) (zi _) (zi _)
          refine st 299 _ _ _ _ _ _ rfl ?_
          conv => whnf
          refine x_som_i l1 ?_
          conv => whnf
          refine ⟨5 * n, l0, l3, by omega, ?_⟩
          conv => whnf
          refine ⟨5 * n, l0, l3, by omega, ?_⟩
          conv => whnf
          refine ⟨5 * n, l0, l3, by omega, ?_⟩
          refine x_o h10 ?_
          conv => whnf
          refine ⟨fr1, lo1, mc1, ms1, _, H1 f A DA hPS, ⟨by omega, l_rm (y := 74) (by decide) B1.2.1, by omega, by omega⟩, ?_⟩
          rintro r1 f1 ⟨ra, v1, L1, A1, DA1, rfl, ⟨e1, e2⟩, hPS1, q1⟩
          obtain ⟨g60, z, fr2, lo2, Q2, rfl, H2, B2, K2⟩ := K1 ra v1 L1 q1
          have l2n : ls 2 = some (.ref (A1 20 0)) := by rw [e2]; exact l2
          have h20 : f1 (A1 20 0) = some (.inl (11, r_fs A1 v1)) := hPS1.1.c 20 0 (if_pos ⟨g60, rfl⟩)
          conv => whnf
          refine x_som_i l2n ?_
          conv => whnf
          refine ⟨5 * n, l0, l3, by omega, ?_⟩
          conv => whnf
          refine ⟨5 * n, l0, l3, by omega, ?_⟩
          conv => whnf
          refine ⟨5 * n, l0, l3, by omega, ?_⟩
          refine x_o h20 ?_
          conv => whnf
          refine ⟨fr2, lo2, 0, 0, _, H2 f1 A1 DA1 hPS1, ⟨by omega, l_rm (y := 146) (by decide) B2.2, by omega, by omega⟩, ?_⟩
          rintro r2 f2 ⟨rb, v2, L2, DA2, rfl, hPS2, q2⟩
          obtain ⟨rfl, own2, hJ2⟩ := K2 rb v2 L2 q2
          refine And.intro (fun _ => ?_) (fun hc => absurd rfl hc)
          exact nxt f2 A1 DA2 v2 L2 own2 _ _ hPS2 hJ2 e1 e2 (by omega) (by omega)
        · obtain ⟨fr1, lo1, mc1, ms1, Q1, H1, B1, K1⟩ : P2 X 79 149 [aI (xs (5 * n + 1)).toInt, aI (xs (5 * n + 2)).toInt] v L n := p_finish _ _ hJ n5 (zi _) (zi _)
          refine st 342 _ _ _ _ _ _ rfl ?_
          conv => whnf
          refine x_som_i l1 ?_
          conv => whnf
          refine ⟨5 * n, l0, l3, by omega, ?_⟩
          conv => whnf
          refine ⟨5 * n, l0, l3, by omega, ?_⟩
          refine x_o h10 ?_
          conv => whnf
          refine ⟨fr1, lo1, mc1, ms1, _, H1 f A DA hPS, ⟨by omega, l_rm (y := 79) (by decide) B1.2.1, by omega, by omega⟩, ?_⟩
          rintro r1 f1 ⟨ra, v1, L1, A1, DA1, rfl, ⟨e1, e2⟩, hPS1, q1⟩
          obtain ⟨g60, z, fr2, lo2, Q2, rfl, H2, B2, K2⟩ := K1 ra v1 L1 q1
          have l2n : ls 2 = some (.ref (A1 20 0)) := by rw [e2]; exact l2
          have h20 : f1 (A1 20 0) = some (.inl (11, r_fs A1 v1)) := hPS1.1.c 20 0 (if_pos ⟨g60, rfl⟩)
          conv => whnf
          refine x_som_i l2n ?_
          conv => whnf
          refine ⟨5 * n, l0, l3, by omega, ?_⟩
          conv => whnf
          refine ⟨5 * n, l0, l3, by omega, ?_⟩
          refine x_o h20 ?_
          conv => whnf
          refine ⟨fr2, lo2, 0, 0, _, H2 f1 A1 DA1 hPS1, ⟨by omega, l_rm (y := 149) (by decide) B2.2, by omega, by omega⟩, ?_⟩
          rintro r2 f2 ⟨rb, v2, L2, DA2, rfl, hPS2, q2⟩
          obtain ⟨rfl, own2, hJ2⟩ := K2 rb v2 L2 q2
          refine And.intro (fun _ => ?_) (fun hc => absurd rfl hc)
          exact nxt f2 A1 DA2 v2 L2 own2 _ _ hPS2 hJ2 e1 e2 (by omega) (by omega)
        · obtain ⟨fr1, lo1, mc1, ms1, Q1, H1, B1, K1⟩ : P2 X 94 156 [aI (xs (5 * n + 1)).toInt] v L n := p_tick _ hJ n5 (zi _)
          refine st 375 _ _ _ _ _ _ rfl ?_
          conv => whnf
          refine x_som_i l1 ?_
          conv => whnf
          refine ⟨5 * n, l0, l3, by omega, ?_⟩
          refine x_o h10 ?_
          conv => whnf
          refine ⟨fr1, lo1, mc1, ms1, _, H1 f A DA hPS, ⟨by omega, l_rm (y := 94) (by decide) B1.2.1, by omega, by omega⟩, ?_⟩
          rintro r1 f1 ⟨ra, v1, L1, A1, DA1, rfl, ⟨e1, e2⟩, hPS1, q1⟩
          obtain ⟨g60, z, fr2, lo2, Q2, rfl, H2, B2, K2⟩ := K1 ra v1 L1 q1
          have l2n : ls 2 = some (.ref (A1 20 0)) := by rw [e2]; exact l2
          have h20 : f1 (A1 20 0) = some (.inl (11, r_fs A1 v1)) := hPS1.1.c 20 0 (if_pos ⟨g60, rfl⟩)
          conv => whnf
          refine x_som_i l2n ?_
          conv => whnf
          refine ⟨5 * n, l0, l3, by omega, ?_⟩
          refine x_o h20 ?_
          conv => whnf
          refine ⟨fr2, lo2, 0, 0, _, H2 f1 A1 DA1 hPS1, ⟨by omega, l_rm (y := 156) (by decide) B2.2, by omega, by omega⟩, ?_⟩
          rintro r2 f2 ⟨rb, v2, L2, DA2, rfl, hPS2, q2⟩
          obtain ⟨rfl, own2, hJ2⟩ := K2 rb v2 L2 q2
          refine And.intro (fun _ => ?_) (fun hc => absurd rfl hc)
          exact nxt f2 A1 DA2 v2 L2 own2 _ _ hPS2 hJ2 e1 e2 (by omega) (by omega)
        · have at2 : ∀ bb : Int, (bb = 0 ∨ bb = 1) → (iI (xs (5 * n + 3)).toInt = 0 ↔ bb = 0) → go 422 ls [.int (iI bb), .int (iI (xs (5 * n + 2)).toInt), .int (iI (xs (5 * n + 1)).toInt), .ref (A 0 0)] f nc ns := by
            intro bb hb hz
            obtain ⟨fr1, lo1, mc1, ms1, Q1, H1, B1, K1⟩ : P2 X 99 159 [aI (xs (5 * n + 1)).toInt, aI (xs (5 * n + 2)).toInt, aI bb] v L n := p_submit _ _ bb hJ n5 (zi _) (zi _) hb
            refine st 422 _ _ _ _ _ _ rfl ?_
            refine x_o h10 ?_
            conv => whnf
            refine ⟨fr1, lo1, mc1, ms1, _, H1 f A DA hPS, ⟨by omega, l_rm (y := 99) (by decide) B1.2.1, by omega, by omega⟩, ?_⟩
            rintro r1 f1 ⟨ra, v1, L1, A1, DA1, rfl, ⟨e1, e2⟩, hPS1, q1⟩
            obtain ⟨g60, z, fr2, lo2, Q2, rfl, H2, B2, K2⟩ := K1 ra v1 L1 q1
            have l2n : ls 2 = some (.ref (A1 20 0)) := by rw [e2]; exact l2
            have h20 : f1 (A1 20 0) = some (.inl (11, r_fs A1 v1)) := hPS1.1.c 20 0 (if_pos ⟨g60, rfl⟩)
            have at4 : go 449 ls [.int (iI bb), .int (iI (xs (5 * n + 2)).toInt), .int (iI (xs (5 * n + 1)).toInt), .ref (A1 20 0), .int (iI z)] f1 (nc + mc1) (ns + ms1) := by
              refine st 449 _ _ _ _ _ _ rfl ?_
              refine x_o h20 ?_
              conv => whnf
              refine ⟨fr2, lo2, 0, 0, _, H2 f1 A1 DA1 hPS1, ⟨by omega, l_rm (y := 159) (by decide) B2.2, by omega, by omega⟩, ?_⟩
              rintro r2 f2 ⟨rb, v2, L2, DA2, rfl, hPS2, q2⟩
              obtain ⟨rfl, own2, hJ2⟩ := K2 rb v2 L2 q2
              refine And.intro (fun _ => ?_) (fun hc => absurd rfl hc)
              exact nxt f2 A1 DA2 v2 L2 own2 _ _ hPS2 hJ2 e1 e2 (by omega) (by omega)
            conv => whnf
            refine x_som_i l2n ?_
            conv => whnf
            refine ⟨5 * n, l0, l3, by omega, ?_⟩
            conv => whnf
            refine ⟨5 * n, l0, l3, by omega, ?_⟩
            conv => whnf
            refine ⟨5 * n, l0, l3, by omega, ?_⟩
            refine And.intro (fun hq => ?_) (fun hq => ?_)
            · refine st 448 _ _ _ _ _ _ rfl ?_
              have e0 : bb = 0 := hz.mp hq
              subst e0
              exact at4
            · have e0 : bb = 1 := hb.resolve_left (fun y => hq (hz.mpr y))
              subst e0
              exact at4
          refine st 398 _ _ _ _ _ _ rfl ?_
          conv => whnf
          refine x_som_i l1 ?_
          conv => whnf
          refine ⟨5 * n, l0, l3, by omega, ?_⟩
          conv => whnf
          refine ⟨5 * n, l0, l3, by omega, ?_⟩
          conv => whnf
          refine ⟨5 * n, l0, l3, by omega, ?_⟩
          refine And.intro (fun hq => ?_) (fun hq => ?_)
          · refine st 421 _ _ _ _ _ _ rfl ?_
            exact at2 0 (Or.inl rfl) ⟨fun _ => rfl, fun _ => hq⟩
          · exact at2 1 (Or.inr rfl) ⟨fun y => absurd y hq, fun y => absurd y (by decide)⟩
        · obtain ⟨fr1, lo1, mc1, ms1, Q1, H1, B1, K1⟩ : P2 X 101 160 [aI (xs (5 * n + 1)).toInt] v L n := p_cancel _ hJ (zi _)
          refine st 457 _ _ _ _ _ _ rfl ?_
          conv => whnf
          refine x_som_i l1 ?_
          conv => whnf
          refine ⟨5 * n, l0, l3, by omega, ?_⟩
          refine x_o h10 ?_
          conv => whnf
          refine ⟨fr1, lo1, mc1, ms1, _, H1 f A DA hPS, ⟨by omega, l_rm (y := 101) (by decide) B1.2.1, by omega, by omega⟩, ?_⟩
          rintro r1 f1 ⟨ra, v1, L1, A1, DA1, rfl, ⟨e1, e2⟩, hPS1, q1⟩
          obtain ⟨g60, z, fr2, lo2, Q2, rfl, H2, B2, K2⟩ := K1 ra v1 L1 q1
          have l2n : ls 2 = some (.ref (A1 20 0)) := by rw [e2]; exact l2
          have h20 : f1 (A1 20 0) = some (.inl (11, r_fs A1 v1)) := hPS1.1.c 20 0 (if_pos ⟨g60, rfl⟩)
          conv => whnf
          refine x_som_i l2n ?_
          conv => whnf
          refine ⟨5 * n, l0, l3, by omega, ?_⟩
          refine x_o h20 ?_
          conv => whnf
          refine ⟨fr2, lo2, 0, 0, _, H2 f1 A1 DA1 hPS1, ⟨by omega, l_rm (y := 160) (by decide) B2.2, by omega, by omega⟩, ?_⟩
          rintro r2 f2 ⟨rb, v2, L2, DA2, rfl, hPS2, q2⟩
          obtain ⟨rfl, own2, hJ2⟩ := K2 rb v2 L2 q2
          refine And.intro (fun _ => ?_) (fun hc => absurd rfl hc)
          exact nxt f2 A1 DA2 v2 L2 own2 _ _ hPS2 hJ2 e1 e2 (by omega) (by omega)
        · obtain ⟨fr1, lo1, mc1, ms1, Q1, H1, B1, K1⟩ : P2 X 103 161 [] v L n := p_shutdown hJ n5
          refine st 480 _ _ _ _ _ _ rfl ?_
          conv => whnf
          refine x_som_i l1 ?_
          refine x_o h10 ?_
          conv => whnf
          refine ⟨fr1, lo1, mc1, ms1, _, H1 f A DA hPS, ⟨by omega, l_rm (y := 103) (by decide) B1.2.1, by omega, by omega⟩, ?_⟩
          rintro r1 f1 ⟨ra, v1, L1, A1, DA1, rfl, ⟨e1, e2⟩, hPS1, q1⟩
          obtain ⟨g60, z, fr2, lo2, Q2, rfl, H2, B2, K2⟩ := K1 ra v1 L1 q1
          have l2n : ls 2 = some (.ref (A1 20 0)) := by rw [e2]; exact l2
          have h20 : f1 (A1 20 0) = some (.inl (11, r_fs A1 v1)) := hPS1.1.c 20 0 (if_pos ⟨g60, rfl⟩)
          conv => whnf
          refine x_som_i l2n ?_
          refine x_o h20 ?_
          conv => whnf
          refine ⟨fr2, lo2, 0, 0, _, H2 f1 A1 DA1 hPS1, ⟨by omega, l_rm (y := 161) (by decide) B2.2, by omega, by omega⟩, ?_⟩
          rintro r2 f2 ⟨rb, v2, L2, DA2, rfl, hPS2, q2⟩
          obtain ⟨rfl, own2, hJ2⟩ := K2 rb v2 L2 q2
          refine And.intro (fun _ => ?_) (fun hc => absurd rfl hc)
          exact nxt f2 A1 DA2 v2 L2 own2 _ _ hPS2 hJ2 e1 e2 (by omega) (by omega)
        · obtain ⟨fr1, lo1, mc1, ms1, Q1, H1, B1, K1⟩ : P2 X 105 162 [aI (xs (5 * n + 1)).toInt] v L n := p_state _ hJ (zi _)
          refine st 493 _ _ _ _ _ _ rfl ?_
          conv => whnf
          refine x_som_i l1 ?_
          conv => whnf
          refine ⟨5 * n, l0, l3, by omega, ?_⟩
          refine x_o h10 ?_
          conv => whnf
          refine ⟨fr1, lo1, mc1, ms1, _, H1 f A DA hPS, ⟨by omega, l_rm (y := 105) (by decide) B1.2.1, by omega, by omega⟩, ?_⟩
          rintro r1 f1 ⟨ra, v1, L1, A1, DA1, rfl, ⟨e1, e2⟩, hPS1, q1⟩
          obtain ⟨g60, z, fr2, lo2, Q2, rfl, H2, B2, K2⟩ := K1 ra v1 L1 q1
          have l2n : ls 2 = some (.ref (A1 20 0)) := by rw [e2]; exact l2
          have h20 : f1 (A1 20 0) = some (.inl (11, r_fs A1 v1)) := hPS1.1.c 20 0 (if_pos ⟨g60, rfl⟩)
          conv => whnf
          refine x_som_i l2n ?_
          conv => whnf
          refine ⟨5 * n, l0, l3, by omega, ?_⟩
          refine x_o h20 ?_
          conv => whnf
          refine ⟨fr2, lo2, 0, 0, _, H2 f1 A1 DA1 hPS1, ⟨by omega, l_rm (y := 162) (by decide) B2.2, by omega, by omega⟩, ?_⟩
          rintro r2 f2 ⟨rb, v2, L2, DA2, rfl, hPS2, q2⟩
          obtain ⟨rfl, own2, hJ2⟩ := K2 rb v2 L2 q2
          refine And.intro (fun _ => ?_) (fun hc => absurd rfl hc)
          exact nxt f2 A1 DA2 v2 L2 own2 _ _ hPS2 hJ2 e1 e2 (by omega) (by omega)
        · obtain ⟨fr1, lo1, mc1, ms1, Q1, H1, B1, K1⟩ : P2 X 106 163 [aI (xs (5 * n + 1)).toInt] v L n := p_result _ hJ (zi _)
          refine st 516 _ _ _ _ _ _ rfl ?_
          conv => whnf
          refine x_som_i l1 ?_
          conv => whnf
          refine ⟨5 * n, l0, l3, by omega, ?_⟩
          refine x_o h10 ?_
          conv => whnf
          refine ⟨fr1, lo1, mc1, ms1, _, H1 f A DA hPS, ⟨by omega, l_rm (y := 106) (by decide) B1.2.1, by omega, by omega⟩, ?_⟩
          rintro r1 f1 ⟨ra, v1, L1, A1, DA1, rfl, ⟨e1, e2⟩, hPS1, q1⟩
          obtain ⟨g60, z, fr2, lo2, Q2, rfl, H2, B2, K2⟩ := K1 ra v1 L1 q1
          have l2n : ls 2 = some (.ref (A1 20 0)) := by rw [e2]; exact l2
          have h20 : f1 (A1 20 0) = some (.inl (11, r_fs A1 v1)) := hPS1.1.c 20 0 (if_pos ⟨g60, rfl⟩)
          conv => whnf
          refine x_som_i l2n ?_
          conv => whnf
          refine ⟨5 * n, l0, l3, by omega, ?_⟩
          refine x_o h20 ?_
          conv => whnf
          refine ⟨fr2, lo2, 0, 0, _, H2 f1 A1 DA1 hPS1, ⟨by omega, l_rm (y := 163) (by decide) B2.2, by omega, by omega⟩, ?_⟩
          rintro r2 f2 ⟨rb, v2, L2, DA2, rfl, hPS2, q2⟩
          obtain ⟨rfl, own2, hJ2⟩ := K2 rb v2 L2 q2
          refine And.intro (fun _ => ?_) (fun hc => absurd rfl hc)
          exact nxt f2 A1 DA2 v2 L2 own2 _ _ hPS2 hJ2 e1 e2 (by omega) (by omega)
        · obtain ⟨fr1, lo1, mc1, ms1, Q1, H1, B1, K1⟩ : P2 X 107 164 [aI (xs (5 * n + 1)).toInt] v L n := p_instance _ hJ (zi _)
          refine st 539 _ _ _ _ _ _ rfl ?_
          conv => whnf
          refine x_som_i l1 ?_
          conv => whnf
          refine ⟨5 * n, l0, l3, by omega, ?_⟩
          refine x_o h10 ?_
          conv => whnf
          refine ⟨fr1, lo1, mc1, ms1, _, H1 f A DA hPS, ⟨by omega, l_rm (y := 107) (by decide) B1.2.1, by omega, by omega⟩, ?_⟩
          rintro r1 f1 ⟨ra, v1, L1, A1, DA1, rfl, ⟨e1, e2⟩, hPS1, q1⟩
          obtain ⟨g60, z, fr2, lo2, Q2, rfl, H2, B2, K2⟩ := K1 ra v1 L1 q1
          have l2n : ls 2 = some (.ref (A1 20 0)) := by rw [e2]; exact l2
          have h20 : f1 (A1 20 0) = some (.inl (11, r_fs A1 v1)) := hPS1.1.c 20 0 (if_pos ⟨g60, rfl⟩)
          conv => whnf
          refine x_som_i l2n ?_
          conv => whnf
          refine ⟨5 * n, l0, l3, by omega, ?_⟩
          refine x_o h20 ?_
          conv => whnf
          refine ⟨fr2, lo2, 0, 0, _, H2 f1 A1 DA1 hPS1, ⟨by omega, l_rm (y := 164) (by decide) B2.2, by omega, by omega⟩, ?_⟩
          rintro r2 f2 ⟨rb, v2, L2, DA2, rfl, hPS2, q2⟩
          obtain ⟨rfl, own2, hJ2⟩ := K2 rb v2 L2 q2
          refine And.intro (fun _ => ?_) (fun hc => absurd rfl hc)
          exact nxt f2 A1 DA2 v2 L2 own2 _ _ hPS2 hJ2 e1 e2 (by omega) (by omega)
        · obtain ⟨fr1, lo1, mc1, ms1, Q1, H1, B1, K1⟩ : P2 X 108 165 [aI (xs (5 * n + 1)).toInt] v L n := p_session _ hJ (zi _)
          refine st 562 _ _ _ _ _ _ rfl ?_
          conv => whnf
          refine x_som_i l1 ?_
          conv => whnf
          refine ⟨5 * n, l0, l3, by omega, ?_⟩
          refine x_o h10 ?_
          conv => whnf
          refine ⟨fr1, lo1, mc1, ms1, _, H1 f A DA hPS, ⟨by omega, l_rm (y := 108) (by decide) B1.2.1, by omega, by omega⟩, ?_⟩
          rintro r1 f1 ⟨ra, v1, L1, A1, DA1, rfl, ⟨e1, e2⟩, hPS1, q1⟩
          obtain ⟨g60, z, fr2, lo2, Q2, rfl, H2, B2, K2⟩ := K1 ra v1 L1 q1
          have l2n : ls 2 = some (.ref (A1 20 0)) := by rw [e2]; exact l2
          have h20 : f1 (A1 20 0) = some (.inl (11, r_fs A1 v1)) := hPS1.1.c 20 0 (if_pos ⟨g60, rfl⟩)
          conv => whnf
          refine x_som_i l2n ?_
          conv => whnf
          refine ⟨5 * n, l0, l3, by omega, ?_⟩
          refine x_o h20 ?_
          conv => whnf
          refine ⟨fr2, lo2, 0, 0, _, H2 f1 A1 DA1 hPS1, ⟨by omega, l_rm (y := 165) (by decide) B2.2, by omega, by omega⟩, ?_⟩
          rintro r2 f2 ⟨rb, v2, L2, DA2, rfl, hPS2, q2⟩
          obtain ⟨rfl, own2, hJ2⟩ := K2 rb v2 L2 q2
          refine And.intro (fun _ => ?_) (fun hc => absurd rfl hc)
          exact nxt f2 A1 DA2 v2 L2 own2 _ _ hPS2 hJ2 e1 e2 (by omega) (by omega)
        · obtain ⟨fr1, lo1, mc1, ms1, Q1, H1, B1, K1⟩ : P2 X 109 166 [aI (xs (5 * n + 1)).toInt] v L n := p_task _ hJ (zi _)
          refine st 585 _ _ _ _ _ _ rfl ?_
          conv => whnf
          refine x_som_i l1 ?_
          conv => whnf
          refine ⟨5 * n, l0, l3, by omega, ?_⟩
          refine x_o h10 ?_
          conv => whnf
          refine ⟨fr1, lo1, mc1, ms1, _, H1 f A DA hPS, ⟨by omega, l_rm (y := 109) (by decide) B1.2.1, by omega, by omega⟩, ?_⟩
          rintro r1 f1 ⟨ra, v1, L1, A1, DA1, rfl, ⟨e1, e2⟩, hPS1, q1⟩
          obtain ⟨g60, z, fr2, lo2, Q2, rfl, H2, B2, K2⟩ := K1 ra v1 L1 q1
          have l2n : ls 2 = some (.ref (A1 20 0)) := by rw [e2]; exact l2
          have h20 : f1 (A1 20 0) = some (.inl (11, r_fs A1 v1)) := hPS1.1.c 20 0 (if_pos ⟨g60, rfl⟩)
          conv => whnf
          refine x_som_i l2n ?_
          conv => whnf
          refine ⟨5 * n, l0, l3, by omega, ?_⟩
          refine x_o h20 ?_
          conv => whnf
          refine ⟨fr2, lo2, 0, 0, _, H2 f1 A1 DA1 hPS1, ⟨by omega, l_rm (y := 166) (by decide) B2.2, by omega, by omega⟩, ?_⟩
          rintro r2 f2 ⟨rb, v2, L2, DA2, rfl, hPS2, q2⟩
          obtain ⟨rfl, own2, hJ2⟩ := K2 rb v2 L2 q2
          refine And.intro (fun _ => ?_) (fun hc => absurd rfl hc)
          exact nxt f2 A1 DA2 v2 L2 own2 _ _ hPS2 hJ2 e1 e2 (by omega) (by omega)
        · obtain ⟨fr1, lo1, mc1, ms1, Q1, H1, B1, K1⟩ : P2 X 111 167 [aI (xs (5 * n + 1)).toInt] v L n := p_instances _ hJ (zi _)
          refine st 608 _ _ _ _ _ _ rfl ?_
          conv => whnf
          refine x_som_i l1 ?_
          conv => whnf
          refine ⟨5 * n, l0, l3, by omega, ?_⟩
          refine x_o h10 ?_
          conv => whnf
          refine ⟨fr1, lo1, mc1, ms1, _, H1 f A DA hPS, ⟨by omega, l_rm (y := 111) (by decide) B1.2.1, by omega, by omega⟩, ?_⟩
          rintro r1 f1 ⟨ra, v1, L1, A1, DA1, rfl, ⟨e1, e2⟩, hPS1, q1⟩
          obtain ⟨g60, z, fr2, lo2, Q2, rfl, H2, B2, K2⟩ := K1 ra v1 L1 q1
          have l2n : ls 2 = some (.ref (A1 20 0)) := by rw [e2]; exact l2
          have h20 : f1 (A1 20 0) = some (.inl (11, r_fs A1 v1)) := hPS1.1.c 20 0 (if_pos ⟨g60, rfl⟩)
          conv => whnf
          refine x_som_i l2n ?_
          conv => whnf
          refine ⟨5 * n, l0, l3, by omega, ?_⟩
          refine x_o h20 ?_
          conv => whnf
          refine ⟨fr2, lo2, 0, 0, _, H2 f1 A1 DA1 hPS1, ⟨by omega, l_rm (y := 167) (by decide) B2.2, by omega, by omega⟩, ?_⟩
          rintro r2 f2 ⟨rb, v2, L2, DA2, rfl, hPS2, q2⟩
          obtain ⟨rfl, own2, hJ2⟩ := K2 rb v2 L2 q2
          refine And.intro (fun _ => ?_) (fun hc => absurd rfl hc)
          exact nxt f2 A1 DA2 v2 L2 own2 _ _ hPS2 hJ2 e1 e2 (by omega) (by omega)
        · obtain ⟨fr1, lo1, mc1, ms1, Q1, H1, B1, K1⟩ : P2 X 112 168 [aI (xs (5 * n + 1)).toInt] v L n := p_waiting _ hJ (zi _)
          refine st 631 _ _ _ _ _ _ rfl ?_
          conv => whnf
          refine x_som_i l1 ?_
          conv => whnf
          refine ⟨5 * n, l0, l3, by omega, ?_⟩
          refine x_o h10 ?_
          conv => whnf
          refine ⟨fr1, lo1, mc1, ms1, _, H1 f A DA hPS, ⟨by omega, l_rm (y := 112) (by decide) B1.2.1, by omega, by omega⟩, ?_⟩
          rintro r1 f1 ⟨ra, v1, L1, A1, DA1, rfl, ⟨e1, e2⟩, hPS1, q1⟩
          obtain ⟨g60, z, fr2, lo2, Q2, rfl, H2, B2, K2⟩ := K1 ra v1 L1 q1
          have l2n : ls 2 = some (.ref (A1 20 0)) := by rw [e2]; exact l2
          have h20 : f1 (A1 20 0) = some (.inl (11, r_fs A1 v1)) := hPS1.1.c 20 0 (if_pos ⟨g60, rfl⟩)
          conv => whnf
          refine x_som_i l2n ?_
          conv => whnf
          refine ⟨5 * n, l0, l3, by omega, ?_⟩
          refine x_o h20 ?_
          conv => whnf
          refine ⟨fr2, lo2, 0, 0, _, H2 f1 A1 DA1 hPS1, ⟨by omega, l_rm (y := 168) (by decide) B2.2, by omega, by omega⟩, ?_⟩
          rintro r2 f2 ⟨rb, v2, L2, DA2, rfl, hPS2, q2⟩
          obtain ⟨rfl, own2, hJ2⟩ := K2 rb v2 L2 q2
          refine And.intro (fun _ => ?_) (fun hc => absurd rfl hc)
          exact nxt f2 A1 DA2 v2 L2 own2 _ _ hPS2 hJ2 e1 e2 (by omega) (by omega)
        · obtain ⟨fr1, lo1, mc1, ms1, Q1, H1, B1, K1⟩ : P2 X 113 169 [] v L n := p_events hJ
          refine st 654 _ _ _ _ _ _ rfl ?_
          conv => whnf
          refine x_som_i l1 ?_
          refine x_o h10 ?_
          conv => whnf
          refine ⟨fr1, lo1, mc1, ms1, _, H1 f A DA hPS, ⟨by omega, l_rm (y := 113) (by decide) B1.2.1, by omega, by omega⟩, ?_⟩
          rintro r1 f1 ⟨ra, v1, L1, A1, DA1, rfl, ⟨e1, e2⟩, hPS1, q1⟩
          obtain ⟨g60, z, fr2, lo2, Q2, rfl, H2, B2, K2⟩ := K1 ra v1 L1 q1
          have l2n : ls 2 = some (.ref (A1 20 0)) := by rw [e2]; exact l2
          have h20 : f1 (A1 20 0) = some (.inl (11, r_fs A1 v1)) := hPS1.1.c 20 0 (if_pos ⟨g60, rfl⟩)
          conv => whnf
          refine x_som_i l2n ?_
          refine x_o h20 ?_
          conv => whnf
          refine ⟨fr2, lo2, 0, 0, _, H2 f1 A1 DA1 hPS1, ⟨by omega, l_rm (y := 169) (by decide) B2.2, by omega, by omega⟩, ?_⟩
          rintro r2 f2 ⟨rb, v2, L2, DA2, rfl, hPS2, q2⟩
          obtain ⟨rfl, own2, hJ2⟩ := K2 rb v2 L2 q2
          refine And.intro (fun _ => ?_) (fun hc => absurd rfl hc)
          exact nxt f2 A1 DA2 v2 L2 own2 _ _ hPS2 hJ2 e1 e2 (by omega) (by omega)
        · obtain ⟨fr1, lo1, mc1, ms1, Q1, H1, B1, K1⟩ : P2 X 114 170 [aI (xs (5 * n + 1)).toInt] v L n := p_event _ hJ n5 (zi _)
          refine st 667 _ _ _ _ _ _ rfl ?_
          conv => whnf
          refine x_som_i l1 ?_
          conv => whnf
          refine ⟨5 * n, l0, l3, by omega, ?_⟩
          refine x_o h10 ?_
          conv => whnf
          refine ⟨fr1, lo1, mc1, ms1, _, H1 f A DA hPS, ⟨by omega, l_rm (y := 114) (by decide) B1.2.1, by omega, by omega⟩, ?_⟩
          rintro r1 f1 ⟨ra, v1, L1, A1, DA1, rfl, ⟨e1, e2⟩, hPS1, q1⟩
          obtain ⟨g60, z, fr2, lo2, Q2, rfl, H2, B2, K2⟩ := K1 ra v1 L1 q1
          have l2n : ls 2 = some (.ref (A1 20 0)) := by rw [e2]; exact l2
          have h20 : f1 (A1 20 0) = some (.inl (11, r_fs A1 v1)) := hPS1.1.c 20 0 (if_pos ⟨g60, rfl⟩)
          conv => whnf
          refine x_som_i l2n ?_
          conv => whnf
          refine ⟨5 * n, l0, l3, by omega, ?_⟩
          refine x_o h20 ?_
          conv => whnf
          refine ⟨fr2, lo2, 0, 0, _, H2 f1 A1 DA1 hPS1, ⟨by omega, l_rm (y := 170) (by decide) B2.2, by omega, by omega⟩, ?_⟩
          rintro r2 f2 ⟨rb, v2, L2, DA2, rfl, hPS2, q2⟩
          obtain ⟨rfl, own2, hJ2⟩ := K2 rb v2 L2 q2
          refine And.intro (fun _ => ?_) (fun hc => absurd rfl hc)
          exact nxt f2 A1 DA2 v2 L2 own2 _ _ hPS2 hJ2 e1 e2 (by omega) (by omega)
  refine st 0 _ _ _ _ _ _ rfl ?_
  intro a ha
  have ka : a ≠ x_k X 0 := fun z => by rw [z, hf0] at ha; cases ha
  have k0 : kn (va_up f a (some (.inl (10, x_df 10)))) [(a, .inl (10, x_df 10)), (x_k X 0, .inr (99, 0, g0))] := by
    refine kn_new ⟨fun p hp => ?_, by simp⟩ ha
    rw [List.mem_singleton.mp hp]
    exact hf0
  conv => whnf
  refine ⟨_, _, _, _, _, c_H_init k0, ?_, ?_⟩
  · decide
  rintro q f1 ⟨rfl, A, DA, eA, hPS⟩
  intro r hr
  conv => whnf
  refine ⟨_, _, _, _, _, c_R_init hPS hr rfl, ?_, ?_⟩
  · decide
  rintro q f2 ⟨rfl, A', DA', ⟨e1, e2⟩, hPS'⟩
  refine loop 513 0 f2 A' DA' _ _ _ _ _ _ rfl hPS' RJ_0 rfl ?_ ?_ rfl (by decide) (by decide) (by decide)
  · rw [e1, eA]; rfl
  · rw [e2]; rfl
