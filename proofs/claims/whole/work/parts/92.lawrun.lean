/-! The law read with its script. -/
def l_fitb (pc : Nat) (o : XO) : Bool := match o.1 with
  | .new i => decide (o.2.1 = 3) && l_new.contains (i, o.2.2.1)
  | .invokespecial i => decide (o.2.1 = 3) && (decide (o.2.2.2.1 ≠ []) && o.2.2.2.1.all fun q => l_spc.contains (i, o.2.2.1, q.1))
  | .invokevirtual i => decide (o.2.1 = 3) && (decide (o.2.2.2.1 ≠ []) && o.2.2.2.1.all fun q => l_vir.contains (i, o.2.2.1, q.1, q.2))
  | .iconst _ => x_fitb 0 4 ret false pc o
  | .bipush _ => x_fitb 0 4 ret false pc o
  | .iload_n _ => x_fitb 0 4 ret false pc o
  | .aload_n _ => x_fitb 0 4 ret false pc o
  | .istore_n _ => x_fitb 0 4 ret false pc o
  | .astore_n _ => x_fitb 0 4 ret false pc o
  | .iinc _ _ => x_fitb 0 4 ret false pc o
  | .isub => x_fitb 0 4 ret false pc o
  | .iand => x_fitb 0 4 ret false pc o
  | .dup => x_fitb 0 4 ret false pc o
  | .ifCond _ _ => x_fitb 0 4 ret false pc o
  | .if_icmp _ _ => x_fitb 0 4 ret false pc o
  | .goto _ => x_fitb 0 4 ret false pc o
  | .tableswitch _ _ _ _ => x_fitb 0 4 ret false pc o
  | .ireturn => x_fitb 0 4 ret false pc o
  | _ => false
theorem l_fitb_ok {pc : Nat} {o : XO} (h : l_fitb pc o = true) : x_fit "SessionHostLaw" 4 ret false pc o := by
  obtain ⟨i, len, ax, al, cv⟩ := o
  cases i with
  | new i => exact ⟨of_decide_eq_true (x_and h).1, l_new_ok _ (x_con (x_and h).2)⟩
  | invokespecial i =>
    obtain ⟨h1, h2⟩ := x_and h
    obtain ⟨h3, h4⟩ := x_and h2
    exact ⟨of_decide_eq_true h1, Or.inr ⟨of_decide_eq_true h3, fun q hq => l_spc_ok _ (x_con (List.all_eq_true.mp h4 q hq))⟩⟩
  | invokevirtual i =>
    obtain ⟨h1, h2⟩ := x_and h
    obtain ⟨h3, h4⟩ := x_and h2
    exact ⟨of_decide_eq_true h1, fun hn => absurd hn (of_decide_eq_true h3), fun q hq => l_vir_ok _ (x_con (List.all_eq_true.mp h4 q hq))⟩
  | _ =>
    simp only [l_fitb] at h
    first
      | exact absurd h (by decide)
      | (have q := x_fitb_ok (own := 0) h
         unfold x_fit at q ⊢
         exact q)
def l_len (o : LO) : Nat := match o with
  | .inl o => o.2.1
  | .inr k => if k = 9 then 2 else if k = 0 then 3 else 5
def l_okb (pc : Nat) (o : LO) : Bool := match o with
  | .inl o => decide (decode code pc = .ok (o.1, o.2.1)) && l_fitb pc o
  | .inr k => if k = 9 then decide (decode code pc = .ok (.aload_n 0, 1)) && decide (decode code (pc + 1) = .ok (.arraylength, 1))
    else if k = 0 then decide (decode code pc = .ok (.aload_n 0, 1)) && (decide (decode code (pc + 1) = .ok (.iload_n 3, 1)) && decide (decode code (pc + 2) = .ok (.iaload, 1)))
    else decide (decode code pc = .ok (.aload_n 0, 1)) && (decide (decode code (pc + 1) = .ok (.iload_n 3, 1)) && (decide (decode code (pc + 2) = .ok (.iconst k, 1)) && (decide (decode code (pc + 3) = .ok (.iadd, 1)) && (decide (decode code (pc + 4) = .ok (.iaload, 1)) && decide (k < 5)))))
def l_chk : Nat → List LO → Bool
  | _, [] => true
  | pc, o :: r => l_okb pc o && l_chk (pc + l_len o) r
theorem b_law_ok : b_law.all (fun q => l_chk q.1 q.2) = true := by decide +kernel
noncomputable def l_step (X : XC) (fr lo mc ms : Nat) (b Ln : Nat) (xs : Nat → Int32) (J : XJ) (RQ : Option Value → XH → Prop) (o : LO) (pc : Nat) (ls : XL) (st : List Value) (f : XH) (nc ns : Nat) (K : XK) : Prop := match o with
  | .inl o => x_step X fr lo mc ms J RQ o pc ls st f nc ns K
  | .inr k => if k = 9 then ls 0 = some (.ref b) ∧ K ls (.int (nI Ln) :: st) f nc ns else ∃ i : Nat, ls 0 = some (.ref b) ∧ ls 3 = some (.int (nI i)) ∧ i + k < Ln ∧ K ls (.int (iI (xs (i + k)).toInt) :: st) f nc ns
noncomputable def l_run (X : XC) (fr lo mc ms : Nat) (b Ln : Nat) (xs : Nat → Int32) (J : XJ) (RQ : Option Value → XH → Prop) : List LO → Nat → XL → List Value → XH → Nat → Nat → Prop
  | [], pc, ls, st, f, nc, ns => J pc ls st f nc ns
  | o :: r, pc, ls, st, f, nc, ns => l_step X fr lo mc ms b Ln xs J RQ o pc ls st f nc ns (fun ls st f nc ns => l_run X fr lo mc ms b Ln xs J RQ r (pc + l_len o) ls st f nc ns)
section
variable {X : XC} {p : Program} {e : Env} {R : Room} {s : State} {m : MethodId} {args : Array Value} {below : List Frame} {meth : Method} {c : Code} {fr lo mc ms : Nat} {RQ : Option Value → XH → Prop}
theorem l_run_sound {b Ln : Nat} {xs : Nat → Int32} (G : x_ctx X p R s m args meth c code 4 "SessionHostLaw" false ret fr lo mc ms) (hX : va_X b Ln xs s s.heap) (hbl : b < s.heap.size) (hbA : ¬ x_A X b) (hLn : Ln ≤ 2560) (J : XJ) (hJ : ∀ pc ls st f nc ns, J pc ls st f nc ns → x_go X p e R s m args below meth c 4 mc ms RQ pc ls st f nc ns) : ∀ (ops : List LO) (pc : Nat) (ls : XL) (st : List Value) (f : XH) (nc ns : Nat), l_chk pc ops = true → l_run X fr lo mc ms b Ln xs J RQ ops pc ls st f nc ns → x_go X p e R s m args below meth c 4 mc ms RQ pc ls st f nc ns := by
  have ld : ∀ (pc : Nat) (ls : XL) (st : List Value) (f : XH) (nc ns i : Nat), decode code pc = .ok (.iaload, 1) → i < Ln → x_go X p e R s m args below meth c 4 mc ms RQ (pc + 1) ls (.int (iI (xs i).toInt) :: st) f nc ns → x_go X p e R s m args below meth c 4 mc ms RQ pc ls (.int (nI i) :: .ref b :: st) f nc ns := by
    intro pc ls st f nc ns i hd hi kk H locs lsA hP hD hS hl
    rw [← iI_of] at kk
    have k2 := kk H locs lsA hP hD hS hl
    refine va_sld G.1 G.2.1 hX hbl hbA hS (vp_in_nI (by omega) (by omega)) hd ?_
    rw [nI_clamp (by omega)]
    exact k2
  intro ops
  induction ops with
  | nil => exact fun pc ls st f nc ns _ h => hJ _ _ _ _ _ _ h
  | cons o r ih =>
    intro pc ls st f nc ns hc h
    obtain ⟨hc1, hc2⟩ := x_and hc
    cases o with
    | inl o =>
      have hc0 : (decide (decode code pc = .ok (o.1, o.2.1)) && l_fitb pc o) = true := hc1
      obtain ⟨d1, d2⟩ := x_and hc0
      exact x_step_sound G o (of_decide_eq_true d1) (l_fitb_ok d2) J hJ _ (fun ls st f nc ns hk => ih _ ls st f nc ns hc2 hk) h
    | inr k =>
      have h : (if k = 9 then ls 0 = some (.ref b) ∧ l_run X fr lo mc ms b Ln xs J RQ r (pc + l_len (.inr k)) ls (.int (nI Ln) :: st) f nc ns else ∃ i : Nat, ls 0 = some (.ref b) ∧ ls 3 = some (.int (nI i)) ∧ i + k < Ln ∧ l_run X fr lo mc ms b Ln xs J RQ r (pc + l_len (.inr k)) ls (.int (iI (xs (i + k)).toInt) :: st) f nc ns) := h
      by_cases k9 : k = 9
      · subst k9
        rw [if_pos rfl] at h
        obtain ⟨d1, d2⟩ := x_and (show (decide (decode code pc = .ok (.aload_n 0, 1)) && decide (decode code (pc + 1) = .ok (.arraylength, 1))) = true from hc1)
        refine x_s_aload G (of_decide_eq_true d1) (Or.inr ⟨0, rfl, rfl, rfl⟩) h.1 trivial ?_
        intro H locs lsA hP hD hS hl
        exact va_slen G.1 G.2.1 hX hbl hbA hS (of_decide_eq_true d2) (ih (pc + 2) ls _ f nc ns hc2 h.2 H locs lsA hP hD hS hl)
      · rw [if_neg k9] at h
        obtain ⟨i, h0, h3, hi, h⟩ := h
        by_cases k0 : k = 0
        · subst k0
          obtain ⟨d1, d⟩ := x_and (show (decide (decode code pc = .ok (.aload_n 0, 1)) && (decide (decode code (pc + 1) = .ok (.iload_n 3, 1)) && decide (decode code (pc + 2) = .ok (.iaload, 1)))) = true from hc1)
          obtain ⟨d2, d3⟩ := x_and d
          refine x_s_aload G (of_decide_eq_true d1) (Or.inr ⟨0, rfl, rfl, rfl⟩) h0 trivial ?_
          refine x_s_iload G (of_decide_eq_true d2) (Or.inr ⟨3, rfl, rfl, rfl⟩) h3 ?_
          exact ld (pc + 2) ls st f nc ns i (of_decide_eq_true d3) (by omega) (ih (pc + 3) ls _ f nc ns hc2 h)
        · have hc3 : (decide (decode code pc = .ok (.aload_n 0, 1)) && (decide (decode code (pc + 1) = .ok (.iload_n 3, 1)) && (decide (decode code (pc + 2) = .ok (.iconst k, 1)) && (decide (decode code (pc + 3) = .ok (.iadd, 1)) && (decide (decode code (pc + 4) = .ok (.iaload, 1)) && decide (k < 5)))))) = true := by
            have q := hc1
            unfold l_okb at q
            simp only [if_neg k9, if_neg k0] at q
            exact q
          have hl5 : l_len (.inr k) = 5 := by show (if k = 9 then 2 else if k = 0 then 3 else 5) = 5; rw [if_neg k9, if_neg k0]
          rw [hl5] at h hc2
          obtain ⟨d1, d⟩ := x_and hc3
          obtain ⟨d2, d⟩ := x_and d
          obtain ⟨d3, d⟩ := x_and d
          obtain ⟨d4, d⟩ := x_and d
          obtain ⟨d5, d6⟩ := x_and d
          have k5 : k < 5 := of_decide_eq_true d6
          refine x_s_aload G (of_decide_eq_true d1) (Or.inr ⟨0, rfl, rfl, rfl⟩) h0 trivial ?_
          refine x_s_iload G (of_decide_eq_true d2) (Or.inr ⟨3, rfl, rfl, rfl⟩) h3 ?_
          refine x_s_const G (v := nI k) (of_decide_eq_true d3) (Or.inl ⟨k, rfl, iI_n k, rfl⟩) ?_
          refine x_step_sound G (.iadd, 1, 0, [], 0) (of_decide_eq_true d4) rfl J hJ (fun ls st f nc ns => x_go X p e R s m args below meth c 4 mc ms RQ (pc + 4) ls st f nc ns) (fun ls st f nc ns hk => hk) ?_
          show x_go X p e R s m args below meth c 4 mc ms RQ (pc + 4) ls (.int (nI i + nI k) :: .ref b :: st) f nc ns
          rw [nI_add]
          exact ld (pc + 4) ls st f nc ns (i + k) (of_decide_eq_true d5) hi (ih (pc + 5) ls _ f nc ns hc2 h)
end
