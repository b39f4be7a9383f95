/-! One look of the kernel at a method's blocks: x_chk; then x_mok. -/
def x_fitb (own nL : Nat) (rt : Option FieldType) (ini : Bool) (pc : Nat) (o : XO) : Bool := match o.1 with
  | .iconst n => decide (Int32.ofInt n = o.2.2.2.2 ∧ o.2.1 = 1)
  | .bipush n => decide ((Int8.ofInt n).toInt32 = o.2.2.2.2 ∧ o.2.1 = 2)
  | .sipush n => decide ((Int16.ofInt n).toInt32 = o.2.2.2.2 ∧ o.2.1 = 3)
  | .aconst_null => decide (o.2.1 = 1)
  | .getstatic i => decide (o.2.1 = 3) && x_tgst.contains (own, i)
  | .iload j => decide (j = o.2.2.1 ∧ o.2.1 = 2)
  | .iload_n q => decide ((q : Nat) = o.2.2.1 ∧ o.2.1 = 1)
  | .aload j => decide (j = o.2.2.1 ∧ o.2.1 = 2)
  | .aload_n q => decide ((q : Nat) = o.2.2.1 ∧ o.2.1 = 1)
  | .istore j => decide ((j = o.2.2.1 ∧ o.2.1 = 2) ∧ o.2.2.1 < nL)
  | .istore_n q => decide (((q : Nat) = o.2.2.1 ∧ o.2.1 = 1) ∧ o.2.2.1 < nL)
  | .astore j => decide ((j = o.2.2.1 ∧ o.2.1 = 2) ∧ o.2.2.1 < nL)
  | .astore_n q => decide (((q : Nat) = o.2.2.1 ∧ o.2.1 = 1) ∧ o.2.2.1 < nL)
  | .iinc j n => decide (j = o.2.2.1 ∧ Int32.ofInt n = o.2.2.2.2 ∧ o.2.1 = 3)
  | .iadd => decide (o.2.1 = 1)
  | .isub => decide (o.2.1 = 1)
  | .imul => decide (o.2.1 = 1)
  | .iand => decide (o.2.1 = 1)
  | .ior => decide (o.2.1 = 1)
  | .ixor => decide (o.2.1 = 1)
  | .idiv => decide (o.2.1 = 1)
  | .irem => decide (o.2.1 = 1)
  | .ishl => decide (o.2.1 = 1)
  | .ishr => decide (o.2.1 = 1)
  | .ineg => decide (o.2.1 = 1)
  | .dup => decide (o.2.1 = 1)
  | .dup_x1 => decide (o.2.1 = 1)
  | .dup2 => decide (o.2.1 = 1)
  | .pop => decide (o.2.1 = 1)
  | .ifCond _ off => decide (o.2.1 = 3 ∧ (pc : Int) + off = (o.2.2.1 : Int))
  | .if_icmp _ off => decide (o.2.1 = 3 ∧ (pc : Int) + off = (o.2.2.1 : Int))
  | .if_acmp _ off => decide (o.2.1 = 3 ∧ (pc : Int) + off = (o.2.2.1 : Int))
  | .ifnull off => decide (o.2.1 = 3 ∧ (pc : Int) + off = (o.2.2.1 : Int))
  | .ifnonnull off => decide (o.2.1 = 3 ∧ (pc : Int) + off = (o.2.2.1 : Int))
  | .goto off => decide (o.2.1 = 3 ∧ (pc : Int) + off = (o.2.2.1 : Int))
  | .tableswitch d l h os => decide (0 ≤ (pc : Int) + d ∧ (os.toList.length : Int) = h - l + 1 ∧ ∀ z ∈ os.toList, 0 ≤ (pc : Int) + z)
  | .ireturn => decide (o.2.1 = 1) && (match rt with
    | some ty => decide (x_kd ty = o.2.2.1)
    | none => false)
  | .areturn => decide (o.2.1 = 1) && (match rt with
    | some ty => decide (x_kd ty = 2)
    | none => false)
  | .return_ => decide (o.2.1 = 1) && rt.isNone
  | .getfield i => decide (o.2.1 = 3) && x_tfld.contains (own, i, o.2.2.1, o.2.2.2.1)
  | .putfield i => decide (o.2.1 = 3) && x_tfwr.contains (own, i, ini, o.2.2.1, o.2.2.2.1)
  | .arraylength => decide (o.2.1 = 1)
  | .iaload => decide (o.2.1 = 1 ∧ o.2.2.1 = 0)
  | .baload => decide (o.2.1 = 1 ∧ o.2.2.1 = 1)
  | .aaload => decide (o.2.1 = 1 ∧ o.2.2.2.1 = x_ald)
  | .iastore => decide (o.2.1 = 1 ∧ o.2.2.1 = 0)
  | .bastore => decide (o.2.1 = 1 ∧ o.2.2.1 = 1)
  | .aastore => decide (o.2.1 = 1 ∧ o.2.2.2.1 = x_ast)
  | .new i => decide (o.2.1 = 3) && x_tnew.contains (own, i, o.2.2.1)
  | .newarray aty => decide (o.2.1 = 2 ∧ ((aty = .int ∧ o.2.2.1 = 0) ∨ (aty = .boolean ∧ o.2.2.1 = 1)))
  | .anewarray i => decide (o.2.1 = 3) && x_tanw.contains (own, i, o.2.2.1)
  | .checkcast i => decide (o.2.1 = 3) && x_tcst.contains (own, i, o.2.2.2.1)
  | .instanceof i => decide (o.2.1 = 3) && x_tins.contains (own, i, o.2.2.2.1)
  | .ldc i => decide (o.2.1 = 2) && ((decide (o.2.2.2.1 = []) && x_tldi.contains (own, i, o.2.2.2.2)) || (decide (o.2.2.2.1 ≠ []) && x_tldm.contains (own, i)))
  | .invokestatic i => decide (o.2.1 = 3) && o.2.2.2.1.all fun q => (decide (q.2 = 0) && x_tsta.contains (own, i, o.2.2.1, q.1)) || (decide (q.2 = 3) && x_tcpy.contains (own, i, o.2.2.1))
  | .invokespecial i => decide (o.2.1 = 3) && ((decide (o.2.2.2.1 = []) && x_toin.contains (own, i)) || (decide (o.2.2.2.1 ≠ []) && o.2.2.2.1.all fun q => x_tspc.contains (own, i, o.2.2.1, q.1)))
  | .invokevirtual i => decide (o.2.1 = 3) && (decide (o.2.2.2.1 ≠ []) || x_tgtc.contains (own, i, o.2.2.1)) && o.2.2.2.1.all fun q => x_tvir.contains (own, i, o.2.2.1, q.1, q.2)
  | _ => false
theorem x_and {a b : Bool} (h : (a && b) = true) : a = true ∧ b = true := by simpa using h
theorem x_or {a b : Bool} (h : (a || b) = true) : a = true ∨ b = true := by simpa using h
theorem x_con {α : Type} [BEq α] [LawfulBEq α] {l : List α} {a : α} (h : l.contains a = true) : a ∈ l := List.contains_iff_mem.mp h
set_option maxHeartbeats 4000000 in
theorem x_fitb_ok {own nL : Nat} {rt : Option FieldType} {ini : Bool} {pc : Nat} {o : XO} (h : x_fitb own nL rt ini pc o = true) : x_fit (x_on own) nL rt ini pc o := by
  obtain ⟨i, len, ax, al, cv⟩ := o
  cases i with
  | getstatic i => exact ⟨of_decide_eq_true (x_and h).1, x_tgst_ok _ (x_con (x_and h).2)⟩
  | ireturn =>
    refine ⟨of_decide_eq_true (x_and h).1, ?_⟩
    have h2 := (x_and h).2
    cases rt with
    | none => cases h2
    | some ty => exact ⟨ty, rfl, of_decide_eq_true h2⟩
  | areturn =>
    refine ⟨of_decide_eq_true (x_and h).1, ?_⟩
    have h2 := (x_and h).2
    cases rt with
    | none => cases h2
    | some ty => exact ⟨ty, rfl, of_decide_eq_true h2⟩
  | return_ => exact ⟨of_decide_eq_true (x_and h).1, by simpa using (x_and h).2⟩
  | getfield i => exact ⟨of_decide_eq_true (x_and h).1, x_tfld_ok _ (x_con (x_and h).2)⟩
  | putfield i => exact ⟨of_decide_eq_true (x_and h).1, x_tfwr_ok _ (x_con (x_and h).2)⟩
  | iaload =>
    obtain ⟨h1, h2⟩ : len = 1 ∧ ax = 0 := of_decide_eq_true h
    subst h2
    exact ⟨h1, rfl⟩
  | baload =>
    obtain ⟨h1, h2⟩ : len = 1 ∧ ax = 1 := of_decide_eq_true h
    subst h2
    exact ⟨h1, rfl⟩
  | iastore =>
    obtain ⟨h1, h2⟩ : len = 1 ∧ ax = 0 := of_decide_eq_true h
    subst h2
    exact ⟨h1, rfl⟩
  | bastore =>
    obtain ⟨h1, h2⟩ : len = 1 ∧ ax = 1 := of_decide_eq_true h
    subst h2
    exact ⟨h1, rfl⟩
  | aaload =>
    obtain ⟨h1, h2⟩ : len = 1 ∧ al = x_ald := of_decide_eq_true h
    subst h2
    exact ⟨h1, x_ald_ok⟩
  | aastore =>
    obtain ⟨h1, h2⟩ : len = 1 ∧ al = x_ast := of_decide_eq_true h
    subst h2
    exact ⟨h1, x_ast_ok⟩
  | new i => exact ⟨of_decide_eq_true (x_and h).1, x_tnew_ok _ (x_con (x_and h).2)⟩
  | newarray aty =>
    obtain ⟨h1, ⟨rfl, h3⟩ | ⟨rfl, h3⟩⟩ : len = 2 ∧ ((aty = .int ∧ ax = 0) ∨ (aty = .boolean ∧ ax = 1)) := of_decide_eq_true h
    · subst h3
      exact ⟨h1, rfl, Or.inl rfl, x_aci⟩
    · subst h3
      exact ⟨h1, rfl, Or.inr rfl, x_acb⟩
  | anewarray i => exact ⟨of_decide_eq_true (x_and h).1, x_tanw_ok _ (x_con (x_and h).2)⟩
  | checkcast i => exact ⟨of_decide_eq_true (x_and h).1, x_tcst_ok _ (x_con (x_and h).2)⟩
  | instanceof i => exact ⟨of_decide_eq_true (x_and h).1, x_tins_ok _ (x_con (x_and h).2)⟩
  | ldc i =>
    refine ⟨of_decide_eq_true (x_and h).1, ?_⟩
    rcases x_or (x_and h).2 with h2 | h2
    · exact Or.inl ⟨of_decide_eq_true (x_and h2).1, x_tldi_ok _ (x_con (x_and h2).2)⟩
    · exact Or.inr ⟨of_decide_eq_true (x_and h2).1, x_tldm_ok _ (x_con (x_and h2).2)⟩
  | invokestatic i =>
    refine ⟨of_decide_eq_true (x_and h).1, fun q hq => ?_⟩
    rcases x_or (List.all_eq_true.mp (x_and h).2 q hq) with h2 | h2
    · exact Or.inl ⟨of_decide_eq_true (x_and h2).1, x_tsta_ok _ (x_con (x_and h2).2)⟩
    · exact Or.inr ⟨of_decide_eq_true (x_and h2).1, x_tcpy_ok _ (x_con (x_and h2).2)⟩
  | invokespecial i =>
    refine ⟨of_decide_eq_true (x_and h).1, ?_⟩
    rcases x_or (x_and h).2 with h2 | h2
    · exact Or.inl ⟨of_decide_eq_true (x_and h2).1, x_toin_ok _ (x_con (x_and h2).2)⟩
    · exact Or.inr ⟨of_decide_eq_true (x_and h2).1, fun q hq => x_tspc_ok _ (x_con (List.all_eq_true.mp (x_and h2).2 q hq))⟩
  | invokevirtual i =>
    refine ⟨of_decide_eq_true (x_and (x_and h).1).1, fun hn => ?_, fun q hq => x_tvir_ok _ (x_con (List.all_eq_true.mp (x_and h).2 q hq))⟩
    rcases x_or (x_and (x_and h).1).2 with h2 | h2
    · exact absurd hn (of_decide_eq_true h2)
    · exact x_tgtc_ok _ (x_con h2)
  | _ => first | (simp only [x_fitb, decide_eq_true_eq] at h; exact h) | (simp [x_fitb] at h)
def x_chk (own nL : Nat) (rt : Option FieldType) (ini : Bool) (cc : ByteArray) : Nat → List XO → Bool
  | _, [] => true
  | pc, o :: r => decide (decode cc pc = .ok (o.1, o.2.1)) && (x_fitb own nL rt ini pc o && x_chk own nL rt ini cc (pc + o.2.1) r)
theorem x_chk_ok {own nL : Nat} {rt : Option FieldType} {ini : Bool} {cc : ByteArray} : ∀ (pc : Nat) (l : List XO), x_chk own nL rt ini cc pc l = true → x_fits (x_on own) nL rt ini cc pc l
  | _, [], _ => trivial
  | pc, o :: r, h => ⟨⟨of_decide_eq_true (x_and h).1, x_fitb_ok (x_and (x_and h).2).1⟩, x_chk_ok _ r (x_and (x_and h).2).2⟩
def x_chm (y own : Nat) (ini : Bool) (B : List (Nat × List XO)) : Bool := plainFor (x_mt y).1 && B.all fun q => x_chk own (x_mt y).2.2.1 (x_mt y).2.2.2 ini (x_mt y).2.1 q.1 q.2
theorem x_chm_ok {y own : Nat} {ini : Bool} {B : List (Nat × List XO)} (h0 : (x_mt y).1.cls = x_on own) (h1 : ini = true → (x_mt y).1.name = "<init>") (h : x_chm y own ini B = true) : x_mok y (x_on own) ini B :=
  ⟨h0, (x_and h).1, h1, fun q hq => x_chk_ok _ _ (List.all_eq_true.mp (x_and h).2 q hq)⟩
