/-! The executor is sound: each instruction by a row of the kit. -/
theorem x_at.kept {X : XC} {a : Nat} {e : XE} {H H1 : Heap} (h : x_at X a e H) (hq : H1[a]? = H[a]?) : x_at X a e H1 := by
  cases e with
  | inl o =>
    obtain ⟨r, h1, h2⟩ := h
    exact ⟨r, h1, h2.kept hq⟩
  | inr o => exact h.elim (fun z => Or.inl ⟨z.1, hq.trans z.2⟩) (fun z => Or.inr ⟨z.1, z.2.1, hq.trans z.2.2⟩)
theorem x_at.lt {X : XC} {a : Nat} {e : XE} {H : Heap} (h : x_at X a e H) : a < H.size := by
  cases e with
  | inl o =>
    obtain ⟨r, h1, cell, h2, -⟩ := h
    exact (Array.getElem?_eq_some_iff.mp h2).1
  | inr o => exact h.elim (fun z => (Array.getElem?_eq_some_iff.mp z.2).1) (fun z => (Array.getElem?_eq_some_iff.mp z.2.2).1)
theorem x_P.put {X : XC} {f : XH} {H H1 : Heap} {a : Nat} {e : XE} (h : x_P X f H) (he : x_at X a e H1) (oq : ∀ q : Nat, q ≠ a → H1[q]? = H[q]?) : x_P X (va_up f a (some e)) H1 := by
  intro b e' hb
  by_cases hba : b = a
  · subst hba
    rw [va_up_self] at hb
    cases hb
    exact he
  · rw [va_up_ne _ _ hba] at hb
    exact (h b e' hb).kept (oq b hba)
theorem x_P.new {X : XC} {f : XH} {H H1 : Heap} {e : XE} (h : x_P X f H) (he : x_at X H.size e H1) (oq : ∀ q : Nat, q < H.size → H1[q]? = H[q]?) : x_P X (va_up f H.size (some e)) H1 := by
  intro b e' hb
  by_cases hba : b = H.size
  · subst hba
    rw [va_up_self] at hb
    cases hb
    exact he
  · rw [va_up_ne _ _ hba] at hb
    exact (h b e' hb).kept (oq b (h b e' hb).lt)
theorem x_P.fresh {X : XC} {f : XH} {H : Heap} (h : x_P X f H) : f H.size = none := by
  cases hf : f H.size with
  | none => rfl
  | some e => exact absurd (h _ e hf).lt (Nat.lt_irrefl _)
theorem x_D.put {X : XC} {f : XH} {a : Nat} {e : XE} (h : x_D X f) (ha : x_A X a) : x_D X (va_up f a (some e)) := by
  intro b e' hb
  by_cases hba : b = a
  · subst hba
    exact Or.inl ha
  · rw [va_up_ne _ _ hba] at hb
    exact h b e' hb
theorem x_D.obj {X : XC} {f : XH} (h : x_D X f) {a ci : Nat} {fs : List Value} (hf : f a = some (.inl (ci, fs))) : x_A X a := by
  rcases h a _ hf with h | ⟨g, h⟩
  · exact h
  · cases h
theorem x_D.arr {X : XC} {f : XH} (h : x_D X f) {a ti n : Nat} {g : Nat → Value} {i : Int32} (hf : f a = some (.inr (ti, n, g))) (hi : vp_in i n) : x_A X a := by
  rcases h a _ hf with h | ⟨g, h⟩
  · exact h
  · cases h
    exact absurd (Or.inr (Nat.zero_le _)) hi
theorem x_P.arr {X : XC} {f : XH} {H : Heap} (h : x_P X f H) {a ti n : Nat} {g : Nat → Value} {i : Int32} (hf : f a = some (.inr (ti, n, g))) (hi : vp_in i n) : ti < x_ty.length ∧ H[a]? = some (arrV (X.2.2.1 ti) n g) := by
  rcases h a _ hf with h | ⟨-, h, -⟩
  · exact h
  · have h : n = 0 := h
    subst h
    exact absurd (Or.inr (Nat.zero_le _)) hi
/-- the locals that a function names -/
def x_has (lsA : Array Slot) (nL : Nat) (ls : XL) : Prop := lsA.size = nL ∧ lv_wf lsA ∧ ∀ (i : Nat) (v : Value), ls i = some v → lsA[i]? = some (.val v) ∧ v.category = 1
def x_lst (nL : Nat) (ls : XL) : List (Nat × Value) := (List.range nL).filterMap fun i => (ls i).map fun v => (i, v)
theorem x_has.lt {lsA : Array Slot} {nL : Nat} {ls : XL} (h : x_has lsA nL ls) {i : Nat} {v : Value} (hi : ls i = some v) : i < nL := by
  rw [← h.1]
  exact lv_lt (h.2.2 i v hi).1
theorem x_lst_mem {nL : Nat} {ls : XL} {q : Nat × Value} : q ∈ x_lst nL ls ↔ q.1 < nL ∧ ls q.1 = some q.2 := by
  unfold x_lst
  rw [List.mem_filterMap]
  constructor
  · rintro ⟨i, hi, hq⟩
    obtain ⟨v, hv, rfl⟩ := Option.map_eq_some_iff.mp hq
    exact ⟨List.mem_range.mp hi, hv⟩
  · rintro ⟨h1, h2⟩
    exact ⟨q.1, List.mem_range.mpr h1, by rw [h2]; rfl⟩
theorem x_has.lst {lsA : Array Slot} {nL : Nat} {ls : XL} (h : x_has lsA nL ls) : lv_has lsA nL (x_lst nL ls) :=
  ⟨h.1, h.2.1, fun q hq => (h.2.2 q.1 q.2 (x_lst_mem.mp hq).2).1⟩
theorem x_has.up {lsA lsB : Array Slot} {nL i : Nat} {ls : XL} {v : Value} (h : x_has lsA nL ls) (hc : v.category = 1) (hB : lv_has lsB nL ((i, v) :: (x_lst nL ls).filter (fun q => !(q.1 == i) && !(q.1 + 1 == i && q.2.category == 2)))) : x_has lsB nL (va_up ls i (some v)) := by
  refine ⟨hB.1, hB.2.1, fun j w hj => ?_⟩
  by_cases hji : j = i
  · subst hji
    rw [va_up_self] at hj
    cases hj
    exact ⟨hB.2.2 (j, v) List.mem_cons_self, hc⟩
  · rw [va_up_ne _ _ hji] at hj
    have hw := (h.2.2 j w hj).2
    refine ⟨hB.2.2 (j, w) (List.mem_cons_of_mem _ (List.mem_filter.mpr ⟨x_lst_mem.mpr ⟨h.lt hj, hj⟩, ?_⟩)), hw⟩
    have h1 : (j == i) = false := by simpa using hji
    have h2 : (w.category == 2) = false := by rw [hw]; rfl
    simp [h1, h2]
theorem x_isr_c {v : Value} (h : x_isr v) : v.category = 1 := by cases v <;> first | rfl | exact h.elim
theorem x_one_c {v : Value} (h : x_one v) : v.category = 1 := by cases v <;> first | rfl | exact h.elim
theorem x_isr_rf {v : Value} (h : x_isr v) : ∃ r, v = va_rf r := by
  cases v <;> first | exact ⟨some _, rfl⟩ | exact ⟨none, rfl⟩ | exact h.elim
theorem x_rf_inj {r q : Option Nat} (h : va_rf r = va_rf q) : r = q := by
  cases r <;> cases q <;> first | rfl | (cases h; rfl) | cases h
theorem x_room {m : MethodId} {pc : Nat} {ls : Array Slot} {rest st : List Value} (h : st.length ≤ 4) : 2 * (F0 m pc ls rest).monitorRoom + (st.map fun v => v.category).sum ≤ 8 := by
  refine lv_room ?_
  have h1 : ∀ l : List Value, (l.map fun v => v.category).sum ≤ 2 * l.length := by
    intro l
    induction l with
    | nil => exact Nat.le_refl _
    | cons v t ih =>
      have := lv_cat v
      simp only [List.map_cons, List.sum_cons, List.length_cons]
      omega
  have := h1 st
  omega
/-- what stands fixed while a method runs -/
def x_ctx (X : XC) (p : Program) (R : Room) (s : State) (m : MethodId) (args : Array Value) (meth : Method) (c : Code) (cc : ByteArray) (nL : Nat) (own : String) (ini : Bool) (rt : Option FieldType) (fr lo mc ms : Nat) : Prop :=
  p.tables.exec = Jvm.exec ∧ c.code = cc ∧ c.maxLocals = nL ∧ s.vm.findClass own = some m.cls ∧ (∀ w ∈ x_ws, w.before args s = true) ∧ x_K X s ∧ x_z X ≤ s.heap.size ∧ meth.sig.returnType = rt ∧ meth.locks = false ∧ (ini = true → meth.name = "<init>") ∧ x_Z X s s.heap ∧ R = { frames := fr, cells := mc, slots := ms, locals := lo }
/-- the machine, at a place of the method, comes to its end -/
def x_go (X : XC) (p : Program) (e : Env) (R : Room) (s : State) (m : MethodId) (args : Array Value) (below : List Frame) (meth : Method) (c : Code) (nL mc ms : Nat) (RQ : Option Value → XH → Prop) : XJ := fun pc ls st f nc ns =>
  ∀ (H : Heap) (locs : List Loc) (lsA : Array Slot), x_P X f H → x_D X f → va_S (x_A X) s.heap H locs → x_has lsA nL ls → W p X.1 e R s m args below meth c H locs nc ns (MQ below (x_post X RQ) args s mc ms (x_A X)) (F0 m pc lsA st)
section XS
variable {X : XC} {p : Program} {e : Env} {R : Room} {s : State} {m : MethodId} {args : Array Value} {below : List Frame} {meth : Method} {c : Code} {cc : ByteArray} {nL : Nat} {own : String} {ini : Bool} {rt : Option FieldType} {fr lo mc ms : Nat} {RQ : Option Value → XH → Prop}
variable {pc : Nat} {ls : XL} {st t : List Value} {f : XH} {nc ns : Nat}
theorem x_s_const (G : x_ctx X p R s m args meth c cc nL own ini rt fr lo mc ms) {i : ClassFile.Instr} {len : Nat} {v : Int32} (hd : decode cc pc = .ok (i, len))
    (hi : (∃ n, i = .iconst n ∧ Int32.ofInt n = v ∧ len = 1) ∨ (∃ n, i = .bipush n ∧ (Int8.ofInt n).toInt32 = v ∧ len = 2) ∨ (∃ n, i = .sipush n ∧ (Int16.ofInt n).toInt32 = v ∧ len = 3))
    (k : x_go X p e R s m args below meth c nL mc ms RQ (pc + len) ls (.int v :: st) f nc ns) : x_go X p e R s m args below meth c nL mc ms RQ pc ls st f nc ns := by
  intro H locs lsA hP hD hS hl
  rcases hi with ⟨n, rfl, hv, rfl⟩ | ⟨n, rfl, hv, rfl⟩ | ⟨n, rfl, hv, rfl⟩
  · exact lv_iconst G.1 G.2.1 hd hv (k H locs lsA hP hD hS hl)
  · exact lv_bipush G.1 G.2.1 hd hv (k H locs lsA hP hD hS hl)
  · exact lv_sipush G.1 G.2.1 hd hv (k H locs lsA hP hD hS hl)
theorem x_s_null (G : x_ctx X p R s m args meth c cc nL own ini rt fr lo mc ms) (hd : decode cc pc = .ok (.aconst_null, 1))
    (k : x_go X p e R s m args below meth c nL mc ms RQ (pc + 1) ls (.null :: st) f nc ns) : x_go X p e R s m args below meth c nL mc ms RQ pc ls st f nc ns :=
  fun H locs lsA hP hD hS hl => lv_null G.1 G.2.1 hd (k H locs lsA hP hD hS hl)
theorem x_s_iload (G : x_ctx X p R s m args meth c cc nL own ini rt fr lo mc ms) {i : ClassFile.Instr} {len j : Nat} {x : Int32} (hd : decode cc pc = .ok (i, len)) (hi : (i = .iload j ∧ len = 2) ∨ (∃ q, i = .iload_n q ∧ (q : Nat) = j ∧ len = 1)) (hx : ls j = some (.int x))
    (k : x_go X p e R s m args below meth c nL mc ms RQ (pc + len) ls (.int x :: st) f nc ns) : x_go X p e R s m args below meth c nL mc ms RQ pc ls st f nc ns := by
  intro H locs lsA hP hD hS hl
  rcases hi with ⟨rfl, rfl⟩ | ⟨q, rfl, hq, rfl⟩
  · exact lv_iload G.1 G.2.1 hd (hl.2.2 j _ hx).1 (k H locs lsA hP hD hS hl)
  · exact lv_iload_n G.1 G.2.1 hd hq (hl.2.2 j _ hx).1 (k H locs lsA hP hD hS hl)
theorem x_s_aload (G : x_ctx X p R s m args meth c cc nL own ini rt fr lo mc ms) {i : ClassFile.Instr} {len j : Nat} {v : Value} (hd : decode cc pc = .ok (i, len)) (hi : (i = .aload j ∧ len = 2) ∨ (∃ q, i = .aload_n q ∧ (q : Nat) = j ∧ len = 1)) (hx : ls j = some v) (hv : x_isr v)
    (k : x_go X p e R s m args below meth c nL mc ms RQ (pc + len) ls (v :: st) f nc ns) : x_go X p e R s m args below meth c nL mc ms RQ pc ls st f nc ns := by
  intro H locs lsA hP hD hS hl
  obtain ⟨r, rfl⟩ := x_isr_rf hv
  cases r with
  | none =>
    rcases hi with ⟨rfl, rfl⟩ | ⟨q, rfl, hq, rfl⟩
    · exact lv_aloadN G.1 G.2.1 hd (hl.2.2 j _ hx).1 (k H locs lsA hP hD hS hl)
    · exact lv_aload_nN G.1 G.2.1 hd hq (hl.2.2 j _ hx).1 (k H locs lsA hP hD hS hl)
  | some a =>
    rcases hi with ⟨rfl, rfl⟩ | ⟨q, rfl, hq, rfl⟩
    · exact lv_aload G.1 G.2.1 hd (hl.2.2 j _ hx).1 (k H locs lsA hP hD hS hl)
    · exact lv_aload_n G.1 G.2.1 hd hq (hl.2.2 j _ hx).1 (k H locs lsA hP hD hS hl)
theorem x_s_istore (G : x_ctx X p R s m args meth c cc nL own ini rt fr lo mc ms) {i : ClassFile.Instr} {len j : Nat} {x : Int32} (hd : decode cc pc = .ok (i, len)) (hi : (i = .istore j ∧ len = 2) ∨ (∃ q, i = .istore_n q ∧ (q : Nat) = j ∧ len = 1)) (hj : j < nL)
    (k : x_go X p e R s m args below meth c nL mc ms RQ (pc + len) (va_up ls j (some (.int x))) t f nc ns) : x_go X p e R s m args below meth c nL mc ms RQ pc ls (.int x :: t) f nc ns := by
  intro H locs lsA hP hD hS hl
  rcases hi with ⟨rfl, rfl⟩ | ⟨q, rfl, hq, rfl⟩
  · exact lv_istore G.1 G.2.1 hd hl.lst hj rfl fun lsB hB => k H locs lsB hP hD hS (hl.up rfl hB)
  · exact lv_istore_n G.1 G.2.1 hd hq hl.lst hj rfl fun lsB hB => k H locs lsB hP hD hS (hl.up rfl hB)
theorem x_s_astore (G : x_ctx X p R s m args meth c cc nL own ini rt fr lo mc ms) {i : ClassFile.Instr} {len j : Nat} {v : Value} (hd : decode cc pc = .ok (i, len)) (hi : (i = .astore j ∧ len = 2) ∨ (∃ q, i = .astore_n q ∧ (q : Nat) = j ∧ len = 1)) (hj : j < nL) (hv : x_isr v)
    (k : x_go X p e R s m args below meth c nL mc ms RQ (pc + len) (va_up ls j (some v)) t f nc ns) : x_go X p e R s m args below meth c nL mc ms RQ pc ls (v :: t) f nc ns := by
  intro H locs lsA hP hD hS hl
  obtain ⟨r, rfl⟩ := x_isr_rf hv
  cases r with
  | none =>
    rcases hi with ⟨rfl, rfl⟩ | ⟨q, rfl, hq, rfl⟩
    · exact lv_astoreN G.1 G.2.1 hd hl.lst hj rfl fun lsB hB => k H locs lsB hP hD hS (hl.up rfl hB)
    · exact lv_astore_nN G.1 G.2.1 hd hq hl.lst hj rfl fun lsB hB => k H locs lsB hP hD hS (hl.up rfl hB)
  | some a =>
    rcases hi with ⟨rfl, rfl⟩ | ⟨q, rfl, hq, rfl⟩
    · exact lv_astore G.1 G.2.1 hd hl.lst hj rfl fun lsB hB => k H locs lsB hP hD hS (hl.up rfl hB)
    · exact lv_astore_n G.1 G.2.1 hd hq hl.lst hj rfl fun lsB hB => k H locs lsB hP hD hS (hl.up rfl hB)
theorem x_s_iinc (G : x_ctx X p R s m args meth c cc nL own ini rt fr lo mc ms) {j : Nat} {n : Int} {x v : Int32} (hd : decode cc pc = .ok (.iinc j n, 3)) (hn : Int32.ofInt n = v) (hx : ls j = some (.int x))
    (k : x_go X p e R s m args below meth c nL mc ms RQ (pc + 3) (va_up ls j (some (.int (x + v)))) st f nc ns) : x_go X p e R s m args below meth c nL mc ms RQ pc ls st f nc ns := by
  intro H locs lsA hP hD hS hl
  obtain ⟨q, hq⟩ := List.getElem?_of_mem (x_lst_mem (q := (j, Value.int x)).mpr ⟨hl.lt hx, hx⟩)
  exact lv_iinc G.1 G.2.1 hd hl.lst hq (by rw [hn]) (hl.lt hx) rfl fun lsB hB => k H locs lsB hP hD hS (hl.up rfl hB)
/-- a branch -/
theorem x_s_if (G : x_ctx X p R s m args meth c cc nL own ini rt fr lo mc ms) {o : ClassFile.Cond} {off : Int} {tgt : Nat} {x : Int32} (hd : decode cc pc = .ok (.ifCond o off, 3)) (ht : (pc : Int) + off = (tgt : Int))
    (h : x_br o x 0 (x_go X p e R s m args below meth c nL mc ms RQ tgt ls t f nc ns) (x_go X p e R s m args below meth c nL mc ms RQ (pc + 3) ls t f nc ns)) : x_go X p e R s m args below meth c nL mc ms RQ pc ls (.int x :: t) f nc ns := by
  intro H locs lsA hP hD hS hl
  cases o
  · exact lv_if_eq G.1 G.2.1 hd ht (fun z => h.1 z H locs lsA hP hD hS hl) (fun z => h.2 z H locs lsA hP hD hS hl)
  · exact lv_if_ne G.1 G.2.1 hd ht (fun z => h.1 z H locs lsA hP hD hS hl) (fun z => h.2 z H locs lsA hP hD hS hl)
  · exact lv_if_lt G.1 G.2.1 hd ht (fun z => h.1 z H locs lsA hP hD hS hl) (fun z => h.2 z H locs lsA hP hD hS hl)
  · exact lv_if_ge G.1 G.2.1 hd ht (fun z => h.1 z H locs lsA hP hD hS hl) (fun z => h.2 z H locs lsA hP hD hS hl)
  · exact lv_if_gt G.1 G.2.1 hd ht (fun z => h.1 z H locs lsA hP hD hS hl) (fun z => h.2 z H locs lsA hP hD hS hl)
  · exact lv_if_le G.1 G.2.1 hd ht (fun z => h.1 z H locs lsA hP hD hS hl) (fun z => h.2 z H locs lsA hP hD hS hl)
theorem x_s_icmp (G : x_ctx X p R s m args meth c cc nL own ini rt fr lo mc ms) {o : ClassFile.Cond} {off : Int} {tgt : Nat} {x y : Int32} (hd : decode cc pc = .ok (.if_icmp o off, 3)) (ht : (pc : Int) + off = (tgt : Int))
    (h : x_br o x y (x_go X p e R s m args below meth c nL mc ms RQ tgt ls t f nc ns) (x_go X p e R s m args below meth c nL mc ms RQ (pc + 3) ls t f nc ns)) : x_go X p e R s m args below meth c nL mc ms RQ pc ls (.int y :: .int x :: t) f nc ns := by
  intro H locs lsA hP hD hS hl
  cases o
  · exact lv_icmp_eq G.1 G.2.1 hd ht (fun z => h.1 z H locs lsA hP hD hS hl) (fun z => h.2 z H locs lsA hP hD hS hl)
  · exact lv_icmp_ne G.1 G.2.1 hd ht (fun z => h.1 z H locs lsA hP hD hS hl) (fun z => h.2 z H locs lsA hP hD hS hl)
  · exact lv_icmp_lt G.1 G.2.1 hd ht (fun z => h.1 z H locs lsA hP hD hS hl) (fun z => h.2 z H locs lsA hP hD hS hl)
  · exact lv_icmp_ge G.1 G.2.1 hd ht (fun z => h.1 z H locs lsA hP hD hS hl) (fun z => h.2 z H locs lsA hP hD hS hl)
  · exact lv_icmp_gt G.1 G.2.1 hd ht (fun z => h.1 z H locs lsA hP hD hS hl) (fun z => h.2 z H locs lsA hP hD hS hl)
  · exact lv_icmp_le G.1 G.2.1 hd ht (fun z => h.1 z H locs lsA hP hD hS hl) (fun z => h.2 z H locs lsA hP hD hS hl)
theorem x_s_acmp (G : x_ctx X p R s m args meth c cc nL own ini rt fr lo mc ms) {o : ClassFile.ACond} {off : Int} {tgt : Nat} {x y : Value} (hd : decode cc pc = .ok (.if_acmp o off, 3)) (ht : (pc : Int) + off = (tgt : Int)) (hx : x_isr x) (hy : x_isr y)
    (h : x_ab o x y (x_go X p e R s m args below meth c nL mc ms RQ tgt ls t f nc ns) (x_go X p e R s m args below meth c nL mc ms RQ (pc + 3) ls t f nc ns)) : x_go X p e R s m args below meth c nL mc ms RQ pc ls (y :: x :: t) f nc ns := by
  intro H locs lsA hP hD hS hl
  obtain ⟨rx, rfl⟩ := x_isr_rf hx
  obtain ⟨ry, rfl⟩ := x_isr_rf hy
  cases o
  · exact lv_acmp_eq G.1 G.2.1 hd ht (fun z => h.1 (by rw [z]) H locs lsA hP hD hS hl) (fun z => h.2 (fun w => z (x_rf_inj w)) H locs lsA hP hD hS hl)
  · exact lv_acmp_ne G.1 G.2.1 hd ht (fun z => h.1 (fun w => z (x_rf_inj w)) H locs lsA hP hD hS hl) (fun z => h.2 (by rw [z]) H locs lsA hP hD hS hl)
/-- a field is read -/
def x_same (s : State) (ref : String) (t : String × String × String × Bool) : Prop := ∀ x, s.fieldFound? t.1 t.2.1 t.2.2.1 = some x → s.fieldFound? ref t.2.1 t.2.2.1 = some x
def x_lnk (own : String) (i : Nat) (t : String × String × String × Bool) : Prop :=
  ∃ ref, (Cond.fieldLink own i ref t.2.1 t.2.2.1 ∈ x_ws ∨ ∃ host, Cond.fieldLinkNest own i ref t.2.1 t.2.2.1 host ∈ lw_tbl) ∧ (ref = t.1 ∨ Cond.sameField ref t.1 t.2.1 t.2.2.1 ∈ x_ws)
theorem x_same_of {ref : String} {t : String × String × String × Bool} (hts : ∀ w ∈ x_ws, w.before args s = true) (h : ref = t.1 ∨ Cond.sameField ref t.1 t.2.1 t.2.2.1 ∈ x_ws) : x_same s ref t := by
  intro x hx
  rcases h with h | h
  · rw [h]; exact hx
  · exact u_same (hts _ h) x hx
theorem x_one_P {a ci : Nat} {fs : List Value} {H : Heap} (h : x_at X a (.inl (ci, fs)) H) : va_P X.2.1 x_cl [(a, .inr (ci, fs))] H := by
  intro k q hk
  cases k with
  | zero =>
    cases hk
    exact h
  | succ n => cases hk
theorem x_K.va (hK : x_K X s) : va_K X.2.1 x_cl [] s := ⟨hK.1, fun k q hk => by cases hk⟩
theorem x_s_get (G : x_ctx X p R s m args meth c cc nL own ini rt fr lo mc ms) {i k ci : Nat} {C : String} {T : u_T} {N : Nat} {a : Nat} {fs : List Value} {v : Value} (hd : decode cc pc = .ok (.getfield i, 3)) (hc : x_cl[ci]? = some (C, T, N)) (hk : k < N) (hlk : x_lnk own i (T k))
    (hf : f a = some (.inl (ci, fs))) (hv : fs[k]? = some v) (kk : x_go X p e R s m args below meth c nL mc ms RQ (pc + 3) ls (v :: t) f nc ns) : x_go X p e R s m args below meth c nL mc ms RQ pc ls (.ref a :: t) f nc ns := by
  intro H locs lsA hP hD hS hl
  obtain ⟨hx, hb, hml, hown, hts, hK, hz, -⟩ := G
  obtain ⟨ref, hlk, hsm⟩ := hlk
  rcases hlk with hlk | ⟨host, hlk⟩
  · exact va_get (D := X.2.1) (cl := x_cl) (tys := []) (ci := ci) (v := v) (C := C) (T := T) (N := N) hx hb hts (x_cl_ok ci C T N hc).1 hown hK.va (x_one_P (hP a _ hf)) 0 rfl hc k hk (hts _ hlk) (x_same_of hts hsm) hv hd (kk H locs lsA hP hD hS hl)
  · exact va_getN (D := X.2.1) (cl := x_cl) (tys := []) (ci := ci) (v := v) (C := C) (T := T) (N := N) hx hb hts (x_cl_ok ci C T N hc).1 hown hK.va (x_one_P (hP a _ hf)) 0 rfl hc k hk (va_Nw.use rfl (hK.2.2.1 _ hlk rfl)) (x_same_of hts hsm) hv hd (kk H locs lsA hP hD hS hl)
def x_ok (kd : Nat) (v : Value) : Prop := match v with
  | .int x => kd = 0 ∨ (kd = 1 ∧ (x = 0 ∨ x = 1))
  | .ref _ => kd = 2
  | .null => kd = 2
  | _ => False
/-- kinds of types -/
def x_kd (ty : FieldType) : Nat := match ty with
  | .int => 0
  | .boolean => 1
  | .object _ => 2
  | .array _ => 2
  | _ => 9
theorem x_ok_fits {ty : FieldType} {v : Value} (h : x_ok (x_kd ty) v) : narrow ty v = v ∧ fits ty v = true := by
  cases v with
  | int x =>
    have h : x_kd ty = 0 ∨ (x_kd ty = 1 ∧ (x = 0 ∨ x = 1)) := h
    cases ty <;> first
      | exact ⟨rfl, rfl⟩
      | (rcases h with h | ⟨-, rfl | rfl⟩
         · exact absurd h (by simp [x_kd])
         · exact ⟨by decide, by decide⟩
         · exact ⟨by decide, by decide⟩)
      | (rcases h with h | ⟨h, -⟩ <;> exact absurd h (by simp [x_kd]))
  | ref a =>
    have h : x_kd ty = 2 := h
    cases ty <;> first | exact ⟨rfl, rfl⟩ | exact absurd h (by simp [x_kd])
  | null =>
    have h : x_kd ty = 2 := h
    cases ty <;> first | exact ⟨rfl, rfl⟩ | exact absurd h (by simp [x_kd])
  | _ => exact h.elim
theorem x_s_put (G : x_ctx X p R s m args meth c cc nL own ini rt fr lo mc ms) {i k ci : Nat} {C : String} {T : u_T} {N : Nat} {a : Nat} {fs : List Value} {v : Value} {ty : FieldType} (hd : decode cc pc = .ok (.putfield i, 3)) (hc : x_cl[ci]? = some (C, T, N)) (hk : k < N) (hlk : x_lnk own i (T k))
    (hfin : (T k).2.2.2 = false ∨ ((T k).2.2.2 = true ∧ (T k).1 = own ∧ ini = true ∧ Cond.fieldLink own i own (T k).2.1 (T k).2.2.1 ∈ x_ws))
    (hty : parseFieldDescriptor (T k).2.2.1 = some ty) (hv : x_ok (x_kd ty) v) (hf : f a = some (.inl (ci, fs))) (hl0 : k < fs.length)
    (kk : x_go X p e R s m args below meth c nL mc ms RQ (pc + 3) ls t (va_up f a (some (.inl (ci, fs.set k v)))) nc ns) : x_go X p e R s m args below meth c nL mc ms RQ pc ls (v :: .ref a :: t) f nc ns := by
  intro H locs lsA hP hD hS hl
  obtain ⟨hx, hb, hml, hown, hts, hK, hz, -, -, hini, -⟩ := G
  obtain ⟨hin, ⟨ty0, hty0⟩, hnm⟩ := x_cl_ok ci C T N hc
  obtain ⟨hn, hfit⟩ := x_ok_fits hv
  have hap := va_apart (own := own) hts hin ty0 hty0 hnm hK.va hc
  obtain ⟨r, h1, cell, q1, q2, q3, q4⟩ := hP a _ hf
  have hr : r = (C, T, N) := Option.some.inj (h1.symm.trans hc)
  subst hr
  obtain ⟨hSl, hfc, kC, hkC, hkind⟩ := hK.1 ci _ hc
  obtain ⟨cf, kf, fi, fd, hi, hsl⟩ := hSl k hk
  have hlay := hts _ (hin _ (u_in_lay hk))
  have hst := (u_facts hfc hkC (u_lays hts hin hk) hi).1
  have hend : ∀ H1 : Heap, H1[a]? = some (cell.setSlot fd.slot v) → H1.size = H.size → (∀ q, q ≠ a → H1[q]? = H[q]?) → W p X.1 e R s m args below meth c H1 (locs ++ [⟨a, fd.slot⟩]) nc ns (MQ below (x_post X RQ) args s mc ms (x_A X)) (F0 m (pc + 3) lsA t) := by
    intro H1 e1 e2 e3
    rw [hsl] at e1 ⊢
    exact kk H1 _ lsA (hP.put ⟨_, hc, t_OB.to (V := updV (vp_V fs) k v) ⟨_, e1, q2, q3, t_set q4 hap hk v⟩ (fun j _ => vp_updV_set hl0 v j)⟩ e3) (hD.put (hD.obj hf)) (hS.put e2 e3 (hD.obj hf)) hl
  rcases hfin with hfin | ⟨hfin, hdecl, hin1, hlk1⟩
  · unfold u_lay at hlay
    rw [if_neg (by rw [hfin]; decide)] at hlay
    have h6 := u_store hfc hkC hkind hlay hi hty hn hfit
    obtain ⟨ref, hlk, hsm⟩ := hlk
    rcases hlk with hlk | ⟨host, hlk⟩
    · exact W.putK hx hb (f := fd) ⟨hown, hts _ hlk, ⟨_, _, _, x_same_of hts hsm _ hi⟩, hst⟩ (by rw [q2]; exact h6) q1 q3 (by rw [hsl]; exact k2_hasslot (q4 k hk)) rfl rfl hd hend
    · exact va_WputK hx hb (f := fd) hown (va_Nw.use rfl (hK.2.2.1 _ hlk rfl)) (x_same_of hts hsm _ hi) hst (by rw [q2]; exact h6) q1 q3 (by rw [hsl]; exact k2_hasslot (q4 k hk)) rfl rfl hd hend
  · unfold u_lay at hlay
    rw [if_pos hfin] at hlay
    have hcf : m.cls = cf := by
      obtain ⟨_, _, c', _, _, _, -, -, hf', -, -, -, hown2, -⟩ := Cond.laysFinal_spec hlay
      have e1 : c' = cf := by have := hi.symm.trans hf'; simp at this; exact this.1.symm
      rw [hdecl] at hown2
      rw [← e1]; exact Option.some.inj (hown.symm.trans hown2)
    have h6 := u_fits hfc hkC hkind (Or.inr hlay) hi hty hn hfit
    exact W.putFinK hx hb hown (hts _ hlk1) (by rw [← hdecl]; exact hi) hst hcf (hini hin1) (by rw [q2]; exact h6) q1 q3 (by rw [hsl]; exact k2_hasslot (q4 k hk)) rfl rfl hd hend
/-- arrays -/
theorem x_arr_in {i : Int32} {n : Nat} {cA : ClassId} {g : Nat → Value} (h : vp_in i n) : ¬ (i < 0 ∨ (arrV cA n g).slots.size ≤ i.toNatClampNeg) := by rw [arrV_size]; exact h
theorem x_arr_rd {i : Int32} {n : Nat} {cA : ClassId} {g : Nat → Value} (h : vp_in i n) : (arrV cA n g).slots[i.toNatClampNeg]? = some (g i.toNatClampNeg) := arrV_read _ _ (Nat.not_le.mp fun q => h (Or.inr q))
theorem x_s_alen (G : x_ctx X p R s m args meth c cc nL own ini rt fr lo mc ms) {a ti n : Nat} {g : Nat → Value} (hd : decode cc pc = .ok (.arraylength, 1)) (hf : f a = some (.inr (ti, n, g)))
    (kk : x_go X p e R s m args below meth c nL mc ms RQ (pc + 1) ls (.int (nI n) :: t) f nc ns) : x_go X p e R s m args below meth c nL mc ms RQ pc ls (.ref a :: t) f nc ns := by
  intro H locs lsA hP hD hS hl
  obtain ⟨hx, hb, hml, hown, hts, hK, hz, -⟩ := G
  rcases hP a _ hf with ⟨h1, h2⟩ | ⟨-, h3, h2⟩
  · exact W.alen hx hb h2 ((hK.2.1 ti _ (List.getElem?_eq_getElem h1)).1 n g) (by rw [arrV_size]; rfl) rfl rfl hd (kk H locs lsA hP hD hS hl)
  · have h3 : n = 0 := h3
    subst h3
    exact W.alen hx hb h2 hK.2.2.2.2.2.1.1 (by rw [hK.2.2.2.2.2.1.2]; rfl) rfl rfl hd (kk H locs lsA hP hD hS hl)
theorem x_s_ald (G : x_ctx X p R s m args meth c cc nL own ini rt fr lo mc ms) {q : ClassFile.Instr} {a ti n : Nat} {g : Nat → Value} {i : Int32} (hd : decode cc pc = .ok (q, 1)) (hf : f a = some (.inr (ti, n, g)))
    (hq : (q = .iaload ∧ x_ty[ti]? = some .int) ∨ (q = .baload ∧ x_ty[ti]? = some .boolean) ∨ (q = .aaload ∧ ∃ C, x_ty[ti]? = some (.object C))) (hi : vp_in i n)
    (kk : x_go X p e R s m args below meth c nL mc ms RQ (pc + 1) ls (g i.toNatClampNeg :: t) f nc ns) : x_go X p e R s m args below meth c nL mc ms RQ pc ls (.int i :: .ref a :: t) f nc ns := by
  intro H locs lsA hP hD hS hl
  obtain ⟨hx, hb, hml, hown, hts, hK, hz, -⟩ := G
  obtain ⟨h1, h2⟩ := hP.arr hf hi
  rcases hq with ⟨rfl, hty⟩ | ⟨rfl, hty⟩ | ⟨rfl, C, hty⟩
  · exact W.iald hx hb h2 ((hK.2.1 ti _ hty).1 n g) (fun q => by cases q) (x_arr_in hi) (x_arr_rd hi) rfl rfl hd (kk H locs lsA hP hD hS hl)
  · exact W.zald hx hb h2 ((hK.2.1 ti _ hty).1 n g) (fun q => by cases q) (x_arr_in hi) (x_arr_rd hi) rfl rfl hd (kk H locs lsA hP hD hS hl)
  · exact W.aald hx hb h2 ((hK.2.1 ti _ hty).1 n g) rfl (fun q => by cases q) (x_arr_in hi) (x_arr_rd hi) rfl rfl hd (kk H locs lsA hP hD hS hl)
theorem x_s_iast (G : x_ctx X p R s m args meth c cc nL own ini rt fr lo mc ms) {a ti n : Nat} {g : Nat → Value} {i x : Int32} (hd : decode cc pc = .ok (.iastore, 1)) (hf : f a = some (.inr (ti, n, g))) (hty : x_ty[ti]? = some .int) (hi : vp_in i n)
    (kk : x_go X p e R s m args below meth c nL mc ms RQ (pc + 1) ls t (va_up f a (some (.inr (ti, n, va_up g i.toNatClampNeg (.int x))))) nc ns) : x_go X p e R s m args below meth c nL mc ms RQ pc ls (.int x :: .int i :: .ref a :: t) f nc ns := by
  intro H locs lsA hP hD hS hl
  obtain ⟨hx, hb, hml, hown, hts, hK, hz, -⟩ := G
  obtain ⟨h1, h2⟩ := hP.arr hf hi
  refine W.iast hx hb h2 ((hK.2.1 ti _ hty).1 n g) (fun q => by cases q) (x_arr_in hi) rfl rfl hd fun H1 e1 z oq => ?_
  rw [arrV_store] at e1
  exact kk H1 _ lsA (hP.put (Or.inl ⟨h1, e1⟩) oq) (hD.put (hD.arr hf hi)) (hS.put z oq (hD.arr hf hi)) hl
theorem x_s_bast (G : x_ctx X p R s m args meth c cc nL own ini rt fr lo mc ms) {a ti n : Nat} {g : Nat → Value} {i x : Int32} (hd : decode cc pc = .ok (.bastore, 1)) (hf : f a = some (.inr (ti, n, g))) (hty : x_ty[ti]? = some .boolean) (hi : vp_in i n) (hv : x = 0 ∨ x = 1)
    (kk : x_go X p e R s m args below meth c nL mc ms RQ (pc + 1) ls t (va_up f a (some (.inr (ti, n, va_up g i.toNatClampNeg (.int x))))) nc ns) : x_go X p e R s m args below meth c nL mc ms RQ pc ls (.int x :: .int i :: .ref a :: t) f nc ns := by
  intro H locs lsA hP hD hS hl
  obtain ⟨hx, hb, hml, hown, hts, hK, hz, -⟩ := G
  obtain ⟨h1, h2⟩ := hP.arr hf hi
  have hn : narrow .boolean (.int x) = .int x := by rcases hv with rfl | rfl <;> decide
  refine W.zast hx hb h2 ((hK.2.1 ti _ hty).1 n g) (fun q => by cases q) (x_arr_in hi) rfl rfl hd fun H1 e1 z oq => ?_
  rw [hn, arrV_store] at e1
  exact kk H1 _ lsA (hP.put (Or.inl ⟨h1, e1⟩) oq) (hD.put (hD.arr hf hi)) (hS.put z oq (hD.arr hf hi)) hl
theorem x_s_aastN (G : x_ctx X p R s m args meth c cc nL own ini rt fr lo mc ms) {a ti n : Nat} {g : Nat → Value} {i : Int32} {C : String} (hd : decode cc pc = .ok (.aastore, 1)) (hf : f a = some (.inr (ti, n, g))) (hty : x_ty[ti]? = some (.object C)) (hi : vp_in i n)
    (kk : x_go X p e R s m args below meth c nL mc ms RQ (pc + 1) ls t (va_up f a (some (.inr (ti, n, va_up g i.toNatClampNeg .null)))) nc ns) : x_go X p e R s m args below meth c nL mc ms RQ pc ls (.null :: .int i :: .ref a :: t) f nc ns := by
  intro H locs lsA hP hD hS hl
  obtain ⟨hx, hb, hml, hown, hts, hK, hz, -⟩ := G
  obtain ⟨h1, h2⟩ := hP.arr hf hi
  refine va_WaastN (C := C) hx hb h2 ((hK.2.1 ti _ hty).1 n g) (fun q => by cases q) (x_arr_in hi) rfl rfl hd fun H1 e1 z oq => ?_
  rw [arrV_store] at e1
  exact kk H1 _ lsA (hP.put (Or.inl ⟨h1, e1⟩) oq) (hD.put (hD.arr hf hi)) (hS.put z oq (hD.arr hf hi)) hl
theorem x_s_aast (G : x_ctx X p R s m args meth c cc nL own ini rt fr lo mc ms) {a b ti n ci : Nat} {g : Nat → Value} {fs : List Value} {i : Int32} {E : String} {r : vw_C} (hd : decode cc pc = .ok (.aastore, 1)) (hf : f a = some (.inr (ti, n, g))) (hty : x_ty[ti]? = some (.object E)) (hi : vp_in i n) (hb0 : f b = some (.inl (ci, fs))) (hc : x_cl[ci]? = some r) (hca : r.1 = E ∨ Cond.castable r.1 E ∈ lw_tbl)
    (kk : x_go X p e R s m args below meth c nL mc ms RQ (pc + 1) ls t (va_up f a (some (.inr (ti, n, va_up g i.toNatClampNeg (.ref b))))) nc ns) : x_go X p e R s m args below meth c nL mc ms RQ pc ls (.ref b :: .int i :: .ref a :: t) f nc ns := by
  intro H locs lsA hP hD hS hl
  obtain ⟨hx, hb, hml, hown, hts, hK, hz, -⟩ := G
  obtain ⟨h1, h2⟩ := hP.arr hf hi
  obtain ⟨r', hr', cellV, g1, g2, g3, -⟩ := hP b _ hb0
  have hcls := (hK.1 ci r hc).2
  obtain ⟨kA, comp, k1, k2, k3, -⟩ := (hK.2.1 ti _ hty).2
  obtain ⟨kE, hkE, -⟩ := Vm.findClass_spec k3
  obtain ⟨kC, hkC, -⟩ := hcls.2
  have hasg : s.vm.assignable (X.2.1.1 ci) comp = true := by
    rcases hca with h | h
    · exact vb_asgS comp _ k3 (h ▸ hcls.1)
    · exact vb_asgC (hK.2.2.1 _ h rfl) comp _ k3 hcls.1
  refine W.aast hx hb h2 (fun q h => by cases h) (fun h => by cases h) k1 k2 rfl hkE ⟨fun q => hi (Or.inl q), by rw [arrV_size]; exact Nat.not_le.mp fun q => hi (Or.inr q)⟩ g1 (fun q h => by rw [g3] at h; cases h) (by rw [g2]; exact hkC) (by rw [g2]; exact hasg) rfl rfl hd fun H1 e1 z oq => ?_
  rw [arrV_store] at e1
  exact kk H1 _ lsA (hP.put (Or.inl ⟨h1, e1⟩) oq) (hD.put (hD.arr hf hi)) (hS.put z oq (hD.arr hf hi)) hl
/-- new cells -/
theorem x_up_S {H H1 : Heap} {locs : List Loc} (hS : va_S (x_A X) s.heap H locs) (hz1 : H1.size = H.size + 1) (oq : ∀ q, q < H.size → H1[q]? = H[q]?) : va_S (x_A X) s.heap H1 locs :=
  ⟨Nat.le_trans hS.1 (by omega), fun x h1 h2 => (oq x (Nat.lt_of_lt_of_le h1 hS.1)).trans (hS.2.1 x h1 h2), hS.2.2⟩
theorem x_s_new (G : x_ctx X p R s m args meth c cc nL own ini rt fr lo mc ms) {i ci : Nat} {C : String} {T : u_T} {N : Nat} {fs : List Value} (hd : decode cc pc = .ok (.new i, 3)) (hc : x_cl[ci]? = some (C, T, N)) (hcl : Cond.classLink own i C ∈ x_ws) (hinst : Cond.instantiable C N ∈ x_ws) (hini : Cond.initialized C ∈ x_ws)
    (ty : Nat → FieldType) (hty : ∀ k, k < N → parseFieldDescriptor (T k).2.2.1 = some (ty k)) (hfs : ∀ j, j < N → defaultValue (ty j) = vp_V fs j) (hlen : fs.length = N) (h1 : nc + 1 ≤ mc) (h2 : ns + fs.length ≤ ms)
    (kk : ∀ q : Nat, f q = none → x_go X p e R s m args below meth c nL mc ms RQ (pc + 3) ls (.ref q :: st) (va_up f q (some (.inl (ci, fs)))) (nc + 1) (ns + fs.length)) : x_go X p e R s m args below meth c nL mc ms RQ pc ls st f nc ns := by
  intro H locs lsA hP hD hS hl
  obtain ⟨hx, hb, hml, hown, hts, hK, hz, -, -, -, hZ, rfl⟩ := G
  subst hlen
  have hKn := hK.1 ci _ hc
  refine W.newcK hx hb hown (hts _ hcl) (hts _ hinst) (hts _ hini) rfl hd h1 h2 hKn.2.1 rfl fun H1 kC hkC e1 z1 o1 => ?_
  exact kk H.size hP.fresh H1 locs lsA (hP.new ⟨_, hc, (u_born ty hts (x_cl_ok ci C T _ hc).1 hKn hkC e1 hty).to hfs⟩ o1) (hD.put (Nat.le_trans hz hS.1)) (x_up_S hS z1 o1) hl
theorem x_s_newa (G : x_ctx X p R s m args meth c cc nL own ini rt fr lo mc ms) {ti : Nat} {aty : ClassFile.ArrayType} {n : Int32} (hd : decode cc pc = .ok (.newarray aty, 2)) (hty : x_ty[ti]? = some (newarray.typeOf aty)) (haty : aty = .int ∨ aty = .boolean) (hac : Cond.arrayClass (newarray.typeOf aty) ∈ x_ws) (hn : ¬ n < 0) (hn2 : n.toNatClampNeg ≤ 1000000) (h1 : nc + 1 ≤ mc) (h2 : ns + n.toNatClampNeg ≤ ms)
    (kk : ∀ q : Nat, f q = none → x_go X p e R s m args below meth c nL mc ms RQ (pc + 2) ls (.ref q :: t) (va_up f q (some (.inr (ti, n.toNatClampNeg, fun _ => .int 0)))) (nc + 1) (ns + n.toNatClampNeg)) : x_go X p e R s m args below meth c nL mc ms RQ pc ls (.int n :: t) f nc ns := by
  intro H locs lsA hP hD hS hl
  obtain ⟨hx, hb, hml, hown, hts, hK, hz, -, -, -, hZ, rfl⟩ := G
  have hlt : ti < x_ty.length := (List.getElem?_eq_some_iff.mp hty).1
  refine va_newaK hx hb (hts _ hac) rfl hd rfl hn rfl (by rcases haty with rfl | rfl <;> (show _ * _ ≤ _; simp only [componentBytes, newarray.typeOf]; omega)) h1 h2 rfl fun H1 cA e1 z1 o1 hAr hNm => ?_
  have hcA : cA = X.2.2.1 ti := by
    have h := (hK.2.1 ti _ hty).2
    rcases haty with rfl | rfl <;> exact Option.some.inj (hNm.symm.trans h)
  subst hcA
  exact kk H.size hP.fresh H1 locs lsA (hP.new (Or.inl ⟨hlt, by rcases haty with rfl | rfl <;> exact e1⟩) o1) (hD.put (Nat.le_trans hz hS.1)) (x_up_S hS z1 o1) hl
theorem x_s_newq (G : x_ctx X p R s m args meth c cc nL own ini rt fr lo mc ms) {i ti : Nat} {C : String} {n : Int32} (hd : decode cc pc = .ok (.anewarray i, 3)) (hty : x_ty[ti]? = some (.object C)) (hcl : Cond.classLink own i C ∈ x_ws) (hao : C ∈ x_ao) (hn : ¬ n < 0) (hn2 : n.toNatClampNeg ≤ 1000000) (h1 : nc + 1 ≤ mc) (h2 : ns + n.toNatClampNeg ≤ ms)
    (kk : ∀ q : Nat, f q = none → x_go X p e R s m args below meth c nL mc ms RQ (pc + 3) ls (.ref q :: t) (va_up f q (some (.inr (ti, n.toNatClampNeg, fun _ => .null)))) (nc + 1) (ns + n.toNatClampNeg)) : x_go X p e R s m args below meth c nL mc ms RQ pc ls (.int n :: t) f nc ns := by
  intro H locs lsA hP hD hS hl
  obtain ⟨hx, hb, hml, hown, hts, hK, hz, -, -, -, hZ, rfl⟩ := G
  have hlt : ti < x_ty.length := (List.getElem?_eq_some_iff.mp hty).1
  refine W.anew hx hb hown (hts _ hcl) (va_AO.use (hK.2.2.2.1 C hao)) rfl hd rfl hn (by omega) h1 h2 fun cA kA comp f1 f2 f3 f4 => ?_
  obtain ⟨kA', comp', k1, k2, k3, k4⟩ := (hK.2.1 ti _ hty).2
  have hcA : cA = X.2.2.1 ti := Option.some.inj (f1.symm.trans k4)
  subst hcA
  generalize hH1 : H.push ({ cls := X.2.2.1 ti, slots := Array.replicate n.toNatClampNeg .null, vm := .none } : Cell) = H1
  have z1 : H1.size = H.size + 1 := by rw [← hH1, Array.size_push]
  have e1 : H1[H.size]? = some (arrV (X.2.2.1 ti) n.toNatClampNeg (fun _ => .null)) := by rw [← hH1, Array.getElem?_push_size, ← arrV_new]
  have o1 : ∀ q : Nat, q < H.size → H1[q]? = H[q]? := fun q hq => by rw [← hH1, Array.getElem?_push, if_neg (Nat.ne_of_lt hq)]
  exact kk H.size hP.fresh H1 locs lsA (hP.new (Or.inl ⟨hlt, e1⟩) o1) (hD.put (Nat.le_trans hz hS.1)) (x_up_S hS z1 o1) hl
/-- casts -/
theorem x_recv {a ci : Nat} {fs : List Value} {H : Heap} {r : vw_C} (hK : x_K X s) (h : x_at X a (.inl (ci, fs)) H) (hc : x_cl[ci]? = some r) : ∃ cell : Cell, H[a]? = some cell ∧ cell.vm.isStatics = false ∧ s.vm.findClass r.1 = some cell.cls := by
  obtain ⟨r', h1, cell, g1, g2, g3, -⟩ := h
  exact ⟨cell, g1, by rw [g3]; rfl, by rw [g2]; exact (hK.1 ci r hc).2.1⟩
theorem x_s_cast (G : x_ctx X p R s m args meth c cc nL own ini rt fr lo mc ms) {i a ci : Nat} {fs : List Value} {nm : String} {r : vw_C} (hd : decode cc pc = .ok (.checkcast i, 3)) (hcl : Cond.classLink own i nm ∈ x_ws) (hf : f a = some (.inl (ci, fs))) (hc : x_cl[ci]? = some r) (hca : r.1 = nm ∨ Cond.castable r.1 nm ∈ lw_tbl)
    (kk : x_go X p e R s m args below meth c nL mc ms RQ (pc + 3) ls (.ref a :: t) f nc ns) : x_go X p e R s m args below meth c nL mc ms RQ pc ls (.ref a :: t) f nc ns := by
  intro H locs lsA hP hD hS hl
  obtain ⟨hx, hb, hml, hown, hts, hK, hz, -⟩ := G
  have hr := x_recv hK (hP a _ hf) hc
  rcases hca with h | h
  · subst h
    exact va_castS hx hb hown (hts _ hcl) (hK.1 ci r hc).2 hr hd (kk H locs lsA hP hD hS hl)
  · exact va_castY hx hb hown (hts _ hcl) (hK.2.2.1 _ h rfl) hr hd (kk H locs lsA hP hD hS hl)
theorem x_s_inst (G : x_ctx X p R s m args meth c cc nL own ini rt fr lo mc ms) {i a ci : Nat} {fs : List Value} {nm : String} {r : vw_C} (hd : decode cc pc = .ok (.instanceof i, 3)) (hcl : Cond.classLink own i nm ∈ x_ws) (hf : f a = some (.inl (ci, fs))) (hc : x_cl[ci]? = some r)
    (hk : ((r.1 = nm ∨ Cond.castable r.1 nm ∈ lw_tbl) ∧ x_go X p e R s m args below meth c nL mc ms RQ (pc + 3) ls (.int 1 :: t) f nc ns) ∨ ((r.1, nm) ∈ x_nc ∧ x_go X p e R s m args below meth c nL mc ms RQ (pc + 3) ls (.int 0 :: t) f nc ns)) : x_go X p e R s m args below meth c nL mc ms RQ pc ls (.ref a :: t) f nc ns := by
  intro H locs lsA hP hD hS hl
  obtain ⟨hx, hb, hml, hown, hts, hK, hz, -⟩ := G
  have hr := x_recv hK (hP a _ hf) hc
  rcases hk with ⟨h | h, kk⟩ | ⟨h, kk⟩
  · subst h
    exact va_instS hx hb hown (hts _ hcl) (hK.1 ci r hc).2 hr hd (kk H locs lsA hP hD hS hl)
  · exact va_instY hx hb hown (hts _ hcl) (hK.2.2.1 _ h rfl) hr hd (kk H locs lsA hP hD hS hl)
  · exact va_instNo hx hb hown (hts _ hcl) (hK.2.2.2.2.1 _ h) hr hd (kk H locs lsA hP hD hS hl)
/-- calls -/
theorem x_blind {av : List Value} {f : XH} : FrameBlind (x_pre X av f) := fun a U g mk q => ⟨q.1, q.2.1, q.2.2.1, x_K.warm (s := U) (U := U.calling g mk a) (State.WarmedH.refl U) q.2.2.2.1, q.2.2.2.2.1, va_Z.moved (u := U) (U := U.calling g mk a) (Vm.Alike.refl U.vm) q.2.2.2.2.2⟩
theorem x_after {H : Heap} {locs : List Loc} {lsA : Array Slot} {mc' ms' : Nat} {st0 rest : List Value} {a : Array Value} {Q' : Option Value → XH → Prop} (hr : va_Run p X.1 e R s m args below meth c H locs nc ns mc' ms' (F0 m pc lsA st0) rest (x_post X Q' a) (x_A X)) (hS : va_S (x_A X) s.heap H locs) (hl : x_has lsA nL ls)
    (kk : ∀ r f', Q' r f' → x_go X p e R s m args below meth c nL mc ms RQ (pc + 3) ls (r.toList ++ rest) f' (nc + mc') (ns + ms')) : W p X.1 e R s m args below meth c H locs nc ns (MQ below (x_post X RQ) args s mc ms (x_A X)) (F0 m pc lsA st0) := by
  intro T hT X0
  obtain ⟨v, st₀, t, T', L, h0, X', hL, e1, e2, ⟨⟨r, f', hv, hq, hp, hd⟩, hz, hk⟩, st⟩ := hr T hT X0
  cases hv
  rw [h0] at hz hk
  have hS' : va_S (x_A X) s.heap T'.heap (locs ++ L) := by
    refine ⟨Nat.le_trans hS.1 (by rw [e1]; exact hz), fun q h1 h2 => ?_, fun q hq => ?_⟩
    · rw [e1, hk q (Nat.lt_of_lt_of_le h1 hS.1) h2]
      exact hS.2.1 q h1 h2
    · rcases List.mem_append.mp hq with h | h
      · exact hS.2.2 q h
      · exact hL q h
  obtain ⟨t2, a1, b1⟩ := kk _ f' hq T'.heap (locs ++ L) lsA (by rw [e1]; exact hp) hd hS' hl T' rfl X'
  exact ⟨t2, st t2 a1, b1⟩
theorem x_goodC {y : Nat} (h : x_mc y ∈ x_ws) : GoodIn x_ws (x_mw y) := by
  intro w hw
  rcases List.mem_cons.mp hw with h1 | h1
  · subst h1
    exact ⟨h, x_good_or (List.mem_filter.mp h).2⟩
  · exact ⟨h1, x_good_or (List.mem_filter.mp h1).2⟩
def x_ms (y n : Nat) : Prop := x_mc y ∈ x_ws ∧ Cond.initialized (x_mt y).1.cls ∈ x_ws ∧ ((x_mt y).1.cls ≠ "java/lang/invoke/MethodHandle" ∧ (x_mt y).1.cls ≠ "java/lang/invoke/VarHandle" ∧ (parseMethodDescriptor (x_mt y).1.desc).map (fun d => d.parameters.length) = some n)
def x_ml (own : String) (i y : Nat) : Prop := Cond.methodLink own i (x_mt y).1 ∈ x_ws ∨ ∃ host, Cond.methodLinkNest own i (x_mt y).1 host ∈ lw_tbl
def x_ss (own : String) (i y n : Nat) : Prop := x_ms y n ∧ Cond.static (x_mt y).1 ∈ x_ws ∧ x_ml own i y
def x_si (own : String) (i y n : Nat) : Prop := x_ms y n ∧ ((x_mt y).1.name = "<init>" ∧ (x_mt y).2.2.2 = none) ∧ Cond.instanceMethod (x_mt y).1 ∈ x_ws ∧ x_ml own i y
def x_sv (own : String) (i n ci y : Nat) : Prop := x_ms y n ∧ Cond.instanceMethod (x_mt y).1 ∈ x_ws ∧ ∃ r : vw_C, x_cl[ci]? = some r ∧ ((Cond.selects r.1 (x_mt y).1 (x_mt y).1 ∈ x_ws ∧ x_ml own i y) ∨
  ∃ (x : MethodName) (owner : String), Cond.methodLink own i x ∈ x_ws ∧ Cond.sameMethod x.cls owner x.name x.desc ∈ x_ws ∧ Cond.selects r.1 x (x_mt y).1 ∈ x_ws ∧ (owner ≠ "java/lang/invoke/MethodHandle" ∧ owner ≠ "java/lang/invoke/VarHandle" ∧ (parseMethodDescriptor x.desc).map (fun d => d.parameters.length) = some n) ∧ ((x_mt y).1 = ⟨owner, x.name, x.desc⟩ ∨ Cond.declares ⟨owner, x.name, x.desc⟩ ∈ lw_tbl))
theorem x_preS {av : List Value} {H : Heap} {locs : List Loc} (hK : x_K X s) (hZ : x_Z X s s.heap) (hz : x_z X ≤ s.heap.size) (hP : x_P X f H) (hD : x_D X f) (hS : va_S (x_A X) s.heap H locs) : PreS s H (x_pre X av f) av :=
  ⟨x_blind, fun U hU hW => ⟨rfl, by rw [hU]; exact hP, hD, hK.warm hW, by rw [hU]; exact Nat.le_trans hz hS.1, by rw [hU]; exact (va_Z.moved hW.alike hZ).kept hS.2.1⟩⟩
theorem x_s_static (G : x_ctx X p R s m args meth c cc nL own ini rt fr lo mc ms) {i y n : Nat} (hd : decode cc pc = .ok (.invokestatic i, 3)) (hs : x_ss own i y n) (hn : n ≤ st.length) (h4 : (st.drop n).length ≤ 4)
    (h : x_call X fr lo mc ms y (st.take n).reverse f nc ns fun r f' nc' ns' => x_go X p e R s m args below meth c nL mc ms RQ (pc + 3) ls (r.toList ++ st.drop n) f' nc' ns') : x_go X p e R s m args below meth c nL mc ms RQ pc ls st f nc ns := by
  intro H locs lsA hP hD hS hl
  obtain ⟨fr', lo', mc', ms', Q', hM, ⟨h1, h2, h3, h5⟩, kk⟩ := h
  obtain ⟨hx, hb, hml, hown, hts, hK, hz, -, -, -, hZ, rfl⟩ := G
  obtain ⟨⟨hcode, hini, hpar⟩, hst, hlk⟩ := hs
  have hstk : st = (st.take n).reverse.reverse ++ st.drop n := by rw [List.reverse_reverse, List.take_append_drop]
  rcases hlk with hlk | ⟨host, hlk⟩
  · exact x_after (va_runS (g := F0 m pc lsA st) ⟨hx, hb, hml, hown, hts⟩ hM ⟨callB_of n hts (x_goodC hcode) rfl rfl rfl (hts _ hini) (hts _ hlk) hpar ⟨h1, h2⟩, hts _ hst⟩ (x_preS hK hZ hz hP hD hS) rfl (by simp [hn]) hl.1 hstk (x_room h4) hd ⟨h3, h5⟩) hS hl kk
  · exact x_after (va_runSN (g := F0 m pc lsA st) ⟨hx, hb, hml, hown, hts⟩ hM ⟨va_cnB n hts (x_goodC hcode) rfl rfl rfl (hK.2.2.1 _ hlk rfl) (hts _ hini) hpar ⟨h1, h2⟩, hts _ hst, trivial⟩ (x_preS hK hZ hz hP hD hS) rfl (by simp [hn]) hl.1 hstk (x_room h4) hd ⟨h3, h5⟩) hS hl kk
theorem x_s_init (G : x_ctx X p R s m args meth c cc nL own ini rt fr lo mc ms) {i y n b : Nat} {rest : List Value} (hd : decode cc pc = .ok (.invokespecial i, 3)) (hs : x_si own i y n) (hn : n ≤ st.length) (hr : st.drop n = .ref b :: rest) (h4 : rest.length ≤ 4)
    (h : x_call X fr lo mc ms y (.ref b :: (st.take n).reverse) f nc ns fun r f' nc' ns' => x_go X p e R s m args below meth c nL mc ms RQ (pc + 3) ls (r.toList ++ rest) f' nc' ns') : x_go X p e R s m args below meth c nL mc ms RQ pc ls st f nc ns := by
  intro H locs lsA hP hD hS hl
  obtain ⟨fr', lo', mc', ms', Q', hM, ⟨h1, h2, h3, h5⟩, kk⟩ := h
  obtain ⟨hx, hb, hml, hown, hts, hK, hz, -, -, -, hZ, rfl⟩ := G
  obtain ⟨⟨hcode, hini, hpar⟩, ⟨hnm, hret⟩, hinst, hlk⟩ := hs
  have hstk : st = (st.take n).reverse.reverse ++ .ref b :: rest := by rw [List.reverse_reverse, ← hr, List.take_append_drop]
  have hw : x_mw y = Cond.code (x_mt y).1 (x_mt y).2.1 (x_mt y).2.2.1 none :: x_ws := by unfold x_mw; rw [hret]
  rcases hlk with hlk | ⟨host, hlk⟩
  · exact x_after (va_runI (g := F0 m pc lsA st) ⟨hx, hb, hml, hown, hts⟩ hM ⟨callB_of n hts (x_goodC hcode) hw rfl rfl (hts _ hini) (hts _ hlk) hpar ⟨h1, h2⟩, hnm, hts _ hinst⟩ (x_preS hK hZ hz hP hD hS) rfl (by simp [hn]) hl.1 hstk (x_room h4) hd ⟨h3, h5⟩) hS hl kk
  · exact x_after (va_runIN (g := F0 m pc lsA st) ⟨hx, hb, hml, hown, hts⟩ hM ⟨va_cnB n hts (x_goodC hcode) hw rfl rfl (hK.2.2.1 _ hlk rfl) (hts _ hini) hpar ⟨h1, h2⟩, hnm, hts _ hinst⟩ (x_preS hK hZ hz hP hD hS) rfl (by simp [hn]) hl.1 hstk (x_room h4) hd ⟨h3, h5⟩) hS hl kk
theorem x_s_virt (G : x_ctx X p R s m args meth c cc nL own ini rt fr lo mc ms) {i y n b ci : Nat} {fs rest : List Value} (hd : decode cc pc = .ok (.invokevirtual i, 3)) (hs : x_sv own i n ci y) (hn : n ≤ st.length) (hr : st.drop n = .ref b :: rest) (h4 : rest.length ≤ 4) (hf : f b = some (.inl (ci, fs)))
    (h : x_call X fr lo mc ms y (.ref b :: (st.take n).reverse) f nc ns fun r f' nc' ns' => x_go X p e R s m args below meth c nL mc ms RQ (pc + 3) ls (r.toList ++ rest) f' nc' ns') : x_go X p e R s m args below meth c nL mc ms RQ pc ls st f nc ns := by
  intro H locs lsA hP hD hS hl
  obtain ⟨fr', lo', mc', ms', Q', hM, ⟨h1, h2, h3, h5⟩, kk⟩ := h
  obtain ⟨hx, hb, hml, hown, hts, hK, hz, -, -, -, hZ, rfl⟩ := G
  obtain ⟨⟨hcode, hini, hpar⟩, hinst, r, hc, hs⟩ := hs
  have hstk : st = (st.take n).reverse.reverse ++ .ref b :: rest := by rw [List.reverse_reverse, ← hr, List.take_append_drop]
  have hpS := x_preS (av := .ref b :: (st.take n).reverse) hK hZ hz hP hD hS
  have hpV : PreV s H r.1 b (x_pre X (.ref b :: (st.take n).reverse) f) (st.take n).reverse := ⟨hpS.1, x_recv hK (hP b _ hf) hc, hpS.2⟩
  rcases hs with ⟨hsel, hlk | ⟨host, hlk⟩⟩ | ⟨x, owner, hlk, hsm, hsel, hpar2, hdecl⟩
  · exact x_after (va_runV (g := F0 m pc lsA st) ⟨hx, hb, hml, hown, hts⟩ hM ⟨callB_of n hts (x_goodC hcode) rfl rfl rfl (hts _ hini) (hts _ hlk) hpar ⟨h1, h2⟩, hts _ hinst, hts _ hsel⟩ hpV rfl (by simp [hn]) hl.1 hstk (x_room h4) hd ⟨h3, h5⟩) hS hl kk
  · exact x_after (va_runVN (g := F0 m pc lsA st) ⟨hx, hb, hml, hown, hts⟩ hM ⟨va_cnB n hts (x_goodC hcode) rfl rfl rfl (hK.2.2.1 _ hlk rfl) (hts _ hini) hpar ⟨h1, h2⟩, hts _ hinst, hts _ hsel⟩ hpV rfl (by simp [hn]) hl.1 hstk (x_room h4) hd ⟨h3, h5⟩) hS hl kk
  · have hDc : va_Decl s ⟨owner, x.name, x.desc⟩ := by
      rcases hdecl with h | h
      · rw [← h]; exact va_Decl.of (hts _ hinst) (hts _ hcode)
      · exact va_Decl.abs (hK.2.2.1 _ h rfl)
    exact x_after (va_runU (g := F0 m pc lsA st) (owner := owner) (x := x) ⟨hx, hb, hml, hown, hts⟩ hM ⟨⟨rfl, rfl, h1, h2, pay_in hts (x_goodC hcode), List.mem_cons_self⟩, hts _ hcode, hts _ hini, ⟨hpar2.1, hpar2.2.1⟩, fun sig hsg => by have h9 := hpar2.2.2; rw [hsg] at h9; exact (Option.some.inj h9).symm, hts _ hlk, hts _ hsm, hDc, hts _ hsel, hts _ hinst⟩ hpV rfl (by simp [hn]) hl.1 hstk (x_room h4) hd ⟨h3, h5⟩) hS hl kk
/-- System.arraycopy, getClass() of an array of Objects -/
def x_sc (own : String) (i ti : Nat) : Prop := x_ty[ti]? = some (.object "java/lang/Object") ∧ Cond.methodLink own i arraycopyName ∈ x_ws ∧ Cond.native arraycopyName ∈ x_ws ∧ Cond.static arraycopyName ∈ x_ws ∧ Cond.initialized "java/lang/System" ∈ x_ws
def x_gcn : MethodName := ⟨"java/lang/Object", "getClass", "()Ljava/lang/Class;"⟩
def x_sg (own : String) (i ti : Nat) : Prop := x_ty[ti]? = some (.object "java/lang/Object") ∧ Cond.methodLink own i x_gcn ∈ x_ws ∧ Cond.declares x_gcn ∈ lw_tbl ∧ Cond.selects "[Ljava/lang/Object;" x_gcn x_gcn ∈ x_ws ∧ Cond.instanceMethod x_gcn ∈ x_ws ∧ Cond.native x_gcn ∈ x_ws
theorem x_99 : x_ty[99]? = none := by decide
theorem x_P.arrT {H : Heap} (h : x_P X f H) {a ti n : Nat} {g : Nat → Value} {ty : FieldType} (hf : f a = some (.inr (ti, n, g))) (hty : x_ty[ti]? = some ty) : ti < x_ty.length ∧ H[a]? = some (arrV (X.2.2.1 ti) n g) := by
  rcases h a _ hf with h | ⟨h, -, -⟩
  · exact h
  · have h : ti = 99 := h
    subst h
    rw [x_99] at hty
    cases hty
theorem x_D.arrT (h : x_D X f) {a ti n : Nat} {g : Nat → Value} {ty : FieldType} (hf : f a = some (.inr (ti, n, g))) (hty : x_ty[ti]? = some ty) : x_A X a := by
  rcases h a _ hf with h | ⟨g, h⟩
  · exact h
  · cases h
    rw [x_99] at hty
    cases hty
theorem x_s_getC (G : x_ctx X p R s m args meth c cc nL own ini rt fr lo mc ms) {i a ti n : Nat} {g : Nat → Value} (hd : decode cc pc = .ok (.invokevirtual i, 3)) (hs : x_sg own i ti) (hf : f a = some (.inr (ti, n, g))) (h4 : t.length ≤ 4) (hfr : 1 ≤ fr) (hlo : 30 ≤ lo)
    (kk : x_go X p e R s m args below meth c nL mc ms RQ (pc + 3) ls (.ref (x_k X 1) :: t) f nc ns) : x_go X p e R s m args below meth c nL mc ms RQ pc ls (.ref a :: t) f nc ns := by
  intro H locs lsA hP hD hS hl
  obtain ⟨hx, hb, hml, hown, hts, hK, hz, -, -, -, hZ, rfl⟩ := G
  obtain ⟨hty, g1, g2, g3, g4, g5⟩ := hs
  obtain ⟨h1, h2⟩ := hP.arrT hf hty
  have hn := va_nmO (nm := "[Ljava/lang/Object;") (hK.2.1 ti _ hty).2 (by decide +kernel)
  have h5 := x_room (m := m) (pc := pc) (ls := lsA) (rest := t) h4
  exact va_getC hx hb (by rw [hml]; exact hl.1.symm) hown (hts _ g1) (va_Nw.use rfl (hK.2.2.1 _ g2 rfl)) (hts _ g3) (hts _ g4) (hts _ g5) hK.2.2.2.2.2.2 ⟨_, h2, rfl, hn⟩ hfr (by show _ ≤ lo; have : 2 * (F0 m pc lsA t).monitorRoom = 0 := rfl; omega) hd (kk H locs lsA hP hD hS hl)
theorem x_s_cpy (G : x_ctx X p R s m args meth c cc nL own ini rt fr lo mc ms) {i d s0 ti n0 n1 : Nat} {g0 g1 : Nat → Value} {sp dp n : Int32} (hd : decode cc pc = .ok (.invokestatic i, 3)) (hs : x_sc own i ti) (hf0 : f s0 = some (.inr (ti, n0, g0))) (hf1 : f d = some (.inr (ti, n1, g1)))
    (h1 : ¬ sp < 0) (h2 : ¬ dp < 0) (h3 : ¬ n < 0) (h4 : sp.toNatClampNeg + n.toNatClampNeg ≤ n0) (h5 : dp.toNatClampNeg + n.toNatClampNeg ≤ n1) (hel : ∀ j, j < n.toNatClampNeg → x_elo f (g0 (sp.toNatClampNeg + j))) (ht4 : t.length ≤ 4) (hfr : 1 ≤ fr) (hlo : 60 ≤ lo)
    (kk : x_go X p e R s m args below meth c nL mc ms RQ (pc + 3) ls t (va_up f d (some (.inr (ti, n1, va_cpy g0 g1 sp.toNatClampNeg dp.toNatClampNeg n.toNatClampNeg)))) nc ns) : x_go X p e R s m args below meth c nL mc ms RQ pc ls (.int n :: .int dp :: .ref d :: .int sp :: .ref s0 :: t) f nc ns := by
  have nn : ∀ z : Int32, ¬ z < 0 → z.toInt = (z.toNatClampNeg : Int) := by
    intro z hz
    have hz0 : (0 : Int) ≤ z.toInt := by
      have := Int32.not_lt.mp hz
      simpa using Int32.le_iff_toInt_le.mp this
    show z.toInt = ((z.toInt.toNat : Nat) : Int)
    omega
  intro H locs lsA hP hD hS hl T hT X0
  obtain ⟨hx, hb, hml, hown, hts, hK, hz, -, -, -, hZ, rfl⟩ := G
  obtain ⟨hty, w1, w2, w3, w4⟩ := hs
  obtain ⟨hl0, hc0⟩ := hP.arrT hf0 hty
  obtain ⟨hl1, hc1⟩ := hP.arrT hf1 hty
  have hAd := hD.arrT hf1 hty
  obtain ⟨kA, comp, r1, r2, r3, -⟩ := (hK.2.1 ti _ hty).2
  obtain ⟨kE, hkE, -⟩ := Vm.findClass_spec r3
  have h6 := x_room (m := m) (pc := pc) (ls := lsA) (rest := t) ht4
  have hw : nativeFrameWords "java/lang/System" "arraycopy" 5 + 11 ≤ 40 := by decide
  obtain ⟨vm', X', step⟩ := X0.arraycopy hx hown (hts _ w1) (hts _ w2) (hts _ w3) (hts _ w4) (src := s0) (dst := d) (cs := arrV (X.2.2.1 ti) n0 g0) (cd := arrV (X.2.2.1 ti) n1 g1) (srcPos := sp) (destPos := dp) (n := n) (by rw [hT]; exact hc0) (by rw [hT]; exact hc1)
    (fun _ h => by cases h) (fun _ h => by cases h) (fun h => by cases h) (fun h => by cases h) r1 r1 r2 r2 rfl h1 h2 h3
    (by rw [nn sp h1, nn n h3, arrV_size]; omega) (by rw [nn dp h2, nn n h3, arrV_size]; omega)
    (fun vm₁ hal j hj => by
      have e1 : (arrV (X.2.2.1 ti) n0 g0).slots.getD (sp.toNatClampNeg + j) .null = g0 (sp.toNatClampNeg + j) := by
        rw [Array.getD_eq_getD_getElem?, arrV_read _ _ (by omega)]
        rfl
      rw [e1]
      rcases hel j hj with h | ⟨w, ci, fs, h, hw, hob⟩
      · rw [h]; exact ⟨rfl, trivial⟩
      · rw [h]
        obtain ⟨r, hc, hca⟩ := x_ob_ok ci hob
        obtain ⟨cell, q1, q2, q3⟩ := x_recv hK (hP w _ hw) hc
        obtain ⟨kC, hkC, -⟩ := Vm.findClass_spec q3
        obtain ⟨kC', hkC', -⟩ := hal.2.2 _ _ hkC
        obtain ⟨kE', hkE', -⟩ := hal.2.2 _ _ hkE
        refine ⟨rfl, cell, (show T.heap[w]? = some cell by rw [hT]; exact q1), (fun q h => by rw [h] at q2; cases q2), ⟨kC', hkC'⟩, ⟨kE', hkE'⟩, ?_⟩
        show vm₁.assignable _ _ = true
        rw [hal.assignable]
        exact vb_asgC (hK.2.2.1 _ hca rfl) comp _ r3 q3)
    (g := F0 m pc lsA (.int n :: .int dp :: .ref d :: .int sp :: .ref s0 :: t)) rfl (by rw [hml]; exact hl.1) (rest := t) rfl (by rw [hb]; exact hd) hfr (by show 2 * 0 + _ + _ ≤ lo; have : 2 * (F0 m pc lsA t).monitorRoom = 0 := rfl; omega)
  have e1 : copied (arrV (X.2.2.1 ti) n0 g0) (arrV (X.2.2.1 ti) n1 g1) sp dp n = arrV (X.2.2.1 ti) n1 (va_cpy g0 g1 sp.toNatClampNeg dp.toNatClampNeg n.toNatClampNeg) := va_copied (fun z => z) _ _ g0 g1 h4
  rw [e1] at X' step
  have hlt : d < H.size := (Array.getElem?_eq_some_iff.mp hc1).1
  generalize hA : arrV (X.2.2.1 ti) n1 (va_cpy g0 g1 sp.toNatClampNeg dp.toNatClampNeg n.toNatClampNeg) = A1 at X' step e1
  have hheap : ((T.setVm vm').setCell d A1).heap = H.setIfInBounds d A1 := by rw [← hT]; rfl
  have oq : ∀ q : Nat, q ≠ d → (H.setIfInBounds d A1)[q]? = H[q]? := fun q hq => by simp [Array.getElem?_setIfInBounds, Ne.symm hq]
  have e2 : (H.setIfInBounds d A1)[d]? = some A1 := by simp [Array.getElem?_setIfInBounds, hlt]
  obtain ⟨t2, a1, b1⟩ := kk (H.setIfInBounds d A1) _ lsA (hP.put (Or.inl ⟨hl1, e2.trans (congrArg some hA.symm)⟩) oq) (hD.put hAd) ⟨by simp; exact hS.1, fun q g1 g2 => by
      rw [oq q (fun e => g2 (by rw [e]; exact hAd))]
      exact hS.2.1 q g1 g2, fun q hq => by
      rcases List.mem_append.mp hq with h | h
      · exact hS.2.2 q h
      · obtain ⟨z, -, hz⟩ := List.mem_map.mp h
        rw [← hz]
        exact hAd⟩ hl _ hheap X'
  exact ⟨t2, step t2 a1, b1⟩
/-- the end -/
theorem x_s_iret (G : x_ctx X p R s m args meth c cc nL own ini rt fr lo mc ms) {ty : FieldType} {x : Int32} (hd : decode cc pc = .ok (.ireturn, 1)) (hrt : rt = some ty) (hn : narrow ty (.int x) = .int x) (h1 : nc ≤ mc) (h2 : ns ≤ ms) (hq : RQ (some (.int x)) f) : x_go X p e R s m args below meth c nL mc ms RQ pc ls [.int x] f nc ns := by
  intro H locs lsA hP hD hS hl
  obtain ⟨hx, hb, hml, hown, hts, hK, hz, hr, hlk, -⟩ := G
  exact W.widen h1 h2 (W.zret hx hb (hr.trans hrt) hn (fun t ht hW => ⟨⟨_, f, rfl, hq, by rw [ht]; exact hP, hD⟩, hS.F ht⟩) hS.2.2 hd hlk)
theorem x_s_aret (G : x_ctx X p R s m args meth c cc nL own ini rt fr lo mc ms) {ty : FieldType} {v : Value} (hd : decode cc pc = .ok (.areturn, 1)) (hrt : rt = some ty) (hty : (∃ n, ty = .object n) ∨ ∃ t, ty = .array t) (hv : x_isr v) (h1 : nc ≤ mc) (h2 : ns ≤ ms) (hq : RQ (some v) f) : x_go X p e R s m args below meth c nL mc ms RQ pc ls [v] f nc ns := by
  intro H locs lsA hP hD hS hl
  obtain ⟨hx, hb, hml, hown, hts, hK, hz, hr, hlk, -⟩ := G
  obtain ⟨r, rfl⟩ := x_isr_rf hv
  exact W.widen h1 h2 (W.aret hx hb (hr.trans hrt) hty (va_rf_or r) (fun t ht hW => ⟨⟨_, f, rfl, hq, by rw [ht]; exact hP, hD⟩, hS.F ht⟩) hS.2.2 hd hlk)
theorem x_s_vret (G : x_ctx X p R s m args meth c cc nL own ini rt fr lo mc ms) (hd : decode cc pc = .ok (.return_, 1)) (hrt : rt = none) (h1 : nc ≤ mc) (h2 : ns ≤ ms) (hq : RQ none f) : x_go X p e R s m args below meth c nL mc ms RQ pc ls [] f nc ns := by
  intro H locs lsA hP hD hS hl
  obtain ⟨hx, hb, hml, hown, hts, hK, hz, hr, hlk, -⟩ := G
  exact W.widen h1 h2 (W.vret hx hb (hr.trans hrt) (fun t ht hW => ⟨⟨_, f, rfl, hq, by rw [ht]; exact hP, hD⟩, hS.F ht⟩) hS.2.2 hd hlk)
/-- what the tables must say of an operation -/
def x_fld (own : String) (i k : Nat) (al : List (Nat × Nat)) : Prop := ∀ q ∈ al, ∃ (C : String) (T : u_T) (N : Nat), x_cl[q.1]? = some (C, T, N) ∧ k < N ∧ x_lnk own i (T k)
def x_fwr (own : String) (ini : Bool) (i k : Nat) (al : List (Nat × Nat)) : Prop := ∀ q ∈ al, ∃ (C : String) (T : u_T) (N : Nat) (ty : FieldType), x_cl[q.1]? = some (C, T, N) ∧ k < N ∧ x_lnk own i (T k) ∧ ((T k).2.2.2 = false ∨ ((T k).2.2.2 = true ∧ (T k).1 = own ∧ ini = true ∧ Cond.fieldLink own i own (T k).2.1 (T k).2.2.1 ∈ x_ws)) ∧ parseFieldDescriptor (T k).2.2.1 = some ty ∧ x_kd ty = q.2
def x_fit (own : String) (nL : Nat) (rt : Option FieldType) (ini : Bool) (pc : Nat) (o : XO) : Prop := match o.1 with
  | .iconst n => Int32.ofInt n = o.2.2.2.2 ∧ o.2.1 = 1
  | .bipush n => (Int8.ofInt n).toInt32 = o.2.2.2.2 ∧ o.2.1 = 2
  | .sipush n => (Int16.ofInt n).toInt32 = o.2.2.2.2 ∧ o.2.1 = 3
  | .aconst_null => o.2.1 = 1
  | .getstatic i => o.2.1 = 3 ∧ Cond.fieldLink own i "java/util/ArrayList" "DEFAULTCAPACITY_EMPTY_ELEMENTDATA" "[Ljava/lang/Object;" ∈ x_ws
  | .iload j => j = o.2.2.1 ∧ o.2.1 = 2
  | .iload_n q => (q : Nat) = o.2.2.1 ∧ o.2.1 = 1
  | .aload j => j = o.2.2.1 ∧ o.2.1 = 2
  | .aload_n q => (q : Nat) = o.2.2.1 ∧ o.2.1 = 1
  | .istore j => (j = o.2.2.1 ∧ o.2.1 = 2) ∧ o.2.2.1 < nL
  | .istore_n q => ((q : Nat) = o.2.2.1 ∧ o.2.1 = 1) ∧ o.2.2.1 < nL
  | .astore j => (j = o.2.2.1 ∧ o.2.1 = 2) ∧ o.2.2.1 < nL
  | .astore_n q => ((q : Nat) = o.2.2.1 ∧ o.2.1 = 1) ∧ o.2.2.1 < nL
  | .iinc j n => j = o.2.2.1 ∧ Int32.ofInt n = o.2.2.2.2 ∧ o.2.1 = 3
  | .iadd => o.2.1 = 1
  | .isub => o.2.1 = 1
  | .imul => o.2.1 = 1
  | .iand => o.2.1 = 1
  | .ior => o.2.1 = 1
  | .ixor => o.2.1 = 1
  | .idiv => o.2.1 = 1
  | .irem => o.2.1 = 1
  | .ishl => o.2.1 = 1
  | .ishr => o.2.1 = 1
  | .ineg => o.2.1 = 1
  | .dup => o.2.1 = 1
  | .dup_x1 => o.2.1 = 1
  | .dup2 => o.2.1 = 1
  | .pop => o.2.1 = 1
  | .ifCond _ off => o.2.1 = 3 ∧ (pc : Int) + off = (o.2.2.1 : Int)
  | .if_icmp _ off => o.2.1 = 3 ∧ (pc : Int) + off = (o.2.2.1 : Int)
  | .if_acmp _ off => o.2.1 = 3 ∧ (pc : Int) + off = (o.2.2.1 : Int)
  | .ifnull off => o.2.1 = 3 ∧ (pc : Int) + off = (o.2.2.1 : Int)
  | .ifnonnull off => o.2.1 = 3 ∧ (pc : Int) + off = (o.2.2.1 : Int)
  | .goto off => o.2.1 = 3 ∧ (pc : Int) + off = (o.2.2.1 : Int)
  | .tableswitch d l h os => 0 ≤ (pc : Int) + d ∧ (os.toList.length : Int) = h - l + 1 ∧ ∀ z ∈ os.toList, 0 ≤ (pc : Int) + z
  | .ireturn => o.2.1 = 1 ∧ ∃ ty, rt = some ty ∧ x_kd ty = o.2.2.1
  | .areturn => o.2.1 = 1 ∧ ∃ ty, rt = some ty ∧ x_kd ty = 2
  | .return_ => o.2.1 = 1 ∧ rt = none
  | .getfield i => o.2.1 = 3 ∧ x_fld own i o.2.2.1 o.2.2.2.1
  | .putfield i => o.2.1 = 3 ∧ x_fwr own ini i o.2.2.1 o.2.2.2.1
  | .arraylength => o.2.1 = 1
  | .iaload => o.2.1 = 1 ∧ x_ty[o.2.2.1]? = some .int
  | .baload => o.2.1 = 1 ∧ x_ty[o.2.2.1]? = some .boolean
  | .aaload => o.2.1 = 1 ∧ ∀ q ∈ o.2.2.2.1, ∃ C, x_ty[q.1]? = some (.object C)
  | .iastore => o.2.1 = 1 ∧ x_ty[o.2.2.1]? = some .int
  | .bastore => o.2.1 = 1 ∧ x_ty[o.2.2.1]? = some .boolean
  | .aastore => o.2.1 = 1 ∧ ∀ q ∈ o.2.2.2.1, ∃ (E : String) (r : vw_C), x_ty[q.1]? = some (.object E) ∧ x_cl[q.2]? = some r ∧ (r.1 = E ∨ Cond.castable r.1 E ∈ lw_tbl)
  | .new i => o.2.1 = 3 ∧ ∃ (C : String) (T : u_T) (N : Nat) (ty : Nat → FieldType), x_cl[o.2.2.1]? = some (C, T, N) ∧ Cond.classLink own i C ∈ x_ws ∧ Cond.instantiable C N ∈ x_ws ∧ Cond.initialized C ∈ x_ws ∧ (∀ k, k < N → parseFieldDescriptor (T k).2.2.1 = some (ty k)) ∧ (∀ j, j < N → defaultValue (ty j) = vp_V (x_df o.2.2.1) j) ∧ (x_df o.2.2.1).length = N
  | .newarray aty => o.2.1 = 2 ∧ x_ty[o.2.2.1]? = some (newarray.typeOf aty) ∧ (aty = .int ∨ aty = .boolean) ∧ Cond.arrayClass (newarray.typeOf aty) ∈ x_ws
  | .anewarray i => o.2.1 = 3 ∧ ∃ C, x_ty[o.2.2.1]? = some (.object C) ∧ Cond.classLink own i C ∈ x_ws ∧ C ∈ x_ao
  | .checkcast i => o.2.1 = 3 ∧ ∃ nm, Cond.classLink own i nm ∈ x_ws ∧ ∀ q ∈ o.2.2.2.1, ∃ r : vw_C, x_cl[q.1]? = some r ∧ (r.1 = nm ∨ Cond.castable r.1 nm ∈ lw_tbl)
  | .instanceof i => o.2.1 = 3 ∧ ∃ nm, Cond.classLink own i nm ∈ x_ws ∧ ∀ q ∈ o.2.2.2.1, ∃ r : vw_C, x_cl[q.1]? = some r ∧ ((q.2 = 1 ∧ (r.1 = nm ∨ Cond.castable r.1 nm ∈ lw_tbl)) ∨ (q.2 = 0 ∧ (r.1, nm) ∈ x_nc))
  | .ldc i => o.2.1 = 2 ∧ ((o.2.2.2.1 = [] ∧ Cond.constant own i o.2.2.2.2 ∈ x_ws) ∨ (o.2.2.2.1 ≠ [] ∧ Cond.classLink own i "[Ljava/lang/Object;" ∈ x_ws))
  | .invokestatic i => o.2.1 = 3 ∧ ∀ q ∈ o.2.2.2.1, (q.2 = 0 ∧ x_ss own i o.2.2.1 q.1) ∨ (q.2 = 3 ∧ x_sc own i o.2.2.1)
  | .invokespecial i => o.2.1 = 3 ∧ ((o.2.2.2.1 = [] ∧ Cond.methodLink own i Lib.objectInit ∈ x_ws ∧ Cond.instanceMethod Lib.objectInit ∈ x_ws ∧ Cond.code Lib.objectInit ⟨#[0xb1]⟩ 1 none ∈ x_ws) ∨ (o.2.2.2.1 ≠ [] ∧ ∀ q ∈ o.2.2.2.1, x_si own i o.2.2.1 q.1))
  | .invokevirtual i => o.2.1 = 3 ∧ (o.2.2.2.1 = [] → x_sg own i o.2.2.1) ∧ ∀ q ∈ o.2.2.2.1, x_sv own i o.2.2.1 q.1 q.2
  | _ => False
theorem x_lookup {al : List (Nat × Nat)} {a b : Nat} (h : al.lookup a = some b) : (a, b) ∈ al := by
  induction al with
  | nil => cases h
  | cons q l ih =>
    obtain ⟨u, v⟩ := q
    rw [List.lookup_cons] at h
    by_cases hu : a = u
    · subst hu
      simp at h
      subst h
      exact List.mem_cons_self
    · have : (a == u) = false := by simpa using hu
      rw [this] at h
      exact List.mem_cons_of_mem _ (ih h)
theorem x_lookupB {B : List (Nat × List XO)} {a : Nat} {b : List XO} (h : B.lookup a = some b) : (a, b) ∈ B := by
  induction B with
  | nil => cases h
  | cons q l ih =>
    obtain ⟨u, v⟩ := q
    rw [List.lookup_cons] at h
    by_cases hu : a = u
    · subst hu
      simp at h
      subst h
      exact List.mem_cons_self
    · have : (a == u) = false := by simpa using hu
      rw [this] at h
      exact List.mem_cons_of_mem _ (ih h)
theorem x_som_e {α : Type} {o : Option α} {k : α → Prop} (h : x_som o k) : ∃ v, o = some v ∧ k v := by
  cases o with
  | none => exact h.elim
  | some v => exact ⟨v, rfl, h⟩
theorem x_int_e {v : Value} {k : Int32 → Prop} (h : x_int v k) : ∃ x, v = .int x ∧ k x := by
  cases v <;> first | exact ⟨_, rfl, h⟩ | exact h.elim
theorem x_i1_e {st : List Value} {k : Int32 → List Value → Prop} (h : x_i1 st k) : ∃ x t, st = .int x :: t ∧ k x t := by
  unfold x_i1 at h
  split at h
  · exact ⟨_, _, rfl, h⟩
  · exact h.elim
theorem x_i2_e {st : List Value} {k : Int32 → Int32 → List Value → Prop} (h : x_i2 st k) : ∃ x y t, st = .int y :: .int x :: t ∧ k x y t := by
  unfold x_i2 at h
  split at h
  · exact ⟨_, _, _, rfl, h⟩
  · exact h.elim
theorem x_v1_e {st : List Value} {k : Value → List Value → Prop} (h : x_v1 st k) : ∃ v t, st = v :: t ∧ k v t := by
  unfold x_v1 at h
  split at h
  · exact ⟨_, _, rfl, h⟩
  · exact h.elim
theorem x_v2_e {st : List Value} {k : Value → Value → List Value → Prop} (h : x_v2 st k) : ∃ v w t, st = v :: w :: t ∧ k v w t := by
  unfold x_v2 at h
  split at h
  · exact ⟨_, _, _, rfl, h⟩
  · exact h.elim
theorem x_r1_e {st : List Value} {k : Nat → List Value → Prop} (h : x_r1 st k) : ∃ a t, st = .ref a :: t ∧ k a t := by
  unfold x_r1 at h
  split at h
  · exact ⟨_, _, rfl, h⟩
  · exact h.elim
theorem x_vr_e {st : List Value} {k : Value → Nat → List Value → Prop} (h : x_vr st k) : ∃ v a t, st = v :: .ref a :: t ∧ k v a t := by
  unfold x_vr at h
  split at h
  · exact ⟨_, _, _, rfl, h⟩
  · exact h.elim
theorem x_ir_e {st : List Value} {k : Int32 → Nat → List Value → Prop} (h : x_ir st k) : ∃ i a t, st = .int i :: .ref a :: t ∧ k i a t := by
  unfold x_ir at h
  split at h
  · exact ⟨_, _, _, rfl, h⟩
  · exact h.elim
theorem x_vir_e {st : List Value} {k : Value → Int32 → Nat → List Value → Prop} (h : x_vir st k) : ∃ v i a t, st = v :: .int i :: .ref a :: t ∧ k v i a t := by
  unfold x_vir at h
  split at h
  · exact ⟨_, _, _, _, rfl, h⟩
  · exact h.elim
theorem x_obj_e {e : Option XE} {k : Nat → List Value → Prop} (h : x_obj e k) : ∃ ci fs, e = some (.inl (ci, fs)) ∧ k ci fs := h
theorem x_arr_e {e : Option XE} {k : Nat → Nat → (Nat → Value) → Prop} (h : x_arr e k) : ∃ ti n g, e = some (.inr (ti, n, g)) ∧ k ti n g := h
theorem x_rfv_e {v : Value} {P : Prop} (h : x_rfv v P) : x_isr v ∧ P := by
  cases v <;> first | exact ⟨trivial, h⟩ | exact h.elim
theorem x_onv_e {v : Value} {P : Prop} (h : x_onv v P) : x_one v ∧ P := by
  cases v <;> first | exact ⟨trivial, h⟩ | exact h.elim
theorem x_okv_e {kd : Nat} {v : Value} {P : Prop} (h : x_okv kd v P) : x_ok kd v ∧ P := by
  unfold x_okv at h
  split at h
  · exact ⟨Or.inl rfl, h⟩
  · exact ⟨Or.inr ⟨rfl, h.1⟩, h.2⟩
  · exact ⟨rfl, h⟩
  · exact ⟨rfl, h⟩
  · exact h.elim
theorem x_nil_e {t : List Value} {P : Prop} (h : x_nil t P) : t = [] ∧ P := by
  cases t with
  | nil => exact ⟨rfl, h⟩
  | cons a b => exact h.elim
theorem x_le4_e {t : List Value} {P : Prop} (h : x_le4 t P) : t.length ≤ 4 ∧ P := by
  unfold x_le4 at h
  split at h <;> first | exact h.elim | exact ⟨by simp, h⟩
theorem x_bit_e {b : Nat} {k : Int32 → Prop} (h : x_bit b k) : (b = 0 ∧ k 0) ∨ (b = 1 ∧ k 1) := by
  unfold x_bit at h
  split at h
  · exact Or.inl ⟨rfl, h⟩
  · exact Or.inr ⟨rfl, h⟩
  · exact h.elim
theorem x_cpy_e {st : List Value} {k : Int32 → Int32 → Nat → Int32 → Nat → List Value → Prop} (h : x_cpy st k) : ∃ n dp d sp s t, st = .int n :: .int dp :: .ref d :: .int sp :: .ref s :: t ∧ k n dp d sp s t := by
  unfold x_cpy at h
  split at h
  · exact ⟨_, _, _, _, _, _, rfl, h⟩
  · exact h.elim
theorem x_tru_e {b : Bool} {P : Prop} (h : x_tru b P) : b = true ∧ P := by
  cases b
  · exact h.elim
  · exact ⟨rfl, h⟩
theorem x_leb_e {a b : Nat} {P : Prop} (h : x_leb a b P) : a ≤ b ∧ P := ⟨Nat.le_of_ble_eq_true (x_tru_e h).1, (x_tru_e h).2⟩
theorem x_eqn_e {a b : Nat} {P : Prop} (h : x_eqn a b P) : a = b ∧ P := ⟨Nat.eq_of_beq_eq_true (x_tru_e h).1, (x_tru_e h).2⟩
theorem x_pop_e : ∀ (n : Nat) (st acc : List Value) (k : List Value → List Value → Prop), x_pop n st acc k → n ≤ st.length ∧ k ((st.take n).reverse ++ acc) (st.drop n)
  | 0, st, acc, k, h => ⟨Nat.zero_le _, h⟩
  | n + 1, [], acc, k, h => h.elim
  | n + 1, v :: t, acc, k, h => by
    obtain ⟨h1, h2⟩ := x_pop_e n t (v :: acc) k h
    refine ⟨Nat.succ_le_succ h1, ?_⟩
    rw [List.take_succ_cons, List.reverse_cons, List.drop_succ_cons, List.append_assoc]
    exact h2
theorem x_nul_e {st : List Value} {kn kr : List Value → Prop} (h : x_nul st kn kr) : ∃ t, (st = .null :: t ∧ kn t) ∨ ∃ a, st = .ref a :: t ∧ kr t := by
  unfold x_nul at h
  split at h
  · exact ⟨_, Or.inl ⟨rfl, h⟩⟩
  · exact ⟨_, Or.inr ⟨_, rfl, h⟩⟩
  · exact h.elim
theorem x_br_map {o : ClassFile.Cond} {x y : Int32} {A B A' B' : Prop} (hA : A → A') (hB : B → B') (h : x_br o x y A B) : x_br o x y A' B' := by
  cases o <;> exact ⟨fun z => hA (h.1 z), fun z => hB (h.2 z)⟩
theorem x_ab_map {o : ClassFile.ACond} {x y : Value} {A B A' B' : Prop} (hA : A → A') (hB : B → B') (h : x_ab o x y A B) : x_ab o x y A' B' := by
  cases o <;> exact ⟨fun z => hA (h.1 z), fun z => hB (h.2 z)⟩
theorem x_call_map {y : Nat} {av : List Value} {k k' : Option Value → XH → Nat → Nat → Prop} (hk : ∀ r f nc ns, k r f nc ns → k' r f nc ns) (h : x_call X fr lo mc ms y av f nc ns k) : x_call X fr lo mc ms y av f nc ns k' := by
  obtain ⟨a, b, c, d, Q, h1, h2, h3⟩ := h
  exact ⟨a, b, c, d, Q, h1, h2, fun r f' hq => hk _ _ _ _ (h3 r f' hq)⟩
set_option maxHeartbeats 4000000 in
theorem x_step_sound (G : x_ctx X p R s m args meth c cc nL own ini rt fr lo mc ms) (o : XO) (hd : decode cc pc = .ok (o.1, o.2.1)) (hf : x_fit own nL rt ini pc o) (J : XJ) (hJ : ∀ pc ls st f nc ns, J pc ls st f nc ns → x_go X p e R s m args below meth c nL mc ms RQ pc ls st f nc ns) (K : XK)
    (hK : ∀ ls st f nc ns, K ls st f nc ns → x_go X p e R s m args below meth c nL mc ms RQ (pc + o.2.1) ls st f nc ns) (h : x_step X fr lo mc ms J RQ o pc ls st f nc ns K) : x_go X p e R s m args below meth c nL mc ms RQ pc ls st f nc ns := by
  obtain ⟨i, len, ax, al, cv⟩ := o
  cases i with
  | iconst n => exact x_s_const G hd (Or.inl ⟨n, rfl, hf.1, hf.2⟩) (hK _ _ _ _ _ h)
  | bipush n => exact x_s_const G hd (Or.inr (Or.inl ⟨n, rfl, hf.1, hf.2⟩)) (hK _ _ _ _ _ h)
  | sipush n => exact x_s_const G hd (Or.inr (Or.inr ⟨n, rfl, hf.1, hf.2⟩)) (hK _ _ _ _ _ h)
  | aconst_null =>
    obtain rfl : len = 1 := hf
    exact x_s_null G hd (hK _ _ _ _ _ h)
  | getstatic i =>
    obtain ⟨rfl, hlk⟩ : len = 3 ∧ Cond.fieldLink own i "java/util/ArrayList" "DEFAULTCAPACITY_EMPTY_ELEMENTDATA" "[Ljava/lang/Object;" ∈ x_ws := hf
    obtain ⟨hx, hb, hml, hown, hts, hKK, hz, -, -, -, hZ, rfl⟩ := G
    exact fun H locs lsA hP hD hS hl => va_gets hx hb hZ hS hown (hts _ hlk) (fun _ q => q) hd (hK _ _ _ _ _ h H locs lsA hP hD hS hl)
  | iload j =>
    replace h := x_som_e h
    obtain ⟨v, hv, h⟩ := h
    replace h := x_int_e h
    obtain ⟨x, rfl, h⟩ := h
    obtain ⟨rfl, hf2⟩ : j = ax ∧ len = 2 := hf
    exact x_s_iload G hd (Or.inl ⟨rfl, hf2⟩) hv (hK _ _ _ _ _ h)
  | iload_n q =>
    replace h := x_som_e h
    obtain ⟨v, hv, h⟩ := h
    replace h := x_int_e h
    obtain ⟨x, rfl, h⟩ := h
    exact x_s_iload G hd (Or.inr ⟨q, rfl, hf.1, hf.2⟩) hv (hK _ _ _ _ _ h)
  | aload j =>
    replace h := x_som_e h
    obtain ⟨v, hv, h⟩ := h
    replace h := x_rfv_e h
    obtain ⟨h1, h⟩ := h
    obtain ⟨rfl, hf2⟩ : j = ax ∧ len = 2 := hf
    exact x_s_aload G hd (Or.inl ⟨rfl, hf2⟩) hv h1 (hK _ _ _ _ _ h)
  | aload_n q =>
    replace h := x_som_e h
    obtain ⟨v, hv, h⟩ := h
    replace h := x_rfv_e h
    obtain ⟨h1, h⟩ := h
    exact x_s_aload G hd (Or.inr ⟨q, rfl, hf.1, hf.2⟩) hv h1 (hK _ _ _ _ _ h)
  | istore j =>
    replace h := x_i1_e h
    obtain ⟨x, t, rfl, h⟩ := h
    obtain ⟨⟨rfl, hf2⟩, hf3⟩ : (j = ax ∧ len = 2) ∧ ax < nL := hf
    exact x_s_istore G hd (Or.inl ⟨rfl, hf2⟩) hf3 (hK _ _ _ _ _ h)
  | istore_n q =>
    replace h := x_i1_e h
    obtain ⟨x, t, rfl, h⟩ := h
    exact x_s_istore G hd (Or.inr ⟨q, rfl, hf.1.1, hf.1.2⟩) hf.2 (hK _ _ _ _ _ h)
  | astore j =>
    replace h := x_v1_e h
    obtain ⟨x, t, rfl, h⟩ := h
    replace h := x_rfv_e h
    obtain ⟨h1, h⟩ := h
    obtain ⟨⟨rfl, hf2⟩, hf3⟩ : (j = ax ∧ len = 2) ∧ ax < nL := hf
    exact x_s_astore G hd (Or.inl ⟨rfl, hf2⟩) hf3 h1 (hK _ _ _ _ _ h)
  | astore_n q =>
    replace h := x_v1_e h
    obtain ⟨x, t, rfl, h⟩ := h
    replace h := x_rfv_e h
    obtain ⟨h1, h⟩ := h
    exact x_s_astore G hd (Or.inr ⟨q, rfl, hf.1.1, hf.1.2⟩) hf.2 h1 (hK _ _ _ _ _ h)
  | iinc j n =>
    replace h := x_som_e h
    obtain ⟨v, hv, h⟩ := h
    replace h := x_int_e h
    obtain ⟨x, rfl, h⟩ := h
    obtain ⟨rfl, hf2, rfl⟩ : j = ax ∧ Int32.ofInt n = cv ∧ len = 3 := hf
    exact x_s_iinc G hd hf2 hv (hK _ _ _ _ _ h)
  | iadd =>
    replace h := x_i2_e h
    obtain ⟨x, y, t, rfl, h⟩ := h
    obtain rfl : len = 1 := hf
    exact fun H locs lsA hP hD hS hl => lv_iadd G.1 G.2.1 hd (hK _ _ _ _ _ h H locs lsA hP hD hS hl)
  | isub =>
    replace h := x_i2_e h
    obtain ⟨x, y, t, rfl, h⟩ := h
    obtain rfl : len = 1 := hf
    exact fun H locs lsA hP hD hS hl => lv_isub G.1 G.2.1 hd (hK _ _ _ _ _ h H locs lsA hP hD hS hl)
  | imul =>
    replace h := x_i2_e h
    obtain ⟨x, y, t, rfl, h⟩ := h
    obtain rfl : len = 1 := hf
    exact fun H locs lsA hP hD hS hl => lv_imul G.1 G.2.1 hd (hK _ _ _ _ _ h H locs lsA hP hD hS hl)
  | iand =>
    replace h := x_i2_e h
    obtain ⟨x, y, t, rfl, h⟩ := h
    obtain rfl : len = 1 := hf
    exact fun H locs lsA hP hD hS hl => lv_iand G.1 G.2.1 hd (hK _ _ _ _ _ h H locs lsA hP hD hS hl)
  | ior =>
    replace h := x_i2_e h
    obtain ⟨x, y, t, rfl, h⟩ := h
    obtain rfl : len = 1 := hf
    exact fun H locs lsA hP hD hS hl => lv_ior G.1 G.2.1 hd (hK _ _ _ _ _ h H locs lsA hP hD hS hl)
  | ixor =>
    replace h := x_i2_e h
    obtain ⟨x, y, t, rfl, h⟩ := h
    obtain rfl : len = 1 := hf
    exact fun H locs lsA hP hD hS hl => lv_ixor G.1 G.2.1 hd (hK _ _ _ _ _ h H locs lsA hP hD hS hl)
  | idiv =>
    replace h := x_i2_e h
    obtain ⟨x, y, t, rfl, h1, h⟩ := h
    obtain rfl : len = 1 := hf
    exact fun H locs lsA hP hD hS hl => lv_idiv G.1 G.2.1 hd h1 (hK _ _ _ _ _ h H locs lsA hP hD hS hl)
  | irem =>
    replace h := x_i2_e h
    obtain ⟨x, y, t, rfl, h1, h⟩ := h
    obtain rfl : len = 1 := hf
    exact fun H locs lsA hP hD hS hl => lv_irem G.1 G.2.1 hd h1 (hK _ _ _ _ _ h H locs lsA hP hD hS hl)
  | ishl =>
    replace h := x_i2_e h
    obtain ⟨x, y, t, rfl, h⟩ := h
    obtain rfl : len = 1 := hf
    exact fun H locs lsA hP hD hS hl => lv_ishl G.1 G.2.1 hd (hK _ _ _ _ _ h H locs lsA hP hD hS hl)
  | ishr =>
    replace h := x_i2_e h
    obtain ⟨x, y, t, rfl, h⟩ := h
    obtain rfl : len = 1 := hf
    exact fun H locs lsA hP hD hS hl => lv_ishr G.1 G.2.1 hd (hK _ _ _ _ _ h H locs lsA hP hD hS hl)
  | ineg =>
    replace h := x_i1_e h
    obtain ⟨x, t, rfl, h⟩ := h
    obtain rfl : len = 1 := hf
    exact fun H locs lsA hP hD hS hl => lv_ineg G.1 G.2.1 hd (hK _ _ _ _ _ h H locs lsA hP hD hS hl)
  | dup =>
    replace h := x_v1_e h
    obtain ⟨v, t, rfl, h⟩ := h
    replace h := x_onv_e h
    obtain ⟨h1, h⟩ := h
    obtain rfl : len = 1 := hf
    exact fun H locs lsA hP hD hS hl => lv_dup G.1 G.2.1 hd (x_one_c h1) (hK _ _ _ _ _ h H locs lsA hP hD hS hl)
  | dup_x1 =>
    replace h := x_v2_e h
    obtain ⟨v, w, t, rfl, h⟩ := h
    replace h := x_onv_e h
    obtain ⟨h1, h⟩ := h
    replace h := x_onv_e h
    obtain ⟨h2, h⟩ := h
    obtain rfl : len = 1 := hf
    exact fun H locs lsA hP hD hS hl => lv_dup_x1 G.1 G.2.1 hd (x_one_c h1) (x_one_c h2) (hK _ _ _ _ _ h H locs lsA hP hD hS hl)
  | dup2 =>
    replace h := x_v2_e h
    obtain ⟨v, w, t, rfl, h⟩ := h
    replace h := x_onv_e h
    obtain ⟨h1, h⟩ := h
    replace h := x_onv_e h
    obtain ⟨h2, h⟩ := h
    obtain rfl : len = 1 := hf
    exact fun H locs lsA hP hD hS hl => lv_dup2_11 G.1 G.2.1 hd (x_one_c h1) (x_one_c h2) (hK _ _ _ _ _ h H locs lsA hP hD hS hl)
  | pop =>
    replace h := x_v1_e h
    obtain ⟨v, t, rfl, h⟩ := h
    replace h := x_onv_e h
    obtain ⟨h1, h⟩ := h
    obtain rfl : len = 1 := hf
    exact fun H locs lsA hP hD hS hl => lv_pop G.1 G.2.1 hd (x_one_c h1) (hK _ _ _ _ _ h H locs lsA hP hD hS hl)
  | ifCond o off =>
    replace h := x_i1_e h
    obtain ⟨x, t, rfl, h⟩ := h
    obtain ⟨rfl, ht⟩ : len = 3 ∧ (pc : Int) + off = (ax : Int) := hf
    exact x_s_if G hd ht (x_br_map (hJ _ _ _ _ _ _) (hK _ _ _ _ _) h)
  | if_icmp o off =>
    replace h := x_i2_e h
    obtain ⟨x, y, t, rfl, h⟩ := h
    obtain ⟨rfl, ht⟩ : len = 3 ∧ (pc : Int) + off = (ax : Int) := hf
    exact x_s_icmp G hd ht (x_br_map (hJ _ _ _ _ _ _) (hK _ _ _ _ _) h)
  | if_acmp o off =>
    replace h := x_v2_e h
    obtain ⟨y, x, t, rfl, h⟩ := h
    replace h := x_rfv_e h
    obtain ⟨h1, h⟩ := h
    replace h := x_rfv_e h
    obtain ⟨h2, h⟩ := h
    obtain ⟨rfl, ht⟩ : len = 3 ∧ (pc : Int) + off = (ax : Int) := hf
    exact x_s_acmp G hd ht h1 h2 (x_ab_map (hJ _ _ _ _ _ _) (hK _ _ _ _ _) h)
  | ifnull off =>
    obtain ⟨rfl, ht⟩ : len = 3 ∧ (pc : Int) + off = (ax : Int) := hf
    replace h := x_nul_e h
    obtain ⟨t, ⟨rfl, h⟩ | ⟨a, rfl, h⟩⟩ := h
    · exact fun H locs lsA hP hD hS hl => lv_ifnullN G.1 G.2.1 hd ht (hJ _ _ _ _ _ _ h H locs lsA hP hD hS hl)
    · exact fun H locs lsA hP hD hS hl => lv_ifnull G.1 G.2.1 hd (hK _ _ _ _ _ h H locs lsA hP hD hS hl)
  | ifnonnull off =>
    obtain ⟨rfl, ht⟩ : len = 3 ∧ (pc : Int) + off = (ax : Int) := hf
    replace h := x_nul_e h
    obtain ⟨t, ⟨rfl, h⟩ | ⟨a, rfl, h⟩⟩ := h
    · exact fun H locs lsA hP hD hS hl => lv_ifnonnullN G.1 G.2.1 hd (hK _ _ _ _ _ h H locs lsA hP hD hS hl)
    · exact fun H locs lsA hP hD hS hl => lv_ifnonnull G.1 G.2.1 hd ht (hJ _ _ _ _ _ _ h H locs lsA hP hD hS hl)
  | goto off =>
    obtain ⟨rfl, ht⟩ : len = 3 ∧ (pc : Int) + off = (ax : Int) := hf
    exact fun H locs lsA hP hD hS hl => lv_goto G.1 G.2.1 hd ht (hJ _ _ _ _ _ _ h H locs lsA hP hD hS hl)
  | tableswitch d l z os =>
    replace h := x_i1_e h
    obtain ⟨x, t, rfl, h⟩ := h
    obtain ⟨h0, h1, h2⟩ : 0 ≤ (pc : Int) + d ∧ (os.toList.length : Int) = z - l + 1 ∧ ∀ q ∈ os.toList, 0 ≤ (pc : Int) + q := hf
    intro H locs lsA hP hD hS hl
    have h := hJ _ _ _ _ _ _ h H locs lsA hP hD hS hl
    unfold x_swt at h
    by_cases hx : x.toInt < l ∨ z < x.toInt
    · rw [if_pos hx] at h
      exact lv_tableOut G.1 G.2.1 hd hx (Int.toNat_of_nonneg h0).symm h
    · rw [if_neg hx] at h
      have hlt : (x.toInt - l).toNat < os.toList.length := by omega
      have he : os.toList[(x.toInt - l).toNat]? = some (os.toList.getD (x.toInt - l).toNat 0) := by
        rw [List.getD_eq_getElem?_getD, List.getElem?_eq_getElem hlt]; rfl
      have hm : os.toList.getD (x.toInt - l).toNat 0 ∈ os.toList := List.mem_of_getElem? he
      rw [Array.getElem?_toList] at he
      exact lv_tableIn G.1 G.2.1 hd (fun q => hx (Or.inl q)) (fun q => hx (Or.inr q)) he (Int.toNat_of_nonneg (h2 _ hm)).symm h
  | ireturn =>
    replace h := x_i1_e h
    obtain ⟨x, t, rfl, h⟩ := h
    replace h := x_nil_e h
    obtain ⟨rfl, h⟩ := h
    replace h := x_okv_e h
    obtain ⟨h1, h⟩ := h
    replace h := x_leb_e h
    obtain ⟨h2, h⟩ := h
    replace h := x_leb_e h
    obtain ⟨h3, h⟩ := h
    obtain ⟨rfl, ty, hrt, hk⟩ : len = 1 ∧ ∃ ty, rt = some ty ∧ x_kd ty = ax := hf
    subst hk
    exact x_s_iret G hd hrt (x_ok_fits h1).1 h2 h3 h
  | areturn =>
    replace h := x_v1_e h
    obtain ⟨v, t, rfl, h⟩ := h
    replace h := x_nil_e h
    obtain ⟨rfl, h⟩ := h
    replace h := x_rfv_e h
    obtain ⟨h1, h⟩ := h
    replace h := x_leb_e h
    obtain ⟨h2, h⟩ := h
    replace h := x_leb_e h
    obtain ⟨h3, h⟩ := h
    obtain ⟨rfl, ty, hrt, hk⟩ : len = 1 ∧ ∃ ty, rt = some ty ∧ x_kd ty = 2 := hf
    refine x_s_aret G hd hrt ?_ h1 h2 h3 h
    cases ty <;> first | exact Or.inl ⟨_, rfl⟩ | exact Or.inr ⟨_, rfl⟩ | (exact absurd hk (by decide))
  | return_ =>
    replace h := x_nil_e h
    obtain ⟨rfl, h⟩ := h
    replace h := x_leb_e h
    obtain ⟨h2, h⟩ := h
    replace h := x_leb_e h
    obtain ⟨h3, h⟩ := h
    obtain ⟨rfl, hrt⟩ : len = 1 ∧ rt = none := hf
    exact x_s_vret G hd hrt h2 h3 h
  | getfield i =>
    replace h := x_r1_e h
    obtain ⟨a, t, rfl, h⟩ := h
    replace h := x_obj_e h
    obtain ⟨ci, fs, hfa, h⟩ := h
    replace h := x_som_e h
    obtain ⟨kd, hal, h⟩ := h
    replace h := x_som_e h
    obtain ⟨v, hv, h⟩ := h
    obtain ⟨rfl, hfl⟩ : len = 3 ∧ x_fld own i ax al := hf
    obtain ⟨C, T, N, hc, hk, hlk⟩ := hfl _ (x_lookup hal)
    exact x_s_get G hd hc hk hlk hfa hv (hK _ _ _ _ _ h)
  | putfield i =>
    replace h := x_vr_e h
    obtain ⟨v, a, t, rfl, h⟩ := h
    replace h := x_obj_e h
    obtain ⟨ci, fs, hfa, h⟩ := h
    replace h := x_som_e h
    obtain ⟨kd, hal, h⟩ := h
    replace h := x_som_e h
    obtain ⟨v0, hv0, h⟩ := h
    replace h := x_okv_e h
    obtain ⟨h1, h⟩ := h
    obtain ⟨h2, -⟩ := List.getElem?_eq_some_iff.mp hv0
    obtain ⟨rfl, hfl⟩ : len = 3 ∧ x_fwr own ini i ax al := hf
    obtain ⟨C, T, N, ty, hc, hk, hlk, hfin, hty, hkd⟩ := hfl _ (x_lookup hal)
    exact x_s_put G hd hc hk hlk hfin hty (by rw [hkd]; exact h1) hfa h2 (hK _ _ _ _ _ h)
  | arraylength =>
    replace h := x_r1_e h
    obtain ⟨a, t, rfl, h⟩ := h
    replace h := x_arr_e h
    obtain ⟨ti, n, g, hfa, h⟩ := h
    obtain rfl : len = 1 := hf
    exact x_s_alen G hd hfa (hK _ _ _ _ _ h)
  | iaload =>
    replace h := x_ir_e h
    obtain ⟨i, a, t, rfl, h⟩ := h
    replace h := x_arr_e h
    obtain ⟨ti, n, g, hfa, h⟩ := h
    replace h := x_eqn_e h
    obtain ⟨rfl, h2, h⟩ := h
    obtain ⟨rfl, hty⟩ : len = 1 ∧ x_ty[ti]? = some .int := hf
    exact x_s_ald G hd hfa (Or.inl ⟨rfl, hty⟩) h2 (hK _ _ _ _ _ h)
  | baload =>
    replace h := x_ir_e h
    obtain ⟨i, a, t, rfl, h⟩ := h
    replace h := x_arr_e h
    obtain ⟨ti, n, g, hfa, h⟩ := h
    replace h := x_eqn_e h
    obtain ⟨rfl, h2, h⟩ := h
    obtain ⟨rfl, hty⟩ : len = 1 ∧ x_ty[ti]? = some .boolean := hf
    exact x_s_ald G hd hfa (Or.inr (Or.inl ⟨rfl, hty⟩)) h2 (hK _ _ _ _ _ h)
  | aaload =>
    replace h := x_ir_e h
    obtain ⟨i, a, t, rfl, h⟩ := h
    replace h := x_arr_e h
    obtain ⟨ti, n, g, hfa, h⟩ := h
    replace h := x_som_e h
    obtain ⟨kd, hal, h2, h⟩ := h
    obtain ⟨rfl, hty⟩ : len = 1 ∧ ∀ q ∈ al, ∃ C, x_ty[q.1]? = some (.object C) := hf
    exact x_s_ald G hd hfa (Or.inr (Or.inr ⟨rfl, hty _ (x_lookup hal)⟩)) h2 (hK _ _ _ _ _ h)
  | iastore =>
    replace h := x_vir_e h
    obtain ⟨v, i, a, t, rfl, h⟩ := h
    replace h := x_arr_e h
    obtain ⟨ti, n, g, hfa, h⟩ := h
    replace h := x_eqn_e h
    obtain ⟨rfl, h2, h⟩ := h
    replace h := x_okv_e h
    obtain ⟨h3, h⟩ := h
    obtain ⟨rfl, hty⟩ : len = 1 ∧ x_ty[ti]? = some .int := hf
    cases v <;> first
      | exact x_s_iast G hd hfa hty h2 (hK _ _ _ _ _ h)
      | exact h3.elim
      | exact absurd (show (0 : Nat) = 2 from h3) (by decide)
  | bastore =>
    replace h := x_vir_e h
    obtain ⟨v, i, a, t, rfl, h⟩ := h
    replace h := x_arr_e h
    obtain ⟨ti, n, g, hfa, h⟩ := h
    replace h := x_eqn_e h
    obtain ⟨rfl, h2, h⟩ := h
    replace h := x_okv_e h
    obtain ⟨h3, h⟩ := h
    obtain ⟨rfl, hty⟩ : len = 1 ∧ x_ty[ti]? = some .boolean := hf
    cases v <;> first
      | exact x_s_bast G hd hfa hty h2 (h3.elim (fun q => absurd q (by decide)) (fun q => q.2)) (hK _ _ _ _ _ h)
      | exact h3.elim
      | exact absurd (show (1 : Nat) = 2 from h3) (by decide)
  | aastore =>
    replace h := x_vir_e h
    obtain ⟨v, i, a, t, rfl, h⟩ := h
    replace h := x_arr_e h
    obtain ⟨ti, n, g, hfa, h2, h⟩ := h
    obtain ⟨rfl, hal⟩ : len = 1 ∧ ∀ q ∈ al, ∃ (E : String) (r : vw_C), x_ty[q.1]? = some (.object E) ∧ x_cl[q.2]? = some r ∧ (r.1 = E ∨ Cond.castable r.1 E ∈ lw_tbl) := hf
    cases v <;> first
      | (replace h := x_obj_e h
         obtain ⟨ci, fs, hfb, h⟩ := h
         replace h := x_tru_e h
         obtain ⟨h3, h⟩ := h
         obtain ⟨E, r, hty, hc, hca⟩ := hal _ (List.contains_iff_mem.mp h3)
         exact x_s_aast G hd hfa hty h2 hfb hc hca (hK _ _ _ _ _ h))
      | (replace h := x_som_e h
         obtain ⟨ci, h3, h⟩ := h
         obtain ⟨E, r, hty, hc, hca⟩ := hal _ (x_lookup h3)
         exact x_s_aastN G hd hfa hty h2 (hK _ _ _ _ _ h))
      | exact h.elim
  | new i =>
    replace h := x_leb_e h
    obtain ⟨h1, h⟩ := h
    replace h := x_leb_e h
    obtain ⟨h2, h⟩ := h
    obtain ⟨rfl, C, T, N, ty, hc, hcl, hin, hii, hty, hfs, hlen⟩ := hf
    exact x_s_new G hd hc hcl hin hii ty hty hfs hlen h1 h2 (fun q hq => hK _ _ _ _ _ (h q hq))
  | newarray aty =>
    replace h := x_i1_e h
    obtain ⟨n, t, rfl, h1, h2, h3, h4, h⟩ := h
    obtain ⟨rfl, hty, haty, hac⟩ := hf
    exact x_s_newa G hd hty haty hac h1 h2 h3 h4 (fun q hq => hK _ _ _ _ _ (h q hq))
  | anewarray i =>
    replace h := x_i1_e h
    obtain ⟨n, t, rfl, h1, h2, h3, h4, h⟩ := h
    obtain ⟨rfl, C, hty, hcl, hao⟩ := hf
    exact x_s_newq G hd hty hcl hao h1 h2 h3 h4 (fun q hq => hK _ _ _ _ _ (h q hq))
  | checkcast i =>
    replace h := x_v1_e h
    obtain ⟨v, t, rfl, h⟩ := h
    obtain ⟨rfl, nm, hcl, hal⟩ := hf
    cases v <;> first
      | (replace h := x_obj_e h
         obtain ⟨ci, fs, hfa, h⟩ := h
         replace h := x_som_e h
         obtain ⟨b, hb, h⟩ := h
         obtain ⟨r, hc, hca⟩ := hal _ (x_lookup hb)
         exact x_s_cast G hd hcl hfa hc hca (hK _ _ _ _ _ h))
      | exact (fun H locs lsA hP hD hS hl => lv_castN G.1 G.2.1 hd (hK _ _ _ _ _ h H locs lsA hP hD hS hl))
      | exact h.elim
  | instanceof i =>
    replace h := x_v1_e h
    obtain ⟨v, t, rfl, h⟩ := h
    obtain ⟨rfl, nm, hcl, hal⟩ := hf
    cases v with
    | null => exact (fun H locs lsA hP hD hS hl => lv_instN G.1 G.2.1 hd (hK _ _ _ _ _ h H locs lsA hP hD hS hl))
    | ref a =>
      replace h := x_obj_e h
      obtain ⟨ci, fs, hfa, h⟩ := h
      replace h := x_som_e h
      obtain ⟨b, hb, h⟩ := h
      obtain ⟨r, hc, hca⟩ := hal _ (x_lookup hb)
      replace h := x_bit_e h
      rcases h with ⟨rfl, h⟩ | ⟨rfl, h⟩
      · exact x_s_inst G hd hcl hfa hc (Or.inr ⟨hca.elim (fun q => absurd (show (0 : Nat) = 1 from q.1) (by decide)) (fun q => q.2), hK _ _ _ _ _ h⟩)
      · exact x_s_inst G hd hcl hfa hc (Or.inl ⟨hca.elim (fun q => q.2) (fun q => absurd (show (1 : Nat) = 0 from q.1) (by decide)), hK _ _ _ _ _ h⟩)
    | _ => exact h.elim
  | ldc i =>
    obtain ⟨rfl, ⟨rfl, hlk⟩ | ⟨hne, hlk⟩⟩ := hf
    · intro H locs lsA hP hD hS hl
      exact lv_ldc G.1 G.2.1 G.2.2.2.1 (G.2.2.2.2.1 _ hlk) hd (hK _ _ _ _ _ h H locs lsA hP hD hS hl)
    · cases al with
      | nil => exact absurd rfl hne
      | cons q r =>
        intro H locs lsA hP hD hS hl
        exact va_ldcM G.1 G.2.1 G.2.2.2.1 (G.2.2.2.2.1 _ hlk) G.2.2.2.2.2.1.2.2.2.2.2.2 hd (hK _ _ _ _ _ h H locs lsA hP hD hS hl)
  | invokestatic i =>
    replace h := x_som_e h
    obtain ⟨⟨q1, q2⟩, hq, h⟩ := h
    obtain ⟨rfl, hal⟩ := hf
    rcases hal _ (List.mem_of_getElem? hq) with ⟨hq2, hs⟩ | ⟨hq2, hs⟩
    · have hq2 : q2 = 0 := hq2
      subst hq2
      replace h := x_pop_e _ _ _ _ h
      obtain ⟨h1, h⟩ := h
      replace h := x_le4_e h
      obtain ⟨h2, h⟩ := h
      rw [List.append_nil] at h
      exact x_s_static G hd hs h1 h2 (x_call_map (fun _ _ _ _ z => hK _ _ _ _ _ z) h)
    · have hq2 : q2 = 3 := hq2
      subst hq2
      replace h := x_cpy_e h
      obtain ⟨n, dp, d, sp, s0, t, rfl, h⟩ := h
      replace h := x_le4_e h
      obtain ⟨h1, h⟩ := h
      replace h := x_leb_e h
      obtain ⟨h2, h⟩ := h
      replace h := x_leb_e h
      obtain ⟨h3, h⟩ := h
      replace h := x_arr_e h
      obtain ⟨ti0, n0, g0, hf0, h⟩ := h
      replace h := x_arr_e h
      obtain ⟨ti1, n1, g1, hf1, h⟩ := h
      replace h := x_eqn_e h
      obtain ⟨rfl, h⟩ := h
      replace h := x_eqn_e h
      obtain ⟨rfl, ⟨c1, c2, c3, c4, c5, c6⟩, h⟩ := h
      exact x_s_cpy G hd hs hf0 hf1 c1 c2 c3 c4 c5 c6 h1 h2 h3 (hK _ _ _ _ _ h)
  | invokespecial i =>
    obtain ⟨rfl, ⟨rfl, hm1, hm2, hm3⟩ | ⟨hne, hal⟩⟩ := hf
    · replace h := x_r1_e h
      obtain ⟨a, t, rfl, h⟩ := h
      replace h := x_le4_e h
      obtain ⟨h1, h⟩ := h
      replace h := x_leb_e h
      obtain ⟨h2, h⟩ := h
      replace h := x_leb_e h
      obtain ⟨h3, h⟩ := h
      intro H locs lsA hP hD hS hl
      obtain ⟨hx, hb, hml, hown, hts, hKK, hz, -, -, -, hZ, rfl⟩ := G
      have h5 := x_room (m := m) (pc := pc) (ls := lsA) (rest := .ref a :: t) h1
      exact W.objInit hx hb hown (hts _ hm1) (hts _ hm2) (hts _ hm3) rfl (by rw [hml]; exact hl.1) rfl hd h2 (by show _ ≤ lo; omega) (hK _ _ _ _ _ h H locs lsA hP hD hS hl)
    · cases al with
      | nil => exact absurd rfl hne
      | cons q r =>
        replace h := x_pop_e _ _ _ _ h
        obtain ⟨h1, h⟩ := h
        replace h := x_r1_e h
        obtain ⟨b, t, hdr, h⟩ := h
        replace h := x_le4_e h
        obtain ⟨h2, h⟩ := h
        rw [List.append_nil] at h
        exact x_s_init G hd (hal _ List.mem_cons_self) h1 hdr h2 (x_call_map (fun _ _ _ _ z => hK _ _ _ _ _ z) h)
  | invokevirtual i =>
    obtain ⟨rfl, hg, hal⟩ := hf
    cases al with
    | nil =>
      replace h := x_r1_e h
      obtain ⟨a, t, rfl, h⟩ := h
      replace h := x_le4_e h
      obtain ⟨h1, h⟩ := h
      replace h := x_leb_e h
      obtain ⟨h2, h⟩ := h
      replace h := x_leb_e h
      obtain ⟨h3, h⟩ := h
      replace h := x_arr_e h
      obtain ⟨ti, n, g, hfa, h⟩ := h
      replace h := x_eqn_e h
      obtain ⟨rfl, h⟩ := h
      exact x_s_getC G hd (hg rfl) hfa h1 h2 h3 (hK _ _ _ _ _ h)
    | cons q0 r0 =>
      replace h := x_pop_e _ _ _ _ h
      obtain ⟨h1, h⟩ := h
      replace h := x_r1_e h
      obtain ⟨b, t, hdr, h⟩ := h
      replace h := x_le4_e h
      obtain ⟨h2, h⟩ := h
      rw [List.append_nil] at h
      replace h := x_obj_e h
      obtain ⟨ci, fs, hfb, h⟩ := h
      replace h := x_som_e h
      obtain ⟨y, hy, h⟩ := h
      exact x_s_virt G hd (hal _ (x_lookup hy)) h1 hdr h2 hfb (x_call_map (fun _ _ _ _ z => hK _ _ _ _ _ z) h)
  | _ => exact False.elim h
def x_fits (own : String) (nL : Nat) (rt : Option FieldType) (ini : Bool) (cc : ByteArray) : Nat → List XO → Prop
  | _, [] => True
  | pc, o :: r => (decode cc pc = .ok (o.1, o.2.1) ∧ x_fit own nL rt ini pc o) ∧ x_fits own nL rt ini cc (pc + o.2.1) r
theorem x_run_sound (G : x_ctx X p R s m args meth c cc nL own ini rt fr lo mc ms) (J : XJ) (hJ : ∀ pc ls st f nc ns, J pc ls st f nc ns → x_go X p e R s m args below meth c nL mc ms RQ pc ls st f nc ns) :
    ∀ (ops : List XO) (pc : Nat) (ls : XL) (st : List Value) (f : XH) (nc ns : Nat), x_fits own nL rt ini cc pc ops → x_run X fr lo mc ms J RQ ops pc ls st f nc ns → x_go X p e R s m args below meth c nL mc ms RQ pc ls st f nc ns
  | [], pc, ls, st, f, nc, ns, _, h => hJ _ _ _ _ _ _ h
  | o :: r, pc, ls, st, f, nc, ns, hf, h => x_step_sound G o hf.1.1 hf.1.2 J hJ _ (fun ls st f nc ns hk => x_run_sound G J hJ r _ ls st f nc ns hf.2 hk) h
end XS
/-- a method: its class's name, whether it is a constructor, its blocks -/
def x_mok (y : Nat) (own : String) (ini : Bool) (B : List (Nat × List XO)) : Prop :=
  (x_mt y).1.cls = own ∧ plainFor (x_mt y).1 = true ∧ (ini = true → (x_mt y).1.name = "<init>") ∧ ∀ q ∈ B, x_fits own (x_mt y).2.2.1 (x_mt y).2.2.2 ini (x_mt y).2.1 q.1 q.2
def x_arg (av : List Value) : XL := fun i => av[i]?
theorem x_arg_has (av : List Value) {n : Nat} (hav : ∀ v ∈ av, x_one v) (hn : av.length ≤ n) : x_has ((lg_sl av ++ List.replicate (n - (lg_sl av).length) Slot.unset).toArray) n (x_arg av) := by
  have h1 : ∀ l : List Value, (∀ v ∈ l, x_one v) → (lg_sl l).length = l.length := by
    intro l
    induction l with
    | nil => intro _; rfl
    | cons v t ih =>
      intro h
      have hv := x_one_c (h v List.mem_cons_self)
      have ih := ih (fun w hw => h w (List.mem_cons_of_mem _ hw))
      have e : lg_sl (v :: t) = .val v :: lg_sl t := by simp [lg_sl, hv]
      rw [e, List.length_cons, ih, List.length_cons]
  have h2 : ∀ (l : List Value) (k i : Nat) (v : Value), (∀ v ∈ l, x_one v) → l[i]? = some v → (k + i, v) ∈ lv_args k l := by
    intro l
    induction l with
    | nil => intro k i v _ h; cases h
    | cons w t ih =>
      intro k i v h hi
      have hw := x_one_c (h w List.mem_cons_self)
      cases i with
      | zero =>
        cases hi
        exact List.mem_cons_self
      | succ j =>
        have := ih (k + 1) j v (fun w hw => h w (List.mem_cons_of_mem _ hw)) hi
        rw [show k + (j + 1) = k + 1 + j by omega]
        unfold lv_args
        rw [if_neg (by rw [hw]; decide)]
        exact List.mem_cons_of_mem _ this
  have h3 := lv_entry av (n := n) (by rw [h1 av hav]; exact hn)
  refine ⟨h3.1, h3.2.1, fun i v hi => ⟨?_, x_one_c (hav v (List.mem_of_getElem? hi))⟩⟩
  have := h2 av 0 i v hav hi
  rw [Nat.zero_add] at this
  exact h3.2.2 _ this
theorem x_met {X : XC} {y : Nat} {own : String} {ini : Bool} {B : List (Nat × List XO)} {av : List Value} {f : XH} {fr lo mc ms : Nat} {RQ : Option Value → XH → Prop} (hm : x_mok y own ini B) (hav : ∀ v ∈ av, x_one v) (hn : av.length ≤ (x_mt y).2.2.1)
    (h : ∀ go : XJ, (∀ pc ops ls st f nc ns, B.lookup pc = some ops → x_run X fr lo mc ms go RQ ops pc ls st f nc ns → go pc ls st f nc ns) → go 0 (x_arg av) [] f 0 0) : Holds X y av f fr lo mc ms RQ := by
  obtain ⟨hown, hpl, hin, hB⟩ := hm
  refine va_MetF (cc := (x_mt y).2.1) (maxL := (x_mt y).2.2.1) (ret := (x_mt y).2.2.2) hpl rfl ?_
  intro p e s m args below meth c s₁ Bd hml hv
  obtain ⟨rfl, hP, hD, hK, hz, hZ⟩ := hv
  have hts := atoms_spec (ws := x_mw y) Bd.pre
  have hfc : s.vm.findClass own = some m.cls := by rw [← hown]; exact findClass_of_methodNamed Bd.named
  have hnm := (name_of_methodNamed Bd.named Bd.method).1
  have G : x_ctx X p { frames := fr, cells := mc, slots := ms, locals := lo } s m av.toArray meth c (x_mt y).2.1 (x_mt y).2.2.1 own ini (x_mt y).2.2.2 fr lo mc ms :=
    ⟨Bd.exec, Bd.bytes, hml, hfc, fun w hw => hts w (List.mem_cons_of_mem _ hw), hK, hz, Bd.returns, Bd.notSynchronized, fun q => hnm.trans (hin q), hZ, rfl⟩
  have hgo := h (x_go X p e { frames := fr, cells := mc, slots := ms, locals := lo } s m av.toArray below meth c (x_mt y).2.2.1 mc ms RQ) (fun pc ops ls st f nc ns hl hr => x_run_sound G _ (fun _ _ _ _ _ _ q => q) ops pc ls st f nc ns (hB _ (x_lookupB hl)) hr)
  rw [lg_entry_eq]
  exact hgo s.heap [] _ hP hD va_S.rf (x_arg_has av hav hn)
