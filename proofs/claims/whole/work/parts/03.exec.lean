/-! The executor: a method's straight pieces of code as lists of operations (an instruction, its length, a number, a list of pairs, a constant); 'x_run' turns such a piece into the proposition that must hold at its start; 'x_sound' says that this is enough for the machine. The heap is a partial function from addresses to objects (class number, fields) and arrays (type number, length, contents). -/
abbrev XE : Type := (Nat × List Value) ⊕ (Nat × Nat × (Nat → Value))
abbrev XH : Type := Nat → Option XE
abbrev XL : Type := Nat → Option Value
abbrev XJ : Type := Nat → XL → List Value → XH → Nat → Nat → Prop
abbrev XK : Type := XL → List Value → XH → Nat → Nat → Prop
abbrev XO : Type := ClassFile.Instr × Nat × Nat × List (Nat × Nat) × Int32
-- the launch, where classes and fields lie, the array classes, the heap's size at the start, the cell of ArrayList's empty array, the addresses of constants (0: that array, 1: the class object of Object[])
abbrev XC : Type := Launch × va_G × (Nat → ClassId) × Nat × Cell × (Nat → Nat)
abbrev x_z (X : XC) : Nat := X.2.2.2.1
abbrev x_c0 (X : XC) : Cell := X.2.2.2.2.1
abbrev x_k (X : XC) : Nat → Nat := X.2.2.2.2.2
-- what the stack and the heap hold
abbrev x_int (v : Value) (k : Int32 → Prop) : Prop := match v with
  | .int x => k x
  | _ => False
abbrev x_i1 (st : List Value) (k : Int32 → List Value → Prop) : Prop := match st with
  | .int x :: t => k x t
  | _ => False
abbrev x_i2 (st : List Value) (k : Int32 → Int32 → List Value → Prop) : Prop := match st with
  | .int y :: .int x :: t => k x y t
  | _ => False
abbrev x_v1 (st : List Value) (k : Value → List Value → Prop) : Prop := match st with
  | v :: t => k v t
  | _ => False
abbrev x_v2 (st : List Value) (k : Value → Value → List Value → Prop) : Prop := match st with
  | v :: w :: t => k v w t
  | _ => False
abbrev x_r1 (st : List Value) (k : Nat → List Value → Prop) : Prop := match st with
  | .ref a :: t => k a t
  | _ => False
/-- a value over a reference -/
abbrev x_vr (st : List Value) (k : Value → Nat → List Value → Prop) : Prop := match st with
  | v :: .ref a :: t => k v a t
  | _ => False
/-- an index over a reference -/
abbrev x_ir (st : List Value) (k : Int32 → Nat → List Value → Prop) : Prop := match st with
  | .int i :: .ref a :: t => k i a t
  | _ => False
/-- a value over an index over a reference -/
abbrev x_vir (st : List Value) (k : Value → Int32 → Nat → List Value → Prop) : Prop := match st with
  | v :: .int i :: .ref a :: t => k v i a t
  | _ => False
def x_isr (v : Value) : Prop := match v with
  | .ref _ => True
  | .null => True
  | _ => False
def x_one (v : Value) : Prop := match v with
  | .int _ => True
  | .ref _ => True
  | .null => True
  | _ => False
noncomputable abbrev x_som {α : Type} (o : Option α) (k : α → Prop) : Prop := Option.rec (motive := fun _ => Prop) False k o
noncomputable abbrev x_tru (b : Bool) (P : Prop) : Prop := Bool.rec (motive := fun _ => Prop) False P b
/-- a reference, or a value of one slot: else nothing is said -/
abbrev x_rfv (v : Value) (P : Prop) : Prop := match v with
  | .ref _ => P
  | .null => P
  | _ => False
abbrev x_onv (v : Value) (P : Prop) : Prop := match v with
  | .int _ => P
  | .ref _ => P
  | .null => P
  | _ => False
/-- a value of a kind: 0 an int, 1 a boolean, 2 a reference -/
abbrev x_okv (kd : Nat) (v : Value) (P : Prop) : Prop := match kd, v with
  | 0, .int _ => P
  | 1, .int x => (x = 0 ∨ x = 1) ∧ P
  | 2, .ref _ => P
  | 2, .null => P
  | _, _ => False
abbrev x_nil (t : List Value) (P : Prop) : Prop := match t with
  | [] => P
  | _ => False
abbrev x_le4 (t : List Value) (P : Prop) : Prop := match t with
  | [] => P
  | [_] => P
  | [_, _] => P
  | [_, _, _] => P
  | [_, _, _, _] => P
  | _ => False
/-- n values off the stack, the last one first -/
def x_pop : Nat → List Value → List Value → (List Value → List Value → Prop) → Prop
  | 0, st, acc, k => k acc st
  | n + 1, st, acc, k => match st with
    | v :: t => x_pop n t (v :: acc) k
    | [] => False
/-- there is room; two numbers are one -/
noncomputable abbrev x_leb (a b : Nat) (P : Prop) : Prop := x_tru (Nat.ble a b) P
noncomputable abbrev x_eqn (a b : Nat) (P : Prop) : Prop := x_tru (Nat.beq a b) P
def x_obj (e : Option XE) (k : Nat → List Value → Prop) : Prop := ∃ (ci : Nat) (fs : List Value), e = some (.inl (ci, fs)) ∧ k ci fs
def x_arr (e : Option XE) (k : Nat → Nat → (Nat → Value) → Prop) : Prop := ∃ (ti n : Nat) (g : Nat → Value), e = some (.inr (ti, n, g)) ∧ k ti n g
abbrev x_nul (st : List Value) (kn kr : List Value → Prop) : Prop := match st with
  | .null :: t => kn t
  | .ref _ :: t => kr t
  | _ => False
def x_br (o : ClassFile.Cond) (x y : Int32) (kt kf : Prop) : Prop := match o with
  | .eq => (x = y → kt) ∧ (¬ x = y → kf)
  | .ne => (¬ x = y → kt) ∧ (x = y → kf)
  | .lt => (x < y → kt) ∧ (¬ x < y → kf)
  | .ge => (y ≤ x → kt) ∧ (¬ y ≤ x → kf)
  | .gt => (y < x → kt) ∧ (¬ y < x → kf)
  | .le => (x ≤ y → kt) ∧ (¬ x ≤ y → kf)
def x_ab (o : ClassFile.ACond) (x y : Value) (kt kf : Prop) : Prop := match o with
  | .eq => (x = y → kt) ∧ (¬ x = y → kf)
  | .ne => (¬ x = y → kt) ∧ (x = y → kf)
-- the world: what a method finds, and what it leaves
def x_at (X : XC) (a : Nat) (e : XE) (H : Heap) : Prop := match e with
  | .inl o => ∃ r : vw_C, x_cl[o.1]? = some r ∧ t_OB a (X.2.1.1 o.1) r.2.2 (X.2.1.2 o.1) H (vp_V o.2)
  | .inr o => (o.1 < x_ty.length ∧ H[a]? = some (arrV (X.2.2.1 o.1) o.2.1 o.2.2)) ∨ (o.1 = 99 ∧ o.2.1 = 0 ∧ H[a]? = some (x_c0 X))
def x_P (X : XC) (f : XH) (H : Heap) : Prop := ∀ (a : Nat) (e : XE), f a = some e → x_at X a e H
def x_A (X : XC) : Nat → Prop := fun q => x_z X ≤ q
def x_D (X : XC) (f : XH) : Prop := ∀ (a : Nat) (e : XE), f a = some e → x_A X a ∨ ∃ g, e = .inr (99, 0, g)
/-- words that ride with the world -/
def x_isN (w : Cond) : Bool := match w with
  | .fieldLinkNest _ _ _ _ _ _ => true
  | .methodLinkNest _ _ _ _ => true
  | .declares _ => true
  | .castable _ _ => true
  | _ => false
def x_K (X : XC) (U : State) : Prop := (∀ (c : Nat) (q : vw_C), x_cl[c]? = some q → u_Kn U q.1 q.2.1 q.2.2 (X.2.1.1 c) (X.2.1.2 c)) ∧ (∀ (k : Nat) (ty : FieldType), x_ty[k]? = some ty → ArrOfT U (X.2.2.1 k) ty ∧ va_RA U (X.2.2.1 k) ty) ∧ (∀ w ∈ lw_tbl, x_isN w = true → va_Nw w U) ∧ (∀ C ∈ x_ao, va_AO C U) ∧ (∀ q ∈ x_nc, va_Nc q.1 q.2 U) ∧ (U.isArrayOf (x_c0 X) (.object "java/lang/Object") ∧ (x_c0 X).slots.size = 0) ∧ va_Mi "[Ljava/lang/Object;" (x_k X 1) U
theorem x_K.warm {X : XC} {s U : State} (hW : s.WarmedH U.vm) (h : x_K X s) : x_K X U := by
  have hvm := hW.alike
  refine ⟨fun c q hq => u_Kn_moved hvm (h.1 c q hq), fun k ty hk => ⟨arrOfT_moved hvm (h.2.1 k ty hk).1, (h.2.1 k ty hk).2.moved hvm⟩, fun w hw hn => ?_, fun C hC => (h.2.2.2.1 C hC).moved hvm, fun q hq => (h.2.2.2.2.1 q hq).moved hvm, ⟨State.isArrayOf_alike hvm h.2.2.2.2.2.1.1, h.2.2.2.2.2.1.2⟩, h.2.2.2.2.2.2.moved hvm⟩
  have h1 := h.2.2.1 w hw hn
  cases w <;> first | exact va_Nw.warmF hW h1 | exact va_Nw.warmM hW h1 | exact va_Nw.warmD hW h1 | exact va_Nw.warmC hW h1 | (exact absurd hn (by decide)) | (cases hn)
/-- the static that holds ArrayList's empty array -/
def x_Z (X : XC) (U : State) (H : Heap) : Prop := va_Z "java/util/ArrayList" "DEFAULTCAPACITY_EMPTY_ELEMENTDATA" "[Ljava/lang/Object;" (.ref (x_k X 0)) (x_A X) U H
theorem x_good_or {w : Cond} (h : x_good w = true) : (w.onTables && w.keeps) = true ∨ ∃ ty, w = .arrayClass ty := by
  unfold x_good at h
  rcases Bool.or_eq_true_iff.mp h with h | h
  · exact Or.inl h
  · right
    cases w <;> first | exact ⟨_, rfl⟩ | (cases h)
abbrev x_mw (y : Nat) : List Cond := .code (x_mt y).1 (x_mt y).2.1 (x_mt y).2.2.1 (x_mt y).2.2.2 :: x_ws
abbrev x_mc (y : Nat) : Cond := .code (x_mt y).1 (x_mt y).2.1 (x_mt y).2.2.1 (x_mt y).2.2.2
theorem x_goodIn {a b : Cond} (hb : b ∈ lw_tbl) (hg : x_good b = true) : GoodIn (a :: x_ws) (b :: x_ws) := by
  intro w hw
  rcases List.mem_cons.mp hw with h | h
  · subst h
    exact ⟨List.mem_cons_of_mem _ (x_in hb hg), x_good_or hg⟩
  · exact ⟨List.mem_cons_of_mem _ h, x_good_or (List.mem_filter.mp h).2⟩
def x_pre (X : XC) (av : List Value) (f : XH) : Array Value → State → Prop := fun v U => v = av.toArray ∧ x_P X f U.heap ∧ x_D X f ∧ x_K X U ∧ x_z X ≤ U.heap.size ∧ x_Z X U U.heap
def x_post (X : XC) (Q : Option Value → XH → Prop) : Array Value → State → Outcome → State → Prop := fun _ st oc t => (∃ (r : Option Value) (f : XH), oc = .returned r ∧ Q r f ∧ x_P X f t.heap ∧ x_D X f) ∧ va_F (x_A X) st t
/-- method y, called with av in the heap f, comes back, with Q of its answer and of the heap: the contract -/
def Holds (X : XC) (y : Nat) (av : List Value) (f : XH) (fr lo mc ms : Nat) (Q : Option Value → XH → Prop) : Prop :=
  Met X.1 (x_mt y).1 (x_mw y) { frames := fr, cells := mc, slots := ms, locals := lo } (x_pre X av f) (x_post X Q) mc ms (x_A X)
def x_call (X : XC) (fr lo mc ms y : Nat) (av : List Value) (f : XH) (nc ns : Nat) (k : Option Value → XH → Nat → Nat → Prop) : Prop :=
  ∃ (fr' lo' mc' ms' : Nat) (Q : Option Value → XH → Prop), Holds X y av f fr' lo' mc' ms' Q ∧ (fr' + 1 ≤ fr ∧ 8 + ((x_mt y).2.2.1 + 11) + lo' ≤ lo ∧ nc + mc' ≤ mc ∧ ns + ms' ≤ ms) ∧ ∀ r f', Q r f' → k r f' (nc + mc') (ns + ms')
/-- an element for an array of references, a cast, a question for the class: by the classes that a table names -/
noncomputable abbrev x_sto (al : List (Nat × Nat)) (ti : Nat) (f : XH) (v : Value) (P : Prop) : Prop := match v with
  | .null => x_som (al.lookup ti) fun _ => P
  | .ref w => x_obj (f w) fun ci _ => x_tru (al.contains (ti, ci)) P
  | _ => False
noncomputable abbrev x_cst (al : List (Nat × Nat)) (f : XH) (v : Value) (P : Prop) : Prop := match v with
  | .null => P
  | .ref w => x_obj (f w) fun ci _ => x_som (al.lookup ci) fun _ => P
  | _ => False
abbrev x_bit (b : Nat) (k : Int32 → Prop) : Prop := match b with
  | 0 => k 0
  | 1 => k 1
  | _ => False
noncomputable abbrev x_ins (al : List (Nat × Nat)) (f : XH) (v : Value) (k : Int32 → Prop) : Prop := match v with
  | .null => k 0
  | .ref w => x_obj (f w) fun ci _ => x_som (al.lookup ci) fun b => x_bit b k
  | _ => False
/-- what an array of Objects takes from another -/
def x_elo (f : XH) (v : Value) : Prop := v = .null ∨ ∃ (w ci : Nat) (fs : List Value), v = .ref w ∧ f w = some (.inl (ci, fs)) ∧ ci ∈ x_ob
abbrev x_cpy (st : List Value) (k : Int32 → Int32 → Nat → Int32 → Nat → List Value → Prop) : Prop := match st with
  | .int n :: .int dp :: .ref d :: .int sp :: .ref s :: t => k n dp d sp s t
  | _ => False
def x_swt (pc : Nat) (d lo hi : Int) (os : List Int) (x : Int32) : Nat := if x.toInt < lo ∨ hi < x.toInt then ((pc : Int) + d).toNat else ((pc : Int) + os.getD (x.toInt - lo).toNat 0).toNat
/-- one instruction -/
noncomputable def x_step (X : XC) (fr lo mc ms : Nat) (J : XJ) (RQ : Option Value → XH → Prop) (o : XO) (pc : Nat) (ls : XL) (st : List Value) (f : XH) (nc ns : Nat) (K : XK) : Prop := match o.1 with
  | .iconst _ => K ls (.int o.2.2.2.2 :: st) f nc ns
  | .bipush _ => K ls (.int o.2.2.2.2 :: st) f nc ns
  | .sipush _ => K ls (.int o.2.2.2.2 :: st) f nc ns
  | .aconst_null => K ls (.null :: st) f nc ns
  | .getstatic _ => K ls (.ref (x_k X 0) :: st) f nc ns
  | .iload _ => x_som (ls o.2.2.1) fun v => x_int v fun x => K ls (.int x :: st) f nc ns
  | .iload_n _ => x_som (ls o.2.2.1) fun v => x_int v fun x => K ls (.int x :: st) f nc ns
  | .aload _ => x_som (ls o.2.2.1) fun v => x_rfv v (K ls (v :: st) f nc ns)
  | .aload_n _ => x_som (ls o.2.2.1) fun v => x_rfv v (K ls (v :: st) f nc ns)
  | .istore _ => x_i1 st fun x t => K (va_up ls o.2.2.1 (some (.int x))) t f nc ns
  | .istore_n _ => x_i1 st fun x t => K (va_up ls o.2.2.1 (some (.int x))) t f nc ns
  | .astore _ => x_v1 st fun v t => x_rfv v (K (va_up ls o.2.2.1 (some v)) t f nc ns)
  | .astore_n _ => x_v1 st fun v t => x_rfv v (K (va_up ls o.2.2.1 (some v)) t f nc ns)
  | .iinc _ _ => x_som (ls o.2.2.1) fun v => x_int v fun x => K (va_up ls o.2.2.1 (some (.int (x + o.2.2.2.2)))) st f nc ns
  | .iadd => x_i2 st fun x y t => K ls (.int (x + y) :: t) f nc ns
  | .isub => x_i2 st fun x y t => K ls (.int (x - y) :: t) f nc ns
  | .imul => x_i2 st fun x y t => K ls (.int (x * y) :: t) f nc ns
  | .iand => x_i2 st fun x y t => K ls (.int (x &&& y) :: t) f nc ns
  | .ior => x_i2 st fun x y t => K ls (.int (x ||| y) :: t) f nc ns
  | .ixor => x_i2 st fun x y t => K ls (.int (x ^^^ y) :: t) f nc ns
  | .idiv => x_i2 st fun x y t => ¬ y = 0 ∧ K ls (.int (x / y) :: t) f nc ns
  | .irem => x_i2 st fun x y t => ¬ y = 0 ∧ K ls (.int (x - x / y * y) :: t) f nc ns
  | .ishl => x_i2 st fun x y t => K ls (.int (x <<< (y &&& 31)) :: t) f nc ns
  | .ishr => x_i2 st fun x y t => K ls (.int (x >>> (y &&& 31)) :: t) f nc ns
  | .ineg => x_i1 st fun x t => K ls (.int (-x) :: t) f nc ns
  | .dup => x_v1 st fun v t => x_onv v (K ls (v :: v :: t) f nc ns)
  | .dup_x1 => x_v2 st fun v w t => x_onv v (x_onv w (K ls (v :: w :: v :: t) f nc ns))
  | .dup2 => x_v2 st fun v w t => x_onv v (x_onv w (K ls (v :: w :: v :: w :: t) f nc ns))
  | .pop => x_v1 st fun v t => x_onv v (K ls t f nc ns)
  | .ifCond c _ => x_i1 st fun x t => x_br c x 0 (J o.2.2.1 ls t f nc ns) (K ls t f nc ns)
  | .if_icmp c _ => x_i2 st fun x y t => x_br c x y (J o.2.2.1 ls t f nc ns) (K ls t f nc ns)
  | .if_acmp c _ => x_v2 st fun y x t => x_rfv x (x_rfv y (x_ab c x y (J o.2.2.1 ls t f nc ns) (K ls t f nc ns)))
  | .ifnull _ => x_nul st (fun t => J o.2.2.1 ls t f nc ns) (fun t => K ls t f nc ns)
  | .ifnonnull _ => x_nul st (fun t => K ls t f nc ns) (fun t => J o.2.2.1 ls t f nc ns)
  | .goto _ => J o.2.2.1 ls st f nc ns
  | .tableswitch d l h os => x_i1 st fun x t => J (x_swt pc d l h os.toList x) ls t f nc ns
  | .ireturn => x_i1 st fun x t => x_nil t (x_okv o.2.2.1 (.int x) (x_leb nc mc (x_leb ns ms (RQ (some (.int x)) f))))
  | .areturn => x_v1 st fun v t => x_nil t (x_rfv v (x_leb nc mc (x_leb ns ms (RQ (some v) f))))
  | .return_ => x_nil st (x_leb nc mc (x_leb ns ms (RQ none f)))
  | .getfield _ => x_r1 st fun a t => x_obj (f a) fun ci fs => x_som (o.2.2.2.1.lookup ci) fun _ => x_som (fs[o.2.2.1]?) fun v => K ls (v :: t) f nc ns
  | .putfield _ => x_vr st fun v a t => x_obj (f a) fun ci fs => x_som (o.2.2.2.1.lookup ci) fun kd => x_som (fs[o.2.2.1]?) fun _ => x_okv kd v (K ls t (va_up f a (some (.inl (ci, fs.set o.2.2.1 v)))) nc ns)
  | .arraylength => x_r1 st fun a t => x_arr (f a) fun _ n _ => K ls (.int (nI n) :: t) f nc ns
  | .iaload => x_ir st fun i a t => x_arr (f a) fun ti n g => x_eqn ti o.2.2.1 (vp_in i n ∧ K ls (g i.toNatClampNeg :: t) f nc ns)
  | .baload => x_ir st fun i a t => x_arr (f a) fun ti n g => x_eqn ti o.2.2.1 (vp_in i n ∧ K ls (g i.toNatClampNeg :: t) f nc ns)
  | .aaload => x_ir st fun i a t => x_arr (f a) fun ti n g => x_som (o.2.2.2.1.lookup ti) fun _ => vp_in i n ∧ K ls (g i.toNatClampNeg :: t) f nc ns
  | .iastore => x_vir st fun v i a t => x_arr (f a) fun ti n g => x_eqn ti o.2.2.1 (vp_in i n ∧ x_okv 0 v (K ls t (va_up f a (some (.inr (ti, n, va_up g i.toNatClampNeg v)))) nc ns))
  | .bastore => x_vir st fun v i a t => x_arr (f a) fun ti n g => x_eqn ti o.2.2.1 (vp_in i n ∧ x_okv 1 v (K ls t (va_up f a (some (.inr (ti, n, va_up g i.toNatClampNeg v)))) nc ns))
  | .aastore => x_vir st fun v i a t => x_arr (f a) fun ti n g => vp_in i n ∧ x_sto o.2.2.2.1 ti f v (K ls t (va_up f a (some (.inr (ti, n, va_up g i.toNatClampNeg v)))) nc ns)
  | .new _ => x_leb (nc + 1) mc (x_leb (ns + (x_df o.2.2.1).length) ms (∀ q : Nat, f q = none → K ls (.ref q :: st) (va_up f q (some (.inl (o.2.2.1, x_df o.2.2.1)))) (nc + 1) (ns + (x_df o.2.2.1).length)))
  | .newarray _ => x_i1 st fun n t => ¬ n < 0 ∧ n.toNatClampNeg ≤ 1000000 ∧ nc + 1 ≤ mc ∧ ns + n.toNatClampNeg ≤ ms ∧ ∀ q : Nat, f q = none → K ls (.ref q :: t) (va_up f q (some (.inr (o.2.2.1, n.toNatClampNeg, fun _ => .int 0)))) (nc + 1) (ns + n.toNatClampNeg)
  | .anewarray _ => x_i1 st fun n t => ¬ n < 0 ∧ n.toNatClampNeg ≤ 1000000 ∧ nc + 1 ≤ mc ∧ ns + n.toNatClampNeg ≤ ms ∧ ∀ q : Nat, f q = none → K ls (.ref q :: t) (va_up f q (some (.inr (o.2.2.1, n.toNatClampNeg, fun _ => .null)))) (nc + 1) (ns + n.toNatClampNeg)
  | .checkcast _ => x_v1 st fun v t => x_cst o.2.2.2.1 f v (K ls (v :: t) f nc ns)
  | .instanceof _ => x_v1 st fun v t => x_ins o.2.2.2.1 f v fun b => K ls (.int b :: t) f nc ns
  | .ldc _ => match o.2.2.2.1 with
    | [] => K ls (.int o.2.2.2.2 :: st) f nc ns
    | _ :: _ => K ls (.ref (x_k X 1) :: st) f nc ns
  | .invokestatic _ => x_som (o.2.2.2.1[0]?) fun q => match q.2 with
    | 0 => x_pop q.1 st [] fun av t => x_le4 t (x_call X fr lo mc ms o.2.2.1 av f nc ns fun r f' nc' ns' => K ls (r.toList ++ t) f' nc' ns')
    | 3 => x_cpy st fun n dp d sp s0 t => x_le4 t (x_leb 1 fr (x_leb 60 lo (x_arr (f s0) fun ti0 n0 g0 => x_arr (f d) fun ti1 n1 g1 => x_eqn ti0 o.2.2.1 (x_eqn ti1 o.2.2.1 ((¬ sp < 0 ∧ ¬ dp < 0 ∧ ¬ n < 0 ∧ sp.toNatClampNeg + n.toNatClampNeg ≤ n0 ∧ dp.toNatClampNeg + n.toNatClampNeg ≤ n1 ∧ ∀ j, j < n.toNatClampNeg → x_elo f (g0 (sp.toNatClampNeg + j))) ∧ K ls t (va_up f d (some (.inr (ti1, n1, va_cpy g0 g1 sp.toNatClampNeg dp.toNatClampNeg n.toNatClampNeg)))) nc ns)))))
    | _ => False
  | .invokespecial _ => match o.2.2.2.1 with
    | [] => x_r1 st fun _ t => x_le4 t (x_leb 1 fr (x_leb 20 lo (K ls t f nc ns)))
    | q :: _ => x_pop q.1 st [] fun av u => x_r1 u fun b t => x_le4 t (x_call X fr lo mc ms o.2.2.1 (.ref b :: av) f nc ns fun r f' nc' ns' => K ls (r.toList ++ t) f' nc' ns')
  | .invokevirtual _ => match o.2.2.2.1 with
    | [] => x_r1 st fun a t => x_le4 t (x_leb 1 fr (x_leb 30 lo (x_arr (f a) fun ti _ _ => x_eqn ti o.2.2.1 (K ls (.ref (x_k X 1) :: t) f nc ns))))
    | _ :: _ => x_pop o.2.2.1 st [] fun av u => x_r1 u fun b t => x_le4 t (x_obj (f b) fun ci _ => x_som (o.2.2.2.1.lookup ci) fun y => x_call X fr lo mc ms y (.ref b :: av) f nc ns fun r f' nc' ns' => K ls (r.toList ++ t) f' nc' ns')
  | _ => False
noncomputable def x_run (X : XC) (fr lo mc ms : Nat) (J : XJ) (RQ : Option Value → XH → Prop) : List XO → Nat → XL → List Value → XH → Nat → Nat → Prop
  | [], pc, ls, st, f, nc, ns => J pc ls st f nc ns
  | o :: r, pc, ls, st, f, nc, ns => x_step X fr lo mc ms J RQ o pc ls st f nc ns (fun ls st f nc ns => x_run X fr lo mc ms J RQ r (pc + o.2.1) ls st f nc ns)
