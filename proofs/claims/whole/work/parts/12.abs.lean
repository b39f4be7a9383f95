/-! The executor over the picture: values are integers, or places of the picture (kind, number); a store is written and read as the functions v, L. What 'a_run' asks for is what 'x_run' asks for in every heap that has the picture. -/
abbrev AV : Type := Int ⊕ Option (Nat × Nat)
abbrev SV : Type := Nat → Nat → Int
abbrev SL : Type := Nat → List Nat
abbrev AQ : Type := Option AV → SV → SL → Prop
abbrev ALc : Type := Nat → Option AV
abbrev aI (z : Int) : AV := .inl z
abbrev aR (k i : Nat) : AV := .inr (some (k, i))
abbrev aN : AV := .inr none
abbrev AJ : Type := Nat → ALc → List AV → SV → SL → Nat → Nat → Prop
abbrev AK : Type := ALc → List AV → SV → SL → Nat → Nat → Prop
def cv (A : Nat → Nat → Nat) (v : AV) : Value := match v with
  | .inl z => .int (iI z)
  | .inr none => .null
  | .inr (some p) => .ref (A p.1 p.2)
def cvl (A : Nat → Nat → Nat) (ls : ALc) : XL := fun n => (ls n).map (cv A)
def PS (X : XC) (f : XH) (A : Nat → Nat → Nat) (DA : Nat → Nat) (v : SV) (L : SL) : Prop := PC X f A DA v L ∧ ∀ c i, iS (v c i)
/-- method y, called with av in every heap of the picture s -/
def AHolds (X : XC) (y : Nat) (av : List AV) (v : SV) (L : SL) (fr lo mc ms : Nat) (Q : AQ) : Prop :=
  ∀ (f : XH) (A : Nat → Nat → Nat) (DA : Nat → Nat), PS X f A DA v L → Holds X y (av.map (cv A)) f fr lo mc ms (fun r f' => ∃ (ra : Option AV) (v' : SV) (L' : SL) (DA' : Nat → Nat), r = ra.map (cv A) ∧ PS X f' A DA' v' L' ∧ Q ra v' L')
def wr (z : Int) : Int := (iI z).toInt
theorem wr_e (z : Int) : iI (wr z) = iI z := (iI_of (iI z)).symm
theorem wr_i (z : Int) : iS (wr z) := ⟨(iI z).le_toInt, (iI z).toInt_lt⟩
theorem wr_s {z : Int} (h : iS z) : wr z = z := iI_t h.1 h.2
abbrev a_live5 (v : Nat → Nat → Int) (t : Nat) : Prop := v 20 t = 1 ∨ v 20 t = 2 ∨ v 20 t = 3
/-- a side condition, then the rest -/
theorem a_si {P K : Prop} (h : P) (k : K) : ∃ _ : P, K := ⟨h, k⟩
noncomputable abbrev a_int (v : AV) (k : Int → Prop) : Prop := Sum.rec (motive := fun _ => Prop) k (fun _ => False) v
noncomputable abbrev a_ref (v : AV) (k : Prop) : Prop := Sum.rec (motive := fun _ => Prop) (fun _ => False) (fun _ => k) v
abbrev a_i1 (st : List AV) (k : Int → List AV → Prop) : Prop := match st with
  | .inl x :: t => k x t
  | _ => False
abbrev a_i2 (st : List AV) (k : Int → Int → List AV → Prop) : Prop := match st with
  | .inl y :: .inl x :: t => k x y t
  | _ => False
abbrev a_v1 (st : List AV) (k : AV → List AV → Prop) : Prop := match st with
  | v :: t => k v t
  | _ => False
abbrev a_v2 (st : List AV) (k : AV → AV → List AV → Prop) : Prop := match st with
  | v :: w :: t => k v w t
  | _ => False
abbrev a_r1 (st : List AV) (k : Nat → Nat → List AV → Prop) : Prop := match st with
  | .inr (some (a, b)) :: t => k a b t
  | _ => False
abbrev a_vr (st : List AV) (k : AV → Nat → Nat → List AV → Prop) : Prop := match st with
  | v :: .inr (some (a, b)) :: t => k v a b t
  | _ => False
abbrev a_ir (st : List AV) (k : Int → Nat → Nat → List AV → Prop) : Prop := match st with
  | .inl i :: .inr (some (a, b)) :: t => k i a b t
  | _ => False
abbrev a_vir (st : List AV) (k : AV → Int → Nat → Nat → List AV → Prop) : Prop := match st with
  | v :: .inl i :: .inr (some (a, b)) :: t => k v i a b t
  | _ => False
abbrev a_nul (st : List AV) (kn kr : List AV → Prop) : Prop := match st with
  | .inr none :: t => kn t
  | .inr (some _) :: t => kr t
  | _ => False
abbrev a_nil (t : List AV) (P : Prop) : Prop := match t with
  | [] => P
  | _ => False
abbrev a_le4 (t : List AV) (P : Prop) : Prop := match t with
  | [] => P
  | [_] => P
  | [_, _] => P
  | [_, _, _] => P
  | [_, _, _, _] => P
  | _ => False
def a_pop : Nat → List AV → List AV → (List AV → List AV → Prop) → Prop
  | 0, st, acc, k => k acc st
  | n + 1, st, acc, k => match st with
    | v :: t => a_pop n t (v :: acc) k
    | [] => False
def a_br (o : ClassFile.Cond) (x y : Int) (kt kf : Prop) : Prop := ∃ _ : iS x ∧ iS y, match o with
  | .eq => (x = y → kt) ∧ (¬ x = y → kf)
  | .ne => (¬ x = y → kt) ∧ (x = y → kf)
  | .lt => (x < y → kt) ∧ (¬ x < y → kf)
  | .ge => (y ≤ x → kt) ∧ (¬ y ≤ x → kf)
  | .gt => (y < x → kt) ∧ (¬ y < x → kf)
  | .le => (x ≤ y → kt) ∧ (¬ x ≤ y → kf)
abbrev a_eqr (v : Nat → Nat → Int) (L : Nat → List Nat) (x y : AV) (kt kf : Prop) : Prop := match x, y with
  | .inr (some (k, i)), .inr (some (k', i')) => ∃ _ : k = k' ∧ cc_live v L k i ∧ cc_live v L k' i', (i = i' → kt) ∧ (¬ i = i' → kf)
  | .inr none, .inr (some _) => kf
  | .inr (some _), .inr none => kf
  | _, _ => False
def a_ab (v : Nat → Nat → Int) (L : Nat → List Nat) (o : ClassFile.ACond) (x y : AV) (kt kf : Prop) : Prop := match o with
  | .eq => a_eqr v L x y kt kf
  | .ne => a_eqr v L x y kf kt
def a_nl (k : Nat) (z : Int) (K : AV → Prop) : Prop := (z < 0 → K aN) ∧ (0 ≤ z → K (aR k z.toNat))
/-- a field is read -/
noncomputable def a_gf (v : Nat → Nat → Int) (L : Nat → List Nat) (k i n : Nat) (al : List (Nat × Nat)) (K : AV → Prop) : Prop := match k with
  | 0 => match i, n with
    | 0, 0 => K (aR 0 1)
    | 0, 1 => K (aR 0 3)
    | 0, 2 => K (aR 0 4)
    | 0, 3 => K (aR 0 6)
    | 0, 4 => K (aR 0 7)
    | 0, 5 => K (aR 0 8)
    | 0, 6 => K (aR 0 9)
    | 0, 7 => K (aR 0 10)
    | 0, 8 => K (aI (v 1 0))
    | 0, 9 => K (aI (v 0 0))
    | 1, 0 => K (aR 0 2)
    | 1, 1 => K (aI (v 4 0))
    | 1, 2 => K (aI (v 5 0))
    | 3, 0 => K (aI (v 2 0))
    | 3, 1 => K (aI (v 3 0))
    | 4, 0 => K (aR 0 5)
    | _, _ => False
  | 1 => ∃ _ : i < 8, match n with
    | 0 => K (aI (i : Nat))
    | 1 => K (aR 2 i)
    | 2 => K (aR 3 i)
    | 3 => K (aR 4 i)
    | 4 => K (aI (v 10 i))
    | 5 => a_nl 5 (v 11 i) K
    | 6 => K (aI (v 12 i))
    | 7 => K (aI (v 13 i))
    | 8 => K (aI (v 14 i))
    | 9 => a_nl 11 (v 15 i) K
    | _ => False
  | 5 => match n with
    | 0 => match al with
      | [(6, _)] => ∃ _ : v 20 i = 1, K (aR 6 i)
      | [(7, _)] => ∃ _ : v 20 i = 2, K (aR 6 i)
      | [(8, _)] => ∃ _ : v 20 i = 3, K (aR 6 i)
      | _ => ∃ _ : a_live5 v i, K (aR 6 i)
    | 1 => match al with
      | [(6, _)] => ∃ _ : v 20 i = 1, K (aR 0 1)
      | [(7, _)] => ∃ _ : v 20 i = 2, K (aR 0 1)
      | [(8, _)] => ∃ _ : v 20 i = 3, K (aR 0 1)
      | _ => ∃ _ : a_live5 v i, K (aR 0 1)
    | 2 => match al with
      | [(6, _)] => ∃ _ : v 20 i = 1, K (aI (v 21 i))
      | [(7, _)] => ∃ _ : v 20 i = 2, K (aI (v 21 i))
      | [(8, _)] => ∃ _ : v 20 i = 3, K (aI (v 21 i))
      | _ => ∃ _ : a_live5 v i, K (aI (v 21 i))
    | 3 => match al with
      | [(6, _)] => ∃ _ : v 20 i = 1, K (aI (v 22 i))
      | [(7, _)] => ∃ _ : v 20 i = 2, K (aI (v 22 i))
      | [(8, _)] => ∃ _ : v 20 i = 3, K (aI (v 22 i))
      | _ => ∃ _ : a_live5 v i, K (aI (v 22 i))
    | 4 => match al with
      | [(6, _)] => ∃ _ : v 20 i = 1, K (aI (v 23 i))
      | [(7, _)] => ∃ _ : v 20 i = 2, K (aR 8 i)
      | [(8, _)] => ∃ _ : v 20 i = 3, K (aR 9 (v 34 i).toNat)
      | _ => False
    | 5 => match al with
      | [(6, _)] => ∃ _ : v 20 i = 1, K (aR 7 i)
      | [(7, _)] => ∃ _ : v 20 i = 2, K (aI (v 27 i))
      | [(8, _)] => ∃ _ : v 20 i = 3, K (aR 0 3)
      | _ => False
    | 6 => match al with
      | [(6, _)] => ∃ _ : v 20 i = 1, K (aI (v 24 i))
      | [(7, _)] => ∃ _ : v 20 i = 2, K (aI (v 28 i))
      | [(8, _)] => ∃ _ : v 20 i = 3, K (aI (v 35 i))
      | _ => False
    | 7 => match al with
      | [(6, _)] => ∃ _ : v 20 i = 1, K (aI (v 25 i))
      | [(7, _)] => ∃ _ : v 20 i = 2, K (aI (v 29 i))
      | [(8, _)] => ∃ _ : v 20 i = 3, K (aI (v 36 i))
      | _ => False
    | 8 => match al with
      | [(7, _)] => ∃ _ : v 20 i = 2, K (aI (v 30 i))
      | [(8, _)] => ∃ _ : v 20 i = 3, K (aI (v 37 i))
      | _ => False
    | 9 => match al with
      | [(7, _)] => ∃ _ : v 20 i = 2, K (aI (v 31 i))
      | [(8, _)] => ∃ _ : v 20 i = 3, K (aI (v 38 i))
      | _ => False
    | 10 => match al with
      | [(7, _)] => ∃ _ : v 20 i = 2, K (aI (v 32 i))
      | [(8, _)] => ∃ _ : v 20 i = 3, K (aI (v 39 i))
      | _ => False
    | 11 => match al with
      | [(7, _)] => ∃ _ : v 20 i = 2, K (aI (v 33 i))
      | _ => False
    | _ => False
  | 9 => ∃ _ : v 40 i = 1, match n with
    | 0 => K (aR 10 i)
    | 1 => K (aI (v 41 i))
    | 2 => K (aI (v 42 i))
    | 3 => K (aI (v 43 i))
    | _ => False
  | 11 => ∃ _ : i < (L 1).length, match n with
    | 0 => K (aR 5 (v 50 i).toNat)
    | 1 => K (aI (v 51 i))
    | 2 => K (aI (v 52 i))
    | 3 => K (aI (v 53 i))
    | 4 => K (aI (v 54 i))
    | 5 => K (aI (v 55 i))
    | _ => False
  | 20 => ∃ _ : v 60 0 = 1 ∧ i = 0, match n with
    | 0 => K (aI (v 100 0))
    | 1 => K (aI (v 101 0))
    | 2 => K (aI (v 102 0))
    | 3 => K (aR 21 3)
    | 4 => K (aR 21 4)
    | 5 => K (aR 21 5)
    | 6 => K (aR 21 6)
    | 7 => K (aR 21 7)
    | 8 => K (aR 21 8)
    | 9 => K (aR 21 9)
    | 10 => K (aR 21 10)
    | 11 => K (aR 21 11)
    | 12 => K (aI (v 112 0))
    | 13 => K (aR 21 13)
    | 14 => K (aR 21 14)
    | 15 => K (aR 21 15)
    | 16 => K (aR 21 16)
    | 17 => K (aR 21 17)
    | 18 => K (aI (v 118 0))
    | 19 => K (aR 21 19)
    | 20 => K (aR 21 20)
    | 21 => K (aR 21 21)
    | 22 => K (aR 21 22)
    | 23 => K (aR 21 23)
    | 24 => K (aI (v 124 0))
    | 25 => K (aR 21 25)
    | 26 => K (aR 21 26)
    | 27 => K (aR 21 27)
    | 28 => K (aR 21 28)
    | 29 => K (aR 21 29)
    | 30 => K (aR 21 30)
    | 31 => K (aR 21 31)
    | 32 => K (aR 21 32)
    | 33 => K (aI (v 133 0))
    | 34 => K (aR 21 34)
    | 35 => K (aI (v 135 0))
    | 36 => K (aR 21 36)
    | 37 => K (aR 21 37)
    | 38 => K (aR 21 38)
    | 39 => K (aR 21 39)
    | 40 => K (aR 21 40)
    | 41 => K (aR 21 41)
    | 42 => K (aR 21 42)
    | 43 => K (aI (v 143 0))
    | 44 => K (aI (v 144 0))
    | 45 => K (aR 21 45)
    | _ => False
  | _ => False
abbrev a_wz (z : Int) (K : Int → Prop) : Prop := ∃ z' : Int, ∃ _ : iI z' = iI z ∧ iS z', K z'
abbrev a_wi (v : Nat → Nat → Int) (c i : Nat) (x : AV) (K : (Nat → Nat → Int) → Prop) : Prop := match x with
  | .inl z => a_wz z fun z' => K (up2 v c i z')
  | _ => False
abbrev a_wb (v : Nat → Nat → Int) (c i : Nat) (x : AV) (K : (Nat → Nat → Int) → Prop) : Prop := match x with
  | .inl z => ∃ _ : z = 0 ∨ z = 1, K (up2 v c i z)
  | _ => False
abbrev a_wn (v : Nat → Nat → Int) (c i k : Nat) (x : AV) (K : (Nat → Nat → Int) → Prop) : Prop := match x with
  | .inr none => K (up2 v c i (-1))
  | .inr (some (k', t)) => ∃ _ : k' = k ∧ t < 100, K (up2 v c i (t : Nat))
  | _ => False
theorem a_wr {z : Int} {K : Int → Prop} (h : K (wr z)) : ∃ z' : Int, ∃ _ : iI z' = iI z ∧ iS z', K z' := ⟨wr z, ⟨wr_e z, wr_i z⟩, h⟩
theorem a_wo {z : Int} {K : Int → Prop} (hi : iS z) (h : K z) : ∃ z' : Int, ∃ _ : iI z' = iI z ∧ iS z', K z' := ⟨z, ⟨rfl, hi⟩, h⟩
noncomputable abbrev a_kd (al : List (Nat × Nat)) (ci kd : Nat) (P : Prop) : Prop := x_tru (Nat.beq ((al.lookup ci).getD 9) kd) P
/-- the class is one of the table's -/
noncomputable abbrev a_lks (k i n : Nat) (al : List (Nat × Nat)) (P : Prop) : Prop := match k with
  | 0 => match i with
    | 0 => x_som (al.lookup 10) fun _ => P
    | 1 => x_som (al.lookup 0) fun _ => P
    | 3 => x_som (al.lookup 1) fun _ => P
    | 4 => x_som (al.lookup 2) fun _ => P
    | _ => False
  | 1 => x_som (al.lookup 4) fun _ => P
  | 5 => match n with
    | 0 => match al with
      | [(6, _)] => P
      | [(7, _)] => P
      | [(8, _)] => P
      | _ => x_som (al.lookup 6) fun _ => x_som (al.lookup 7) fun _ => x_som (al.lookup 8) fun _ => P
    | 1 => match al with
      | [(6, _)] => P
      | [(7, _)] => P
      | [(8, _)] => P
      | _ => x_som (al.lookup 6) fun _ => x_som (al.lookup 7) fun _ => x_som (al.lookup 8) fun _ => P
    | 2 => match al with
      | [(6, _)] => P
      | [(7, _)] => P
      | [(8, _)] => P
      | _ => x_som (al.lookup 6) fun _ => x_som (al.lookup 7) fun _ => x_som (al.lookup 8) fun _ => P
    | 3 => match al with
      | [(6, _)] => P
      | [(7, _)] => P
      | [(8, _)] => P
      | _ => x_som (al.lookup 6) fun _ => x_som (al.lookup 7) fun _ => x_som (al.lookup 8) fun _ => P
    | _ => P
  | 9 => x_som (al.lookup 5) fun _ => P
  | 11 => x_som (al.lookup 9) fun _ => P
  | 20 => x_som (al.lookup 11) fun _ => P
  | _ => False
/-- a field is written -/
def a_pf (v : Nat → Nat → Int) (L : Nat → List Nat) (k i n : Nat) (al : List (Nat × Nat)) (x : AV) (K : (Nat → Nat → Int) → Prop) : Prop := match k with
  | 0 => match i, n with
    | 0, 8 => a_kd al 10 0 (a_wi v 1 0 x K)
    | 0, 9 => a_kd al 10 0 (a_wi v 0 0 x K)
    | 1, 1 => a_kd al 0 0 (a_wi v 4 0 x K)
    | 1, 2 => a_kd al 0 0 (a_wi v 5 0 x K)
    | 3, 0 => a_kd al 1 0 (a_wi v 2 0 x K)
    | 3, 1 => a_kd al 1 0 (a_wi v 3 0 x K)
    | _, _ => False
  | 1 => ∃ _ : i < 8, match n with
    | 4 => a_kd al 4 0 (a_wi v 10 i x K)
    | 5 => a_kd al 4 2 (a_wn v 11 i 5 x K)
    | 6 => a_kd al 4 0 (a_wi v 12 i x K)
    | 7 => a_kd al 4 0 (a_wi v 13 i x K)
    | 8 => a_kd al 4 0 (a_wi v 14 i x K)
    | 9 => a_kd al 4 2 (a_wn v 15 i 11 x K)
    | _ => False
  | 5 => match n with
    | 6 => match al with
      | [(6, _)] => ∃ _ : v 20 i = 1, a_kd al 6 0 (a_wi v 24 i x K)
      | [(8, _)] => ∃ _ : v 20 i = 3, a_kd al 8 0 (a_wi v 35 i x K)
      | _ => False
    | 7 => match al with
      | [(6, _)] => ∃ _ : v 20 i = 1, a_kd al 6 0 (a_wi v 25 i x K)
      | [(7, _)] => ∃ _ : v 20 i = 2, a_kd al 7 1 (a_wb v 29 i x K)
      | [(8, _)] => ∃ _ : v 20 i = 3, a_kd al 8 0 (a_wi v 36 i x K)
      | _ => False
    | 8 => match al with
      | [(7, _)] => ∃ _ : v 20 i = 2, a_kd al 7 1 (a_wb v 30 i x K)
      | [(8, _)] => ∃ _ : v 20 i = 3, a_kd al 8 1 (a_wb v 37 i x K)
      | _ => False
    | 9 => match al with
      | [(7, _)] => ∃ _ : v 20 i = 2, a_kd al 7 0 (a_wi v 31 i x K)
      | [(8, _)] => ∃ _ : v 20 i = 3, a_kd al 8 0 (a_wi v 38 i x K)
      | _ => False
    | 10 => match al with
      | [(7, _)] => ∃ _ : v 20 i = 2, a_kd al 7 0 (a_wi v 32 i x K)
      | [(8, _)] => ∃ _ : v 20 i = 3, a_kd al 8 0 (a_wi v 39 i x K)
      | _ => False
    | 11 => match al with
      | [(7, _)] => ∃ _ : v 20 i = 2, a_kd al 7 0 (a_wi v 33 i x K)
      | _ => False
    | _ => False
  | 11 => ∃ _ : i < (L 1).length, match n with
    | 3 => a_kd al 9 0 (a_wi v 53 i x K)
    | 4 => a_kd al 9 1 (a_wb v 54 i x K)
    | 5 => a_kd al 9 0 (a_wi v 55 i x K)
    | _ => False
  | 20 => ∃ _ : v 60 0 = 1 ∧ i = 0, match n with
    | 0 => a_kd al 11 0 (a_wi v 100 0 x K)
    | 1 => a_kd al 11 0 (a_wi v 101 0 x K)
    | 2 => a_kd al 11 0 (a_wi v 102 0 x K)
    | 12 => a_kd al 11 0 (a_wi v 112 0 x K)
    | 18 => a_kd al 11 0 (a_wi v 118 0 x K)
    | 24 => a_kd al 11 0 (a_wi v 124 0 x K)
    | 33 => a_kd al 11 0 (a_wi v 133 0 x K)
    | 35 => a_kd al 11 0 (a_wi v 135 0 x K)
    | 43 => a_kd al 11 0 (a_wi v 143 0 x K)
    | 44 => a_kd al 11 0 (a_wi v 144 0 x K)
    | _ => False
  | _ => False
/-- an array of numbers is read, written: code, index, length -/
def a_ia (v : Nat → Nat → Int) (k i : Nat) (j : Int) (K : Nat → Nat → Prop) : Prop := match k with
  | 0 => match i with
    | 2 => ∃ _ : 0 ≤ j ∧ j < 64, K 6 j.toNat
    | 5 => ∃ _ : 0 ≤ j ∧ j < 8, K 7 j.toNat
    | _ => False
  | 3 => ∃ _ : i < 8 ∧ 0 ≤ j ∧ j < 4, K 17 (i + 8 * j.toNat)
  | 4 => ∃ _ : i < 8 ∧ 0 ≤ j ∧ j < 4, K 18 (i + 8 * j.toNat)
  | 7 => ∃ _ : (v 20 i = 1 ∧ i < 32) ∧ 0 ≤ j ∧ j < 4, K 26 (i + 32 * j.toNat)
  | 21 => match i with
    | 3 => ∃ _ : v 60 0 = 1 ∧ 0 ≤ j ∧ j < 8, K 103 j.toNat
    | 4 => ∃ _ : v 60 0 = 1 ∧ 0 ≤ j ∧ j < 8, K 104 j.toNat
    | 5 => ∃ _ : v 60 0 = 1 ∧ 0 ≤ j ∧ j < 8, K 105 j.toNat
    | 6 => ∃ _ : v 60 0 = 1 ∧ 0 ≤ j ∧ j < 8, K 106 j.toNat
    | 7 => ∃ _ : v 60 0 = 1 ∧ 0 ≤ j ∧ j < 64, K 107 j.toNat
    | 8 => ∃ _ : v 60 0 = 1 ∧ 0 ≤ j ∧ j < 8, K 108 j.toNat
    | 9 => ∃ _ : v 60 0 = 1 ∧ 0 ≤ j ∧ j < 8, K 109 j.toNat
    | 10 => ∃ _ : v 60 0 = 1 ∧ 0 ≤ j ∧ j < 8, K 110 j.toNat
    | 11 => ∃ _ : v 60 0 = 1 ∧ 0 ≤ j ∧ j < 8, K 111 j.toNat
    | 13 => ∃ _ : v 60 0 = 1 ∧ 0 ≤ j ∧ j < 8, K 113 j.toNat
    | 14 => ∃ _ : v 60 0 = 1 ∧ 0 ≤ j ∧ j < 8, K 114 j.toNat
    | 15 => ∃ _ : v 60 0 = 1 ∧ 0 ≤ j ∧ j < 32, K 115 j.toNat
    | 16 => ∃ _ : v 60 0 = 1 ∧ 0 ≤ j ∧ j < 32, K 116 j.toNat
    | 17 => ∃ _ : v 60 0 = 1 ∧ 0 ≤ j ∧ j < 8, K 117 j.toNat
    | 19 => ∃ _ : v 60 0 = 1 ∧ 0 ≤ j ∧ j < 24, K 119 j.toNat
    | 20 => ∃ _ : v 60 0 = 1 ∧ 0 ≤ j ∧ j < 24, K 120 j.toNat
    | 21 => ∃ _ : v 60 0 = 1 ∧ 0 ≤ j ∧ j < 24, K 121 j.toNat
    | 22 => ∃ _ : v 60 0 = 1 ∧ 0 ≤ j ∧ j < 24, K 122 j.toNat
    | 23 => ∃ _ : v 60 0 = 1 ∧ 0 ≤ j ∧ j < 24, K 123 j.toNat
    | 25 => ∃ _ : v 60 0 = 1 ∧ 0 ≤ j ∧ j < 8, K 125 j.toNat
    | 26 => ∃ _ : v 60 0 = 1 ∧ 0 ≤ j ∧ j < 32, K 126 j.toNat
    | 27 => ∃ _ : v 60 0 = 1 ∧ 0 ≤ j ∧ j < 32, K 127 j.toNat
    | 28 => ∃ _ : v 60 0 = 1 ∧ 0 ≤ j ∧ j < 32, K 128 j.toNat
    | 29 => ∃ _ : v 60 0 = 1 ∧ 0 ≤ j ∧ j < 8, K 129 j.toNat
    | 30 => ∃ _ : v 60 0 = 1 ∧ 0 ≤ j ∧ j < 8, K 130 j.toNat
    | 31 => ∃ _ : v 60 0 = 1 ∧ 0 ≤ j ∧ j < 8, K 131 j.toNat
    | 32 => ∃ _ : v 60 0 = 1 ∧ 0 ≤ j ∧ j < 8, K 132 j.toNat
    | 34 => ∃ _ : v 60 0 = 1 ∧ 0 ≤ j ∧ j < 8, K 134 j.toNat
    | 36 => ∃ _ : v 60 0 = 1 ∧ 0 ≤ j ∧ j < 24, K 136 j.toNat
    | 37 => ∃ _ : v 60 0 = 1 ∧ 0 ≤ j ∧ j < 24, K 137 j.toNat
    | 38 => ∃ _ : v 60 0 = 1 ∧ 0 ≤ j ∧ j < 24, K 138 j.toNat
    | 39 => ∃ _ : v 60 0 = 1 ∧ 0 ≤ j ∧ j < 24, K 139 j.toNat
    | 42 => ∃ _ : v 60 0 = 1 ∧ 0 ≤ j ∧ j < 8, K 142 j.toNat
    | 45 => ∃ _ : v 60 0 = 1 ∧ 0 ≤ j ∧ j < 3200, K 145 j.toNat
    | _ => False
  | _ => False
def a_ba (v : Nat → Nat → Int) (k i : Nat) (j : Int) (K : Nat → Nat → Prop) : Prop := match k with
  | 21 => match i with
    | 40 => ∃ _ : v 60 0 = 1 ∧ 0 ≤ j ∧ j < 24, K 140 j.toNat
    | 41 => ∃ _ : v 60 0 = 1 ∧ 0 ≤ j ∧ j < 24, K 141 j.toNat
    | _ => False
  | _ => False
/-- an array of references is read -/
def a_ra (v : Nat → Nat → Int) (k i : Nat) (j : Int) (K : AV → Prop) : Prop := match k with
  | 0 => match i with
    | 6 => ∃ _ : 0 ≤ j ∧ j < 8, K (aR 1 j.toNat)
    | 7 => ∃ _ : 0 ≤ j ∧ j < 32, (v 20 j.toNat = 0 → K aN) ∧ (¬ v 20 j.toNat = 0 → K (aR 5 j.toNat))
    | 8 => ∃ _ : 0 ≤ j ∧ j < 8, (v 40 j.toNat = 0 → K aN) ∧ (¬ v 40 j.toNat = 0 → K (aR 9 j.toNat))
    | _ => False
  | 2 => ∃ _ : i < 8 ∧ 0 ≤ j ∧ j < 4, a_nl 5 (v 16 (i + 8 * j.toNat)) K
  | _ => False
/-- a reference is written into a caller's row of targets -/
abbrev a_rw (v : Nat → Nat → Int) (k i : Nat) (j : Int) (x : AV) (K : (Nat → Nat → Int) → Prop) : Prop := match k, x with
  | 2, .inr (some (k', t)) => ∃ _ : (i < 8 ∧ 0 ≤ j ∧ j < 4) ∧ k' = 5 ∧ t < 100 ∧ a_live5 v t, K (up2 v 16 (i + 8 * j.toNat) (t : Nat))
  | _, _ => False
def a_call (X : XC) (fr lo mc ms y : Nat) (av : List AV) (v : SV) (L : SL) (nc ns : Nat) (k : Option AV → SV → SL → Nat → Nat → Prop) : Prop :=
  ∃ (fr' lo' mc' ms' : Nat) (Q : AQ), AHolds X y av v L fr' lo' mc' ms' Q ∧ (fr' + 1 ≤ fr ∧ 8 + ((x_mt y).2.2.1 + 11) + lo' ≤ lo ∧ nc + mc' ≤ mc ∧ ns + ms' ≤ ms) ∧ ∀ r v' L', Q r v' L' → k r v' L' (nc + mc') (ns + ms')
/-- a target's own method, by its kind -/
def a_vcall (X : XC) (fr lo mc ms : Nat) (al : List (Nat × Nat)) (t : Nat) (av : List AV) (v : SV) (L : SL) (nc ns : Nat) (k : Option AV → SV → SL → Nat → Nat → Prop) : Prop :=
  ∃ (fr' lo' mc' ms' : Nat) (Q : AQ), (a_live5 v t ∧ ∀ y, al.lookup ((v 20 t).toNat + 5) = some y → AHolds X y av v L fr' lo' mc' ms' Q ∧ 8 + ((x_mt y).2.2.1 + 11) + lo' ≤ lo) ∧ ((al.lookup 6).isSome = true ∧ (al.lookup 7).isSome = true ∧ (al.lookup 8).isSome = true ∧ fr' + 1 ≤ fr ∧ nc + mc' ≤ mc ∧ ns + ms' ≤ ms) ∧ ∀ r v' L', Q r v' L' → k r v' L' (nc + mc') (ns + ms')
abbrev a_vrt (X : XC) (fr lo mc ms : Nat) (al : List (Nat × Nat)) (k i : Nat) (av : List AV) (v : SV) (L : SL) (nc ns : Nat) (K : Option AV → SV → SL → Nat → Nat → Prop) : Prop := match k, al with
  | 5, [(6, y)] => ∃ _ : v 20 i = 1, a_call X fr lo mc ms y av v L nc ns K
  | 5, [(7, y)] => ∃ _ : v 20 i = 2, a_call X fr lo mc ms y av v L nc ns K
  | 5, [(8, y)] => ∃ _ : v 20 i = 3, a_call X fr lo mc ms y av v L nc ns K
  | 5, a => ∃ _ : a_live5 v i, a_vcall X fr lo mc ms a i av v L nc ns K
  | 0, [(10, y)] => ∃ _ : i = 0, a_call X fr lo mc ms y av v L nc ns K
  | 0, [(0, y)] => ∃ _ : i = 1, a_call X fr lo mc ms y av v L nc ns K
  | 0, [(1, y)] => ∃ _ : i = 3, a_call X fr lo mc ms y av v L nc ns K
  | 0, [(2, y)] => ∃ _ : i = 4, a_call X fr lo mc ms y av v L nc ns K
  | 0, [(3, y)] => ∃ _ : i = 9 ∨ i = 10, a_call X fr lo mc ms y av v L nc ns K
  | 1, [(4, y)] => ∃ _ : i < 8, a_call X fr lo mc ms y av v L nc ns K
  | 6, [(3, y)] => ∃ _ : a_live5 v i ∧ i < 32, a_call X fr lo mc ms y av v L nc ns K
  | 8, [(3, y)] => ∃ _ : v 20 i = 2 ∧ i < 32, a_call X fr lo mc ms y av v L nc ns K
  | 10, [(3, y)] => ∃ _ : v 40 i = 1 ∧ i < 8, a_call X fr lo mc ms y av v L nc ns K
  | 9, [(5, y)] => ∃ _ : v 40 i = 1, a_call X fr lo mc ms y av v L nc ns K
  | 11, [(9, y)] => ∃ _ : i < (L 1).length, a_call X fr lo mc ms y av v L nc ns K
  | 20, [(11, y)] => ∃ _ : v 60 0 = 1 ∧ i = 0, a_call X fr lo mc ms y av v L nc ns K
  | _, _ => False
abbrev a_cst (v : SV) (L : SL) (al : List (Nat × Nat)) (x : AV) (P : Prop) : Prop := match x, al with
  | .inr none, _ => P
  | .inr (some (1, i)), [(4, _)] => ∃ _ : i < 8, P
  | .inr (some (5, i)), [(6, _)] => ∃ _ : v 20 i = 1, P
  | .inr (some (5, i)), [(7, _)] => ∃ _ : v 20 i = 2, P
  | .inr (some (5, i)), [(8, _)] => ∃ _ : v 20 i = 3, P
  | .inr (some (11, i)), [(9, _)] => ∃ _ : i < (L 1).length, P
  | _, _ => False
noncomputable abbrev a_ins (v : SV) (L : SL) (al : List (Nat × Nat)) (x : AV) (K : AV → Prop) : Prop := match x with
  | .inr none => K (aI 0)
  | .inr (some (5, i)) => ∃ _ : a_live5 v i, x_som (al.lookup 6) fun b6 => x_som (al.lookup 7) fun b7 => x_som (al.lookup 8) fun b8 => match b6, b7, b8 with
    | 1, 0, 0 => (v 20 i = 1 → K (aI 1)) ∧ (¬ v 20 i = 1 → K (aI 0))
    | 0, 1, 0 => (v 20 i = 2 → K (aI 1)) ∧ (¬ v 20 i = 2 → K (aI 0))
    | _, _, _ => False
  | _ => False
def bAnd (x y : Int) : Int := (iI x &&& iI y).toInt
def bOr (x y : Int) : Int := (iI x ||| iI y).toInt
def bShl (x y : Int) : Int := (iI x <<< (iI y &&& 31)).toInt
def bShr (x y : Int) : Int := (iI x >>> (iI y &&& 31)).toInt
abbrev a_okr (ax : Nat) (x : Int) (P : Prop) : Prop := match ax with
  | 0 => P
  | 1 => ∃ _ : x = 0 ∨ x = 1, P
  | _ => False
/-- one instruction -/
noncomputable def a_step (X : XC) (fr lo mc ms : Nat) (J : AJ) (Q : AQ) (ins : ClassFile.Instr) (ax : Nat) (al : List (Nat × Nat)) (ls : ALc) (st : List AV) (v : SV) (L : SL) (nc ns : Nat) (K : AK) : Prop := match ins with
  | .iconst n => K ls (aI n :: st) v L nc ns
  | .bipush n => K ls (aI n :: st) v L nc ns
  | .sipush n => K ls (aI n :: st) v L nc ns
  | .aconst_null => K ls (aN :: st) v L nc ns
  | .iload _ => x_som (ls ax) fun w => a_int w fun x => K ls (aI x :: st) v L nc ns
  | .iload_n _ => x_som (ls ax) fun w => a_int w fun x => K ls (aI x :: st) v L nc ns
  | .aload _ => x_som (ls ax) fun w => a_ref w (K ls (w :: st) v L nc ns)
  | .aload_n _ => x_som (ls ax) fun w => a_ref w (K ls (w :: st) v L nc ns)
  | .istore _ => a_i1 st fun x t => K (va_up ls ax (some (aI x))) t v L nc ns
  | .istore_n _ => a_i1 st fun x t => K (va_up ls ax (some (aI x))) t v L nc ns
  | .astore _ => a_v1 st fun w t => a_ref w (K (va_up ls ax (some w)) t v L nc ns)
  | .astore_n _ => a_v1 st fun w t => a_ref w (K (va_up ls ax (some w)) t v L nc ns)
  | .iinc _ n => x_som (ls ax) fun w => a_int w fun x => K (va_up ls ax (some (aI (x + n)))) st v L nc ns
  | .iadd => a_i2 st fun x y t => K ls (aI (x + y) :: t) v L nc ns
  | .isub => a_i2 st fun x y t => K ls (aI (x - y) :: t) v L nc ns
  | .imul => a_i2 st fun x y t => K ls (aI (x * y) :: t) v L nc ns
  | .iand => a_i2 st fun x y t => K ls (aI (bAnd x y) :: t) v L nc ns
  | .ior => a_i2 st fun x y t => K ls (aI (bOr x y) :: t) v L nc ns
  | .idiv => a_i2 st fun x y t => ∃ _ : 0 ≤ x ∧ 0 < y ∧ iS x ∧ iS y, K ls (aI (x / y) :: t) v L nc ns
  | .ishl => a_i2 st fun x y t => K ls (aI (bShl x y) :: t) v L nc ns
  | .ishr => a_i2 st fun x y t => K ls (aI (bShr x y) :: t) v L nc ns
  | .dup => a_v1 st fun w t => K ls (w :: w :: t) v L nc ns
  | .dup2 => a_v2 st fun w w' t => K ls (w :: w' :: w :: w' :: t) v L nc ns
  | .pop => a_v1 st fun _ t => K ls t v L nc ns
  | .ifCond c _ => a_i1 st fun x t => a_br c x 0 (J ax ls t v L nc ns) (K ls t v L nc ns)
  | .if_icmp c _ => a_i2 st fun x y t => a_br c x y (J ax ls t v L nc ns) (K ls t v L nc ns)
  | .if_acmp c _ => a_v2 st fun y x t => a_ab v L c x y (J ax ls t v L nc ns) (K ls t v L nc ns)
  | .ifnull _ => a_nul st (fun t => J ax ls t v L nc ns) (fun t => K ls t v L nc ns)
  | .ifnonnull _ => a_nul st (fun t => K ls t v L nc ns) (fun t => J ax ls t v L nc ns)
  | .goto _ => J ax ls st v L nc ns
  | .ireturn => a_i1 st fun x t => a_nil t (a_okr ax x (∃ _ : nc ≤ mc ∧ ns ≤ ms, Q (some (aI x)) v L))
  | .areturn => a_v1 st fun w t => a_nil t (a_ref w (∃ _ : nc ≤ mc ∧ ns ≤ ms, Q (some w) v L))
  | .return_ => a_nil st (∃ _ : nc ≤ mc ∧ ns ≤ ms, Q none v L)
  | .getfield _ => a_r1 st fun k i t => a_gf v L k i ax al fun w => a_lks k i ax al (K ls (w :: t) v L nc ns)
  | .putfield _ => a_vr st fun w k i t => a_pf v L k i ax al w fun v' => K ls t v' L nc ns
  | .iaload => a_ir st fun j k i t => a_ia v k i j fun c m => K ls (aI (v c m) :: t) v L nc ns
  | .baload => a_ir st fun j k i t => a_ba v k i j fun c m => K ls (aI (v c m) :: t) v L nc ns
  | .aaload => a_ir st fun j k i t => a_ra v k i j fun x => K ls (x :: t) v L nc ns
  | .iastore => a_vir st fun w j k i t => a_ia v k i j fun c m => a_wi v c m w fun v' => K ls t v' L nc ns
  | .bastore => a_vir st fun w j k i t => a_ba v k i j fun c m => a_wb v c m w fun v' => K ls t v' L nc ns
  | .aastore => a_vir st fun w j k i t => a_rw v k i j w fun v' => K ls t v' L nc ns
  | .checkcast _ => a_v1 st fun w t => a_cst v L al w (K ls (w :: t) v L nc ns)
  | .instanceof _ => a_v1 st fun w t => a_ins v L al w fun b => K ls (b :: t) v L nc ns
  | .invokestatic _ => x_som (al[0]?) fun q => match q.2 with
    | 0 => a_pop q.1 st [] fun av t => a_le4 t (a_call X fr lo mc ms ax av v L nc ns fun r v' L' nc' ns' => K ls (r.toList ++ t) v' L' nc' ns')
    | _ => False
  | .invokevirtual _ => match al with
    | [] => False
    | _ :: _ => a_pop ax st [] fun av u => a_r1 u fun k i t => a_le4 t (a_vrt X fr lo mc ms al k i (aR k i :: av) v L nc ns fun r v' L' nc' ns' => K ls (r.toList ++ t) v' L' nc' ns')
  | _ => False
noncomputable def a_run (X : XC) (fr lo mc ms : Nat) (J : AJ) (Q : AQ) : List XO → Nat → ALc → List AV → SV → SL → Nat → Nat → Prop
  | [], pc, ls, st, v, L, nc, ns => J pc ls st v L nc ns
  | (ins, len, ax, al, _) :: r, pc, ls, st, v, L, nc, ns => a_step X fr lo mc ms J Q ins ax al ls st v L nc ns (fun ls st v L nc ns => a_run X fr lo mc ms J Q r (pc + len) ls st v L nc ns)
/-- the constants of the operations -/
def a_cok (o : XO) : Bool := match o.1 with
  | .iconst n => decide (iI n = o.2.2.2.2)
  | .bipush n => decide (iI n = o.2.2.2.2)
  | .sipush n => decide (iI n = o.2.2.2.2)
  | .iinc _ n => decide (iI n = o.2.2.2.2)
  | .iaload => decide (o.2.2.1 = 0)
  | .baload => decide (o.2.2.1 = 1)
  | .iastore => decide (o.2.2.1 = 0)
  | .bastore => decide (o.2.2.1 = 1)
  | .aaload => decide (o.2.2.2.1 = x_ald)
  | .aastore => decide (o.2.2.2.1 = x_ast)
  | _ => true
