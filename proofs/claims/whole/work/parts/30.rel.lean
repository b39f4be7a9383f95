/-! Class and reference: what holds between them. v, L: the class's values; w: the reference's (codes from 100 on). -/
section
variable {v v' w w' : SV} {L L' : SL}
-- sums
def sm : Nat → (Nat → Int) → Int
  | 0, _ => 0
  | n + 1, f => sm n f + f n
theorem sm_eq {f g : Nat → Int} : ∀ n : Nat, (∀ k, k < n → f k = g k) → sm n f = sm n g := by
  intro n
  induction n with
  | zero => exact fun _ => rfl
  | succ n ih =>
    intro h
    rw [sm, sm, ih (fun k hk => h k (by omega)), h n (by omega)]
theorem sm_up {f g : Nat → Int} {a : Nat} : ∀ n : Nat, a < n → (∀ k, k < n → k ≠ a → g k = f k) → sm n g = sm n f - f a + g a := by
  intro n
  induction n with
  | zero => intro h; omega
  | succ n ih =>
    intro ha h
    rw [sm, sm]
    by_cases e : a = n
    · subst e
      rw [sm_eq a (fun k hk => h k (by omega) (by omega))]
      omega
    · rw [ih (by omega) (fun k hk => h k (by omega)), h n (by omega) (fun z => e z.symm)]
      omega
theorem sm_nn {f : Nat → Int} : ∀ n : Nat, (∀ k, k < n → 0 ≤ f k) → 0 ≤ sm n f := by
  intro n
  induction n with
  | zero => exact fun _ => Int.le_refl 0
  | succ n ih =>
    intro h
    rw [sm]
    have := ih (fun k hk => h k (by omega))
    have := h n (by omega)
    omega
theorem sm_le {f : Nat → Int} {a : Nat} : ∀ n : Nat, (∀ k, k < n → 0 ≤ f k) → a < n → f a ≤ sm n f := by
  intro n
  induction n with
  | zero => intro _ h; omega
  | succ n ih =>
    intro h ha
    rw [sm]
    have h0 := sm_nn n (fun k hk => h k (by omega))
    have h1 := h n (by omega)
    by_cases e : a = n
    · subst e; omega
    · have := ih (fun k hk => h k (by omega)) (by omega)
      omega
theorem sm_z {f : Nat → Int} : ∀ n : Nat, (∀ k, k < n → 0 ≤ f k) → sm n f = 0 → ∀ k, k < n → f k = 0 := by
  intro n h h0 k hk
  have := sm_le n h hk
  have := h k hk
  omega
theorem sm_b {f : Nat → Int} : ∀ n : Nat, (∀ k, 0 ≤ f k ∧ f k ≤ 1) → 0 ≤ sm n f ∧ sm n f ≤ n := by
  intro n
  induction n with
  | zero => exact fun _ => ⟨Int.le_refl 0, Int.le_refl 0⟩
  | succ n ih =>
    intro h
    rw [sm]
    have := ih h
    have := h n
    omega
-- methods: cell k holds method k / 8 of caller k % 8
/-- cell k is in use, by a method in t of a mode from l on -/
def inC (v : SV) (k : Nat) : Prop := k < 32 ∧ ((k / 8 : Nat) : Int) < v 10 (k % 8)
def mt1 (v : SV) (t : Nat) (l : Int) (k : Nat) : Int := if ((k / 8 : Nat) : Int) < v 10 (k % 8) ∧ v 16 k = t ∧ l ≤ v 18 k then 1 else 0
def mts (v : SV) (t : Nat) (l : Int) : Int := sm 32 (mt1 v t l)
theorem mts_b (v : SV) (t : Nat) (l : Int) : 0 ≤ mts v t l ∧ mts v t l ≤ 32 := sm_b 32 (fun k => by unfold mt1; split <;> omega)
def usd (v : SV) (x : Int) : Prop := ∃ k, inC v k ∧ v 17 k = x
-- the parts of the relation
def R0 (v : SV) (L : SL) (w : SV) : Prop := w 100 0 = v 0 0 ∧ w 101 0 = v 2 0 ∧ w 102 0 = v 1 0 ∧ w 118 0 = ((L 0).length : Int) ∧ w 135 0 = ((L 1).length : Int) ∧ w 143 0 = v 5 0 ∧ 0 ≤ v 1 0 ∧ v 1 0 ≤ 8 ∧ 0 ≤ v 0 0 ∧ v 0 0 ≤ 3
/-- a component: pool, singleton, stateful -/
def kP (v w : SV) (c : Nat) : Prop := v 20 c = 1 ∧ v 40 c = 0 ∧ w 103 c = 0 ∧ w 104 c = v 23 c ∧ w 105 c = v 21 c ∧ w 106 c = 0 ∧ v 22 c = 1 ∧ 1 ≤ v 23 c ∧ v 23 c ≤ 4
def kS (v w : SV) (c : Nat) : Prop := v 20 c = 2 ∧ v 40 c = 0 ∧ w 103 c = 2 ∧ 0 ≤ w 104 c ∧ w 104 c ≤ 3 ∧ w 105 c = v 21 c ∧ w 106 c = 0 ∧ v 22 c = 2 ∧ (¬ v 27 c = 0 ↔ w 104 c = 1 ∨ w 104 c = 3) ∧ (v 28 c = 0 ↔ w 104 c < 2)
def kF (v w : SV) (c : Nat) : Prop := v 20 c = 0 ∧ v 40 c = 1 ∧ w 103 c = 1 ∧ w 104 c = v 41 c ∧ w 105 c = v 42 c ∧ w 106 c = v 43 c ∧ 1 ≤ v 41 c ∧ v 41 c ≤ 4 ∧ 0 ≤ v 43 c ∧ v 43 c ≤ 100
def Rk (v w : SV) : Prop := ∀ c : Nat, c < 8 → ((c : Int) < v 1 0 ∧ (kP v w c ∨ kS v w c ∨ kF v w c) ∧ -1 ≤ w 105 c ∧ w 105 c ≤ 100) ∨ (v 1 0 ≤ c ∧ v 20 c = 0 ∧ v 40 c = 0)
/-- what singletons need -/
def Rn (v : SV) (L : SL) (w : SV) : Prop := (∀ c, v 20 c = 2 → w 108 c = ((L (200 + c)).length : Int) ∧ (L (200 + c)).Nodup ∧ (∀ k, k < (L (200 + c)).length → w 107 (8 * c + k) = ((L (200 + c)).getD k 0 : Nat)) ∧ ∀ e ∈ L (200 + c), e < 8) ∧ ∃ rk : Nat → Nat, (∀ c, rk c < 8) ∧ ∀ c, v 20 c = 2 → ∀ e ∈ L (200 + c), rk e < rk c
/-- singletons -/
def Rs (v w : SV) : Prop := (∀ c, v 20 c = 2 → (v 29 c = 0 ∧ v 30 c = 0 ∧ w 109 c = 0) ∨ (v 29 c = 1 ∧ v 30 c = 0 ∧ w 109 c = 1) ∨ (v 29 c = 0 ∧ v 30 c = 1 ∧ w 109 c = 2)) ∧ (¬ v 0 0 = 3 → ∀ c, v 20 c = 2 → (w 109 c = 1 → v 31 c = w 110 c) ∧ (¬ w 109 c = 1 → v 31 c = -1)) ∧ (v 0 0 = 3 → ∀ c, v 20 c = 2 → v 31 c = -1)
/-- the order of beginning -/
def Ro (v w : SV) : Prop := ∃ ol : List Nat, w 112 0 = (ol.length : Int) ∧ (∀ k, k < ol.length → w 111 k = (ol.getD k 0 : Nat)) ∧ ol.Nodup ∧ (∀ c, c ∈ ol ↔ v 20 c = 2 ∧ w 109 c = 1) ∧ ol.Pairwise (fun a b => w 110 a < w 110 b)
/-- pools -/
def pP (v w : SV) (c : Nat) : Prop := (∀ k, k < 4 → 0 ≤ w 115 (4 * c + k)) ∧ v 25 c = sm 4 (fun k => if 0 < w 115 (4 * c + k) then 1 else 0) ∧ v 25 c ≤ v 23 c ∧ 0 ≤ v 24 c ∧ v 24 c + mts v c 0 = v 25 c ∧ (∀ k k', k < 4 → k' < 4 → 0 < w 115 (4 * c + k) → w 115 (4 * c + k) = w 115 (4 * c + k') → k = k') ∧ (∀ j : Nat, (j : Int) < v 24 c → ∃ k, k < 4 ∧ 0 < w 115 (4 * c + k) ∧ w 115 (4 * c + k) = v 26 (c + 32 * j) + 1 ∧ w 116 (4 * c + k) < w 124 0 ∧ ¬ usd v (v 26 (c + 32 * j))) ∧ (∀ k, k < 4 → 0 < w 115 (4 * c + k) → ¬ usd v (w 115 (4 * c + k) - 1) → ∃ j : Nat, (j : Int) < v 24 c ∧ v 26 (c + 32 * j) + 1 = w 115 (4 * c + k)) ∧ (∀ j j' : Nat, j < j' → (j' : Int) < v 24 c → ∀ k k', k < 4 → k' < 4 → w 115 (4 * c + k) = v 26 (c + 32 * j) + 1 → w 115 (4 * c + k') = v 26 (c + 32 * j') + 1 → w 116 (4 * c + k) < w 116 (4 * c + k')) ∧ (∀ k, inC v k → v 16 k = c → ∃ q, q < 4 ∧ w 115 (4 * c + q) = v 17 k + 1) ∧ (∀ k k', inC v k → inC v k' → v 16 k = c → v 16 k' = c → v 17 k = v 17 k' → k = k')
def Rp (v w : SV) : Prop := ∀ c, v 20 c = 1 → c < 8 ∧ pP v w c
/-- sessions -/
def eP (v w : SV) (s : Nat) : Prop := 0 ≤ v 34 (8 + s) ∧ v 34 (8 + s) < 8 ∧ v 40 (v 34 (8 + s)).toNat = 1 ∧ w 119 s = v 34 (8 + s) ∧ w 120 s = v 35 (8 + s) ∧ (v 36 (8 + s) = 0 ∧ w 121 s = 0 ∨ v 36 (8 + s) = 1 ∧ w 121 s = 1 ∨ v 36 (8 + s) = 3 ∧ w 121 s = 2) ∧ w 123 s = v 39 (8 + s) ∧ 0 ≤ v 39 (8 + s) ∧ v 38 (8 + s) ≤ v 3 0 ∧ w 122 s < w 124 0 ∧ v 21 (8 + s) = v 42 (v 34 (8 + s)).toNat ∧ v 22 (8 + s) = 3 ∧ v 37 (8 + s) = mts v (8 + s) 0 ∧ v 37 (8 + s) ≤ 1 ∧ (¬ v 37 (8 + s) = 0 → v 36 (8 + s) = 1) ∧ (∀ k, inC v k → v 16 k = (8 + s : Nat) → v 17 k = v 35 (8 + s))
def Re (v : SV) (L : SL) (w : SV) : Prop := (∀ s, s < 24 → (s < (L 0).length ∧ v 20 (8 + s) = 3 ∧ eP v w s) ∨ ((L 0).length ≤ s ∧ v 20 (8 + s) = 0)) ∧ (∀ s s', s < (L 0).length → s' < (L 0).length → (v 38 (8 + s) < v 38 (8 + s') ↔ w 122 s < w 122 s')) ∧ (∀ c, v 40 c = 1 → L (300 + c) = ((List.range (L 0).length).filter (fun s => decide (v 34 (8 + s) = c))).map (fun s => 8 + s))
/-- callers -/
def cP (v w : SV) (i : Nat) : Prop := w 125 i = v 10 i ∧ (∀ j : Nat, j < 4 → (j : Int) < v 10 i → 0 ≤ v 16 (i + 8 * j) ∧ w 126 (4 * i + j) = v 16 (i + 8 * j) ∧ w 127 (4 * i + j) = v 17 (i + 8 * j) ∧ w 128 (4 * i + j) = v 18 (i + 8 * j) ∧ 0 ≤ v 18 (i + 8 * j) ∧ v 18 (i + 8 * j) < v 22 (v 16 (i + 8 * j)).toNat) ∧ w 129 i = v 11 i ∧ -1 ≤ v 11 i ∧ (0 ≤ v 11 i → w 130 i = v 12 i ∧ w 131 i = v 13 i ∧ w 132 i < w 133 0 ∧ 0 ≤ v 12 i ∧ v 12 i < v 22 (v 11 i).toNat ∧ 0 ≤ v 13 i ∧ (¬ v 20 (v 11 i).toNat = 1 → ¬ hasM v i (v 11 i).toNat) ∧ (v 20 (v 11 i).toNat = 2 → w 109 (v 11 i).toNat = 1)) ∧ w 134 i = v 14 i ∧ w 142 i = v 15 i ∧ -1 ≤ v 15 i
def Rc (v : SV) (L : SL) (w : SV) : Prop := (∀ i, i < 8 → cP v w i) ∧ ∀ t, a_live5 v t → (L (100 + t)).Pairwise (fun a b => w 132 a < w 132 b)
/-- how many methods are in singletons -/
def Rm (v : SV) : Prop := ∀ c, v 20 c = 2 → v 32 c = mts v c 0 ∧ v 33 c = mts v c 1
/-- tasks -/
def tP (v w : SV) (k : Nat) : Prop := w 136 k = v 53 k ∧ 1 ≤ v 53 k ∧ v 53 k ≤ 4 ∧ w 137 k = v 50 k ∧ w 138 k = v 51 k ∧ w 140 k = v 52 k ∧ w 141 k = v 54 k ∧ (v 53 k = 4 → w 139 k = v 55 k) ∧ -1 ≤ v 55 k ∧ v 55 k ≤ 20 ∧ 0 ≤ v 51 k ∧ v 51 k < v 22 (v 50 k).toNat ∧ 0 ≤ v 52 k ∧ v 52 k ≤ 1 ∧ 0 ≤ v 54 k ∧ v 54 k ≤ 1
def Rt (v : SV) (L : SL) (w : SV) : Prop := ∀ k, k < (L 1).length → tP v w k
/-- exception types -/
def Rx (v w : SV) : Prop := (∀ e, e < 8 → w 117 e = v 7 e ∧ 0 ≤ v 7 e ∧ v 7 e ≤ 2) ∧ ∀ c k, c < 8 → k < 4 → ¬ v 20 c = 1 → w 115 (4 * c + k) = 0
/-- the journal -/
def Rl (v w : SV) : Prop := w 144 0 = v 4 0 ∧ 0 ≤ v 4 0 ∧ ∀ n : Nat, (n : Int) < v 4 0 → v 4 0 ≤ n + 64 → v 6 (n % 64) = w 145 n
/-- whose an instance is -/
def Rw (own : Int → Nat) (v : SV) (L : SL) (w : SV) : Prop := (∀ k, inC v k → v 16 k = own (v 17 k) ∧ 0 ≤ v 17 k ∧ v 17 k < v 5 0) ∧ (∀ c, v 20 c = 1 → ∀ k, k < 4 → 0 < w 115 (4 * c + k) → own (w 115 (4 * c + k) - 1) = c ∧ w 115 (4 * c + k) ≤ v 5 0) ∧ (∀ s, s < (L 0).length → own (v 35 (8 + s)) = 8 + s ∧ 0 ≤ v 35 (8 + s) ∧ v 35 (8 + s) < v 5 0) ∧ (∀ c, v 20 c = 2 → w 109 c = 1 → own (w 110 c) = c ∧ 0 ≤ w 110 c ∧ w 110 c < v 5 0)
/-- how far it can go -/
def pt1 (v : SV) (t : Nat) : Int := if v 20 t = 1 then v 25 t else if v 20 t = 2 then (if v 29 t = 0 then (if v 30 t = 0 then 2 else 0) else if v 31 t = -1 then 0 else 1) else if v 20 t = 3 then (if v 36 t = 0 then 0 else if v 36 t = 1 then 2 else 1) else 0
def pt2 (v : SV) (i : Nat) : Int := if 0 ≤ v 11 i then 3 else 0
def pt3 (v : SV) (n k : Nat) : Int := if k < n ∧ v 53 k = 1 then 4 else 0
def pot (v : SV) (L : SL) (w : SV) : Int := w 133 0 + v 4 0 + sm 32 (pt1 v) + sm 8 (pt2 v) + sm 24 (pt3 v (L 1).length)
def Rd (v w : SV) : Prop := 0 ≤ v 5 0 ∧ v 5 0 ≤ v 4 0 ∧ 0 ≤ v 3 0 ∧ v 3 0 ≤ v 4 0 ∧ 0 ≤ w 124 0 ∧ w 124 0 ≤ v 4 0 ∧ 0 ≤ w 133 0
/-- all but the journal and the bounds -/
def RA (own : Int → Nat) (v : SV) (L : SL) (w : SV) : Prop := R0 v L w ∧ Rk v w ∧ Rn v L w ∧ Rs v w ∧ Ro v w ∧ Rp v w ∧ Re v L w ∧ Rc v L w ∧ Rm v ∧ Rt v L w ∧ Rx v w ∧ Rw own v L w
def RS (own : Int → Nat) (v : SV) (L : SL) (w : SV) : Prop := WF v L ∧ RA own v L w ∧ Rl v w ∧ Rd v w
def R (own : Int → Nat) (n : Nat) (v : SV) (L : SL) (w : SV) : Prop := RS own v L w ∧ pot v L w ≤ 4 * n ∧ v 2 0 ≤ 50 * n
-- what leaves a part alone
theorem mts_c (h10 : v' 10 = v 10) (h16 : v' 16 = v 16) (h18 : v' 18 = v 18) (t : Nat) (l : Int) : mts v' t l = mts v t l := by
  unfold mts mt1
  rw [h10, h16, h18]
theorem R0_c (h : R0 v L w) (e : ∀ c, c ∈ ([0, 1, 2, 5] : List Nat) → v' c = v c) (f : ∀ c, c ∈ ([100, 101, 102, 118, 135, 143] : List Nat) → w' c = w c) (g : ∀ l, l < 100 ∨ 200 ≤ l → L' l = L l) : R0 v' L' w' := by
  unfold R0 at *
  simp only [e 0 (by simp), e 1 (by simp), e 2 (by simp), e 5 (by simp), f 100 (by simp), f 101 (by simp), f 102 (by simp), f 118 (by simp), f 135 (by simp), f 143 (by simp), g 0 (by omega), g 1 (by omega)]
  exact h
theorem Rk_c (h : Rk v w) (e : ∀ c, c ∈ ([1, 20, 21, 22, 23, 27, 28, 40, 41, 42, 43] : List Nat) → v' c = v c) (f : ∀ c, c ∈ ([103, 104, 105, 106] : List Nat) → w' c = w c) : Rk v' w' := by
  unfold Rk kP kS kF at *
  simp only [e 1 (by simp), e 20 (by simp), e 21 (by simp), e 22 (by simp), e 23 (by simp), e 27 (by simp), e 28 (by simp), e 40 (by simp), e 41 (by simp), e 42 (by simp), e 43 (by simp), f 103 (by simp), f 104 (by simp), f 105 (by simp), f 106 (by simp)]
  exact h
theorem Rn_c (h : Rn v L w) (e : ∀ c, c ∈ ([20] : List Nat) → v' c = v c) (f : ∀ c, c ∈ ([107, 108] : List Nat) → w' c = w c) (g : ∀ l, l < 100 ∨ 200 ≤ l → L' l = L l) : Rn v' L' w' := by
  unfold Rn at *
  simp only [e 20 (by simp), f 107 (by simp), f 108 (by simp), fun c => g (200 + c) (by omega)]
  exact h
theorem Rs_c (h : Rs v w) (e : ∀ c, c ∈ ([0, 20, 29, 30, 31] : List Nat) → v' c = v c) (f : ∀ c, c ∈ ([109, 110] : List Nat) → w' c = w c) : Rs v' w' := by
  unfold Rs at *
  simp only [e 0 (by simp), e 20 (by simp), e 29 (by simp), e 30 (by simp), e 31 (by simp), f 109 (by simp), f 110 (by simp)]
  exact h
theorem Ro_c (h : Ro v w) (e : ∀ c, c ∈ ([20] : List Nat) → v' c = v c) (f : ∀ c, c ∈ ([109, 110, 111, 112] : List Nat) → w' c = w c) : Ro v' w' := by
  unfold Ro at *
  simp only [e 20 (by simp), f 109 (by simp), f 110 (by simp), f 111 (by simp), f 112 (by simp)]
  exact h
theorem Rp_c (h : Rp v w) (e : ∀ c, c ∈ ([20, 23, 24, 25, 26, 10, 16, 17, 18] : List Nat) → v' c = v c) (f : ∀ c, c ∈ ([115, 116, 124] : List Nat) → w' c = w c) : Rp v' w' := by
  unfold Rp pP mts mt1 usd inC at *
  simp only [e 20 (by simp), e 23 (by simp), e 24 (by simp), e 25 (by simp), e 26 (by simp), e 10 (by simp), e 16 (by simp), e 17 (by simp), e 18 (by simp), f 115 (by simp), f 116 (by simp), f 124 (by simp)]
  exact h
theorem Re_c (h : Re v L w) (e : ∀ c, c ∈ ([3, 10, 16, 17, 18, 20, 21, 22, 34, 35, 36, 37, 38, 39, 40, 42] : List Nat) → v' c = v c) (f : ∀ c, c ∈ ([119, 120, 121, 122, 123, 124] : List Nat) → w' c = w c) (g : ∀ l, l < 100 ∨ 200 ≤ l → L' l = L l) : Re v' L' w' := by
  unfold Re eP mts mt1 inC at *
  simp only [e 3 (by simp), e 10 (by simp), e 16 (by simp), e 17 (by simp), e 18 (by simp), e 20 (by simp), e 21 (by simp), e 22 (by simp), e 34 (by simp), e 35 (by simp), e 36 (by simp), e 37 (by simp), e 38 (by simp), e 39 (by simp), e 40 (by simp), e 42 (by simp), f 119 (by simp), f 120 (by simp), f 121 (by simp), f 122 (by simp), f 123 (by simp), f 124 (by simp), g 0 (by omega), fun c => g (300 + c) (by omega)]
  exact h
theorem Rc_c (h : Rc v L w) (e : ∀ c, c ∈ ([10, 11, 12, 13, 14, 15, 16, 17, 18, 20, 22] : List Nat) → v' c = v c) (f : ∀ c, c ∈ ([109, 125, 126, 127, 128, 129, 130, 131, 132, 133, 134, 142] : List Nat) → w' c = w c) : Rc v' L w' := by
  unfold Rc cP a_live5 hasM at *
  simp only [e 10 (by simp), e 11 (by simp), e 12 (by simp), e 13 (by simp), e 14 (by simp), e 15 (by simp), e 16 (by simp), e 17 (by simp), e 18 (by simp), e 20 (by simp), e 22 (by simp), f 109 (by simp), f 125 (by simp), f 126 (by simp), f 127 (by simp), f 128 (by simp), f 129 (by simp), f 130 (by simp), f 131 (by simp), f 132 (by simp), f 133 (by simp), f 134 (by simp), f 142 (by simp)]
  exact h
theorem Rm_c (h : Rm v) (e : ∀ c, c ∈ ([10, 16, 18, 20, 32, 33] : List Nat) → v' c = v c) : Rm v' := by
  unfold Rm mts mt1 at *
  simp only [e 10 (by simp), e 16 (by simp), e 18 (by simp), e 20 (by simp), e 32 (by simp), e 33 (by simp)]
  exact h
theorem Rt_c (h : Rt v L w) (e : ∀ c, c ∈ ([22, 50, 51, 52, 53, 54, 55] : List Nat) → v' c = v c) (f : ∀ c, c ∈ ([136, 137, 138, 139, 140, 141] : List Nat) → w' c = w c) (g : ∀ l, l < 100 ∨ 200 ≤ l → L' l = L l) : Rt v' L' w' := by
  unfold Rt tP at *
  simp only [e 22 (by simp), e 50 (by simp), e 51 (by simp), e 52 (by simp), e 53 (by simp), e 54 (by simp), e 55 (by simp), f 136 (by simp), f 137 (by simp), f 138 (by simp), f 139 (by simp), f 140 (by simp), f 141 (by simp), g 1 (by omega)]
  exact h
theorem Rx_c (h : Rx v w) (e : ∀ c, c ∈ ([7, 20] : List Nat) → v' c = v c) (f : ∀ c, c ∈ ([115, 117] : List Nat) → w' c = w c) : Rx v' w' := by
  unfold Rx at *
  simp only [e 7 (by simp), e 20 (by simp), f 115 (by simp), f 117 (by simp)]
  exact h
theorem Rl_c (h : Rl v w) (e : ∀ c, c ∈ ([4, 6] : List Nat) → v' c = v c) (f : ∀ c, c ∈ ([144, 145] : List Nat) → w' c = w c) : Rl v' w' := by
  unfold Rl at *
  simp only [e 4 (by simp), e 6 (by simp), f 144 (by simp), f 145 (by simp)]
  exact h
theorem Rw_c {own : Int → Nat} (h : Rw own v L w) (e : ∀ c, c ∈ ([5, 10, 16, 17, 20, 35] : List Nat) → v' c = v c) (f : ∀ c, c ∈ ([109, 110, 115] : List Nat) → w' c = w c) (g : ∀ l, l < 100 ∨ 200 ≤ l → L' l = L l) : Rw own v' L' w' := by
  unfold Rw inC at *
  simp only [e 5 (by simp), e 10 (by simp), e 16 (by simp), e 17 (by simp), e 20 (by simp), e 35 (by simp), f 109 (by simp), f 110 (by simp), f 115 (by simp), g 0 (by omega)]
  exact h
end
