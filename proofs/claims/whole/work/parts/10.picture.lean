/-! The class's objects as a picture of two functions: v (a code, a place: an integer), L (a list: numbers). A: the objects' addresses by kind and number. -/
def iI (z : Int) : Int32 := Int32.ofInt z
def up2 (v : Nat → Nat → Int) (c i : Nat) (x : Int) : Nat → Nat → Int := fun c' i' => if c' = c ∧ i' = i then x else v c' i'
theorem up2_s {v : Nat → Nat → Int} {c i : Nat} {x : Int} : up2 v c i x c i = x := by simp [up2]
theorem up2_c {v : Nat → Nat → Int} {c c' i i' : Nat} {x : Int} (h : c' ≠ c) : up2 v c i x c' i' = v c' i' := by simp [up2, h]
theorem up2_i {v : Nat → Nat → Int} {c c' i i' : Nat} {x : Int} (h : i' ≠ i) : up2 v c i x c' i' = v c' i' := by simp [up2, h]
-- a reference to target t (below 0: none), to task k
def q_t (A : Nat → Nat → Nat) (z : Int) : Value := if z < 0 then .null else .ref (A 5 z.toNat)
def q_k (A : Nat → Nat → Nat) (z : Int) : Value := if z < 0 then .null else .ref (A 11 z.toNat)
/-- codes: 0 phase, 1 componentCount, 2 now, 3 uses, 4 count, 5 instancesMade, 6 latest, 7 marks; callers: 10 depth, 11 lineTarget, 12 lineMode, 13 waitsSince, 14 latestResult, 15 work, 16 targets, 17 instances, 18 modes (places i + 8 j); targets: 20 kind (0 none, 1 pool, 2 singleton, 3 session), 21 timeout, 22 modes; pools: 23 size, 24 freeCount, 25 total, 26 free (t + 32 j); singletons: 27 eager, 28 cannotBegin, 29 begun, 30 failed, 31 instance, 32 methods, 33 writingMethods; sessions: 34 home, 35 instance, 36 place, 37 inUse, 38 latestUse, 39 latestUseTime; statefuls: 40 there, 41 size, 42 timeout, 43 idle; tasks: 50 target, 51 mode, 52 wanted, 53 stage, 54 noted, 55 outcome -/
-- the reference's arrays, by the number of their field: length, type; the reference's fields (codes 100 + n; code 60: the reference is there)
def r_len (n : Nat) : Nat := ([0, 0, 0, 8, 8, 8, 8, 64, 8, 8, 8, 8, 0, 8, 8, 32, 32, 8, 0, 24, 24, 24, 24, 24, 0, 8, 32, 32, 32, 8, 8, 8, 8, 0, 8, 0, 24, 24, 24, 24, 24, 24, 8, 0, 0, 3200] : List Nat).getD n 0
def r_at (n : Nat) : Nat := if n = 40 ∨ n = 41 then 1 else 0
def r_fs (A : Nat → Nat → Nat) (v : Nat → Nat → Int) : List Value := [.int (iI (v 100 0)), .int (iI (v 101 0)), .int (iI (v 102 0)), .ref (A 21 3), .ref (A 21 4), .ref (A 21 5), .ref (A 21 6), .ref (A 21 7), .ref (A 21 8), .ref (A 21 9), .ref (A 21 10), .ref (A 21 11), .int (iI (v 112 0)), .ref (A 21 13), .ref (A 21 14), .ref (A 21 15), .ref (A 21 16), .ref (A 21 17), .int (iI (v 118 0)), .ref (A 21 19), .ref (A 21 20), .ref (A 21 21), .ref (A 21 22), .ref (A 21 23), .int (iI (v 124 0)), .ref (A 21 25), .ref (A 21 26), .ref (A 21 27), .ref (A 21 28), .ref (A 21 29), .ref (A 21 30), .ref (A 21 31), .ref (A 21 32), .int (iI (v 133 0)), .ref (A 21 34), .int (iI (v 135 0)), .ref (A 21 36), .ref (A 21 37), .ref (A 21 38), .ref (A 21 39), .ref (A 21 40), .ref (A 21 41), .ref (A 21 42), .int (iI (v 143 0)), .int (iI (v 144 0)), .ref (A 21 45)]
def cc_one (A : Nat → Nat → Nat) (v : Nat → Nat → Int) (i : Nat) : Option XE := match i with
  | 0 => some (.inl (10, [.ref (A 0 1), .ref (A 0 3), .ref (A 0 4), .ref (A 0 6), .ref (A 0 7), .ref (A 0 8), .ref (A 0 9), .ref (A 0 10), .int (iI (v 1 0)), .int (iI (v 0 0))]))
  | 1 => some (.inl (0, [.ref (A 0 2), .int (iI (v 4 0)), .int (iI (v 5 0))]))
  | 2 => some (.inr (0, 64, fun j => .int (iI (v 6 j))))
  | 3 => some (.inl (1, [.int (iI (v 2 0)), .int (iI (v 3 0))]))
  | 4 => some (.inl (2, [.ref (A 0 5)]))
  | 5 => some (.inr (0, 8, fun j => .int (iI (v 7 j))))
  | 6 => some (.inr (2, 8, fun j => .ref (A 1 j)))
  | 7 => some (.inr (3, 32, fun j => if v 20 j = 0 then .null else .ref (A 5 j)))
  | 8 => some (.inr (4, 8, fun j => if v 40 j = 0 then .null else .ref (A 9 j)))
  | _ => none
def cc_tgt (A : Nat → Nat → Nat) (v : Nat → Nat → Int) (i : Nat) : Option XE :=
  if v 20 i = 1 then some (.inl (6, [.ref (A 6 i), .ref (A 0 1), .int (iI (v 21 i)), .int (iI (v 22 i)), .int (iI (v 23 i)), .ref (A 7 i), .int (iI (v 24 i)), .int (iI (v 25 i))]))
  else if v 20 i = 2 then some (.inl (7, [.ref (A 6 i), .ref (A 0 1), .int (iI (v 21 i)), .int (iI (v 22 i)), .ref (A 8 i), .int (iI (v 27 i)), .int (iI (v 28 i)), .int (iI (v 29 i)), .int (iI (v 30 i)), .int (iI (v 31 i)), .int (iI (v 32 i)), .int (iI (v 33 i))]))
  else if v 20 i = 3 then some (.inl (8, [.ref (A 6 i), .ref (A 0 1), .int (iI (v 21 i)), .int (iI (v 22 i)), .ref (A 9 (v 34 i).toNat), .ref (A 0 3), .int (iI (v 35 i)), .int (iI (v 36 i)), .int (iI (v 37 i)), .int (iI (v 38 i)), .int (iI (v 39 i))]))
  else none
def cc_cell (A : Nat → Nat → Nat) (v : Nat → Nat → Int) (L : Nat → List Nat) (k i : Nat) : Option XE := match k with
  | 0 => cc_one A v i
  | 1 => if i < 8 then some (.inl (4, [.int (nI i), .ref (A 2 i), .ref (A 3 i), .ref (A 4 i), .int (iI (v 10 i)), q_t A (v 11 i), .int (iI (v 12 i)), .int (iI (v 13 i)), .int (iI (v 14 i)), q_k A (v 15 i)])) else none
  | 2 => if i < 8 then some (.inr (3, 4, fun j => q_t A (v 16 (i + 8 * j)))) else none
  | 3 => if i < 8 then some (.inr (0, 4, fun j => .int (iI (v 17 (i + 8 * j))))) else none
  | 4 => if i < 8 then some (.inr (0, 4, fun j => .int (iI (v 18 (i + 8 * j))))) else none
  | 5 => cc_tgt A v i
  | 7 => if v 20 i = 1 ∧ i < 32 then some (.inr (0, 4, fun j => .int (iI (v 26 (i + 32 * j))))) else none
  | 9 => if v 40 i = 1 then some (.inl (5, [.ref (A 10 i), .int (iI (v 41 i)), .int (iI (v 42 i)), .int (iI (v 43 i))])) else none
  | 11 => if i < (L 1).length then some (.inl (9, [.ref (A 5 (v 50 i).toNat), .int (iI (v 51 i)), .int (iI (v 52 i)), .int (iI (v 53 i)), .int (iI (v 54 i)), .int (iI (v 55 i))])) else none
  | 20 => if v 60 0 = 1 ∧ i = 0 then some (.inl (11, r_fs A v)) else none
  | 21 => if v 60 0 = 1 ∧ 0 < r_len i then some (.inr (r_at i, r_len i, fun j => .int (iI (v (100 + i) j)))) else none
  | _ => none
/-- which objects there are: the cells and the lists' objects -/
def cc_live (v : Nat → Nat → Int) (L : Nat → List Nat) (k i : Nat) : Prop := match k with
  | 0 => i ≤ 10
  | 1 => i < 8
  | 2 => i < 8
  | 3 => i < 8
  | 4 => i < 8
  | 5 => v 20 i = 1 ∨ v 20 i = 2 ∨ v 20 i = 3
  | 6 => v 20 i = 1 ∨ v 20 i = 2 ∨ v 20 i = 3
  | 7 => v 20 i = 1
  | 8 => v 20 i = 2
  | 9 => v 40 i = 1
  | 10 => v 40 i = 1
  | 11 => i < (L 1).length
  | 20 => v 60 0 = 1 ∧ i = 0
  | 21 => v 60 0 = 1 ∧ 0 < r_len i
  | _ => False
-- the lists: 0 sessions, 1 tasks, 100 + t the line of target t, 200 + t what singleton t needs, 300 + c the sessions of stateful c
def cl_obj (l : Nat) : Nat × Nat := if l = 0 then (0, 9) else if l = 1 then (0, 10) else if l < 200 then (6, l - 100) else if l < 300 then (8, l - 200) else (10, l - 300)
def cl_el (l : Nat) : Nat := if l = 1 then 11 else if 100 ≤ l ∧ l < 200 then 1 else 5
def cl_ok (l : Nat) : Prop := l = 0 ∨ l = 1 ∨ (100 ≤ l ∧ l < 132) ∨ (200 ≤ l ∧ l < 232) ∨ (300 ≤ l ∧ l < 308)
def cl_live (v : Nat → Nat → Int) (L : Nat → List Nat) (l : Nat) : Prop := cl_ok l ∧ cc_live v L (cl_obj l).1 (cl_obj l).2
def PC (X : XC) (f : XH) (A : Nat → Nat → Nat) (DA : Nat → Nat) (v : Nat → Nat → Int) (L : Nat → List Nat) : Prop :=
  (∀ k i e, cc_cell A v L k i = some e → f (A k i) = some e) ∧
  (∀ l, cl_live v L l → al_ok X f (A (cl_obj l).1 (cl_obj l).2) (DA l) (L l).length (fun j => A (cl_el l) ((L l).getD j 0))) ∧
  (∀ k i k' i', cc_live v L k i → cc_live v L k' i' → A k i = A k' i' → k = k' ∧ i = i') ∧
  (∀ l, cl_live v L l → (∀ k i, cc_live v L k i → A k i ≠ DA l) ∧ ∀ l', cl_live v L l' → l' ≠ l → DA l' = DA l → DA l = x_k X 0) ∧
  (∃ g0, f (x_k X 0) = some (.inr (99, 0, g0))) ∧ (∀ k i, cc_live v L k i → A k i ≠ x_k X 0) ∧ (∀ k i, cc_live v L k i → f (A k i) ≠ none)
theorem cc_cell_live {A : Nat → Nat → Nat} {v : Nat → Nat → Int} {L : Nat → List Nat} {k i : Nat} {e : XE} (h : cc_cell A v L k i = some e) : cc_live v L k i := by
  unfold cc_cell at h
  split at h
  · unfold cc_one at h
    split at h <;> first | (show _ ≤ 10; omega) | cases h
  · split at h <;> first | assumption | cases h
  · split at h <;> first | assumption | cases h
  · split at h <;> first | assumption | cases h
  · split at h <;> first | assumption | cases h
  · unfold cc_tgt at h
    show v 20 i = 1 ∨ v 20 i = 2 ∨ v 20 i = 3
    split at h
    · exact Or.inl ‹_›
    · split at h
      · exact Or.inr (Or.inl ‹_›)
      · split at h
        · exact Or.inr (Or.inr ‹_›)
        · cases h
  · split at h <;> first | exact (‹_ ∧ _›).1 | cases h
  · split at h <;> first | assumption | cases h
  · split at h <;> first | assumption | cases h
  · split at h <;> first | assumption | cases h
  · split at h <;> first | assumption | cases h
  · cases h
theorem al_same {X : XC} {f f' : XH} {a d n : Nat} {g : Nat → Nat} (h : al_ok X f a d n g) (ha : f' a = f a) (hd : f' d = f d) : al_ok X f' a d n g := by
  obtain ⟨m, h1, h2⟩ := h
  refine ⟨m, ha.trans h1, ?_⟩
  rcases h2 with ⟨p1, p2, g0, p3⟩ | ⟨cap, G, p1, p2⟩
  · exact Or.inl ⟨p1, p2, g0, hd.trans p3⟩
  · exact Or.inr ⟨cap, G, hd.trans p1, p2⟩
/-- a cell of the picture is written: the picture of the new values -/
theorem PC.put {X : XC} {f : XH} {A : Nat → Nat → Nat} {DA : Nat → Nat} {v v' : Nat → Nat → Int} {L : Nat → List Nat} (h : PC X f A DA v L) (k i : Nat) {e : XE} (he : cc_cell A v' L k i = some e) (hlv : cc_live v' L = cc_live v L) (ho : ∀ k' i', ¬ (k' = k ∧ i' = i) → cc_cell A v' L k' i' = cc_cell A v L k' i') (hk : ∀ l, cl_ok l → cl_obj l ≠ (k, i)) : PC X (va_up f (A k i) (some e)) A DA v' L := by
  obtain ⟨h1, h2, h3, h4, ⟨g0, h5⟩, h6, h7⟩ := h
  have hki : cc_live v L k i := hlv ▸ cc_cell_live he
  unfold PC cl_live
  rw [hlv]
  refine ⟨fun k' i' e' he' => ?_, fun l hl => ?_, h3, h4, ⟨g0, x_u (Ne.symm (h6 k i hki)) h5⟩, h6, fun k' i' hl' => ?_⟩
  · by_cases hkk : k' = k ∧ i' = i
    · obtain ⟨rfl, rfl⟩ := hkk
      rw [he] at he'
      cases he'
      exact va_up_self _ _ _
    · have hl' : cc_live v L k' i' := hlv ▸ cc_cell_live he'
      rw [ho k' i' hkk] at he'
      exact x_u (fun z => hkk (h3 _ _ _ _ hl' hki z)) (h1 k' i' e' he')
  · refine al_same (h2 l hl) (va_up_ne _ _ (fun z => ?_)) (va_up_ne _ _ (fun z => (h4 l hl).1 k i hki z.symm))
    obtain ⟨e1, e2⟩ := h3 _ _ _ _ hl.2 hki z
    exact hk l hl.1 (Prod.ext e1 e2)
  · by_cases z : A k' i' = A k i
    · rw [z, va_up_self]
      exact fun q => nomatch q
    · rw [va_up_ne _ _ z]
      exact h7 k' i' hl'
-- which cell a value stands in
def cc_own (c i : Nat) : Nat × Nat := match c with
  | 0 => (0, 0)
  | 1 => (0, 0)
  | 2 => (0, 3)
  | 3 => (0, 3)
  | 4 => (0, 1)
  | 5 => (0, 1)
  | 6 => (0, 2)
  | 7 => (0, 5)
  | 16 => (2, i % 8)
  | 17 => (3, i % 8)
  | 18 => (4, i % 8)
  | 26 => (7, i % 32)
  | _ => if 100 ≤ c then (if r_len (c - 100) = 0 then (20, 0) else (21, c - 100)) else if c < 20 then (1, i) else if c < 40 then (5, i) else if c < 50 then (9, i) else (11, i)
/-- a value is written: no other cell changes -/
theorem cc_up {A : Nat → Nat → Nat} {v : Nat → Nat → Int} {L : Nat → List Nat} {c i : Nat} {x : Int} (hc : c ≠ 20 ∧ c ≠ 40 ∧ c ≠ 60) (k' i' : Nat) (hk : ¬ (k' = (cc_own c i).1 ∧ i' = (cc_own c i).2)) : cc_cell A (up2 v c i x) L k' i' = cc_cell A v L k' i' := by
  have e : ∀ c' j, cc_own c' j = (k', i') → up2 v c i x c' j = v c' j := by
    intro c' j hj
    unfold up2
    rw [if_neg]
    rintro ⟨rfl, rfl⟩
    exact hk (by rw [hj]; exact ⟨rfl, rfl⟩)
  have e20 : ∀ j, up2 v c i x 20 j = v 20 j := fun j => up2_c (Ne.symm hc.1)
  have e40 : ∀ j, up2 v c i x 40 j = v 40 j := fun j => up2_c (Ne.symm hc.2.1)
  have e60 : ∀ j, up2 v c i x 60 j = v 60 j := fun j => up2_c (Ne.symm hc.2.2)
  unfold cc_cell
  split
  · unfold cc_one
    split
    · rw [e 1 0 rfl, e 0 0 rfl]
    · rw [e 4 0 rfl, e 5 0 rfl]
    · congr; funext j; rw [e 6 j rfl]
    · rw [e 2 0 rfl, e 3 0 rfl]
    · rfl
    · congr; funext j; rw [e 7 j rfl]
    · rfl
    · congr; funext j; rw [e20]
    · congr; funext j; rw [e40]
    · rfl
  · rw [e 10 i' rfl, e 11 i' rfl, e 12 i' rfl, e 13 i' rfl, e 14 i' rfl, e 15 i' rfl]
  · split
    · congr; funext j; rw [e 16 (i' + 8 * j) (by show (2, (i' + 8 * j) % 8) = (2, i'); congr 1; omega)]
    · rfl
  · split
    · congr; funext j; rw [e 17 (i' + 8 * j) (by show (3, (i' + 8 * j) % 8) = (3, i'); congr 1; omega)]
    · rfl
  · split
    · congr; funext j; rw [e 18 (i' + 8 * j) (by show (4, (i' + 8 * j) % 8) = (4, i'); congr 1; omega)]
    · rfl
  · unfold cc_tgt
    rw [e20, e 21 i' rfl, e 22 i' rfl, e 23 i' rfl, e 24 i' rfl, e 25 i' rfl, e 27 i' rfl, e 28 i' rfl, e 29 i' rfl, e 30 i' rfl, e 31 i' rfl, e 32 i' rfl, e 33 i' rfl, e 34 i' rfl, e 35 i' rfl, e 36 i' rfl, e 37 i' rfl, e 38 i' rfl, e 39 i' rfl]
  · rw [e20]
    split
    · rename_i h
      congr; funext j; rw [e 26 (i' + 32 * j) (by show (7, (i' + 32 * j) % 32) = (7, i'); congr 1; omega)]
    · rfl
  · rw [e40, e 41 i' rfl, e 42 i' rfl, e 43 i' rfl]
  · rw [e 50 i' rfl, e 51 i' rfl, e 52 i' rfl, e 53 i' rfl, e 54 i' rfl, e 55 i' rfl]
  · rw [e60]
    split
    · rename_i h
      obtain ⟨-, rfl⟩ := h
      unfold r_fs
      rw [e 100 0 rfl, e 101 0 rfl, e 102 0 rfl, e 112 0 rfl, e 118 0 rfl, e 124 0 rfl, e 133 0 rfl, e 135 0 rfl, e 143 0 rfl, e 144 0 rfl]
    · rfl
  · rw [e60]
    split
    · rename_i h
      congr; funext j; rw [e (100 + i') j (by
        have h2 : ¬ r_len i' = 0 := by omega
        have h3 : 100 + i' - 100 = i' := by omega
        unfold cc_own
        split <;> first | omega | skip
        rw [if_pos (by omega), h3, if_neg h2])]
    · rfl
  · rfl
theorem cc_upl {v : Nat → Nat → Int} {L : Nat → List Nat} {c i : Nat} {x : Int} (hc : c ≠ 20 ∧ c ≠ 40 ∧ c ≠ 60) : cc_live (up2 v c i x) L = cc_live v L := by
  have e1 : ∀ j, up2 v c i x 20 j = v 20 j := fun j => up2_c (Ne.symm hc.1)
  have e2 : ∀ j, up2 v c i x 40 j = v 40 j := fun j => up2_c (Ne.symm hc.2.1)
  have e3 : ∀ j, up2 v c i x 60 j = v 60 j := fun j => up2_c (Ne.symm hc.2.2)
  funext k j
  unfold cc_live
  simp only [e1, e2, e3]
theorem cl_obj_k {l : Nat} (h : cl_ok l) : (cl_obj l).1 = 0 ∧ 9 ≤ (cl_obj l).2 ∨ (cl_obj l).1 = 6 ∨ (cl_obj l).1 = 8 ∨ (cl_obj l).1 = 10 := by
  unfold cl_obj cl_ok at *
  split <;> first | (left; decide) | skip
  split <;> first | (left; decide) | skip
  split <;> first | (right; left; rfl) | skip
  split <;> first | (right; right; left; rfl) | (right; right; right; rfl)
theorem cc_own_k (c i : Nat) (l : Nat) (h : cl_ok l) : cl_obj l ≠ ((cc_own c i).1, (cc_own c i).2) := by
  intro z
  have h1 := cl_obj_k h
  have h2 : (cl_obj l).1 = (cc_own c i).1 := by rw [z]
  have h3 : (cl_obj l).2 = (cc_own c i).2 := by rw [z]
  rw [h2, h3] at h1
  unfold cc_own at h1
  split at h1 <;> first | (revert h1; simp; done) | (repeat' (split at h1)) <;> (revert h1; simp)
/-- one value of one cell is written -/
theorem PC.up {X : XC} {f : XH} {A : Nat → Nat → Nat} {DA : Nat → Nat} {v : Nat → Nat → Int} {L : Nat → List Nat} (h : PC X f A DA v L) (c i : Nat) (x : Int) (hc : c ≠ 20 ∧ c ≠ 40 ∧ c ≠ 60) {e : XE} (he : cc_cell A (up2 v c i x) L (cc_own c i).1 (cc_own c i).2 = some e) : PC X (va_up f (A (cc_own c i).1 (cc_own c i).2) (some e)) A DA (up2 v c i x) L :=
  h.put _ _ he (cc_upl hc) (fun k' i' hk => cc_up hc k' i' hk) (fun l hl => cc_own_k c i l hl)
