/-! The host's constructor. -/
section
variable {X : XC} {f f' : XH}
/-- known cells, at addresses apart -/
def kn (f : XH) (K : List (Nat × XE)) : Prop := (∀ p ∈ K, f p.1 = some p.2) ∧ (K.map Prod.fst).Nodup
theorem kn_ni {K : List (Nat × XE)} (h : kn f K) {q : Nat} (hq : f q = none) : q ∉ K.map Prod.fst := by
  intro z
  obtain ⟨p, hp, e⟩ := List.mem_map.mp z
  have := h.1 p hp
  rw [e, hq] at this
  cases this
theorem kn_hd {K : List (Nat × XE)} {a : Nat} {e : XE} (h : kn f ((a, e) :: K)) : f a = some e := h.1 (a, e) List.mem_cons_self
theorem kn_new {K : List (Nat × XE)} {q : Nat} {e : XE} (h : kn f K) (hq : f q = none) : kn (va_up f q (some e)) ((q, e) :: K) := by
  have ni := kn_ni h hq
  refine ⟨fun p hp => ?_, ?_⟩
  · rcases List.mem_cons.mp hp with rfl | hp
    · exact va_up_self _ _ _
    · rw [va_up_ne _ _ (fun z => ni (by rw [← z]; exact List.mem_map_of_mem hp))]
      exact h.1 p hp
  · rw [List.map_cons, List.nodup_cons]
    exact ⟨ni, h.2⟩
theorem kn_put {K : List (Nat × XE)} {a : Nat} {e e' : XE} (h : kn f ((a, e) :: K)) : kn (va_up f a (some e')) ((a, e') :: K) := by
  have nd := h.2
  rw [List.map_cons, List.nodup_cons] at nd
  refine ⟨fun p hp => ?_, ?_⟩
  · rcases List.mem_cons.mp hp with rfl | hp
    · exact va_up_self _ _ _
    · rw [va_up_ne _ _ (fun z => nd.1 (by show a ∈ _; rw [← z]; exact List.mem_map_of_mem hp))]
      exact h.1 p (List.mem_cons_of_mem _ hp)
  · rw [List.map_cons, List.nodup_cons]
    exact nd
theorem kn_sw {K : List (Nat × XE)} {p q : Nat × XE} (h : kn f (p :: q :: K)) : kn f (q :: p :: K) := by
  have e : (q :: p :: K).Perm (p :: q :: K) := List.Perm.swap p q K
  refine ⟨fun x hx => h.1 x (e.mem_iff.mp hx), ?_⟩
  exact (e.map Prod.fst).nodup_iff.mpr h.2
/-- the head's object is made: nothing else is new -/
theorem kn_i0 {K : List (Nat × XE)} {q : Nat} {e e' : XE} (h : kn f ((q, e) :: K)) (h1 : f' q = some e') (hf : ∀ b, b ≠ q → f' b = f b) : kn f' ((q, e') :: K) := by
  have : f' = va_up f q (some e') := by
    funext b
    by_cases z : b = q
    · rw [z, va_up_self]; exact h1
    · rw [va_up_ne _ _ z]; exact hf b z
  rw [this]
  exact kn_put h
/-- one more cell is new -/
theorem kn_i1 {K : List (Nat × XE)} {q d : Nat} {e e' e2 : XE} (h : kn f ((q, e) :: K)) (hd : f d = none) (hdq : d ≠ q) (h1 : f' q = some e') (h2 : f' d = some e2) (hf : ∀ b, b ≠ q → b ≠ d → f' b = f b) : kn f' ((d, e2) :: (q, e') :: K) := by
  have : f' = va_up (va_up f q (some e')) d (some e2) := by
    funext b
    by_cases z : b = d
    · rw [z, va_up_self]; exact h2
    · rw [va_up_ne _ _ z]
      by_cases y : b = q
      · rw [y, va_up_self]; exact h1
      · rw [va_up_ne _ _ y]; exact hf b y z
  rw [this]
  exact kn_new (kn_put h) (by rw [va_up_ne _ _ hdq]; exact hd)
theorem nd_inj : ∀ (l : List Nat), l.Nodup → ∀ i j, i < l.length → j < l.length → l.getD i 0 = l.getD j 0 → i = j := by
  intro l h i j hi hj e
  rw [List.getD_eq_getElem?_getD, List.getD_eq_getElem?_getD, List.getElem?_eq_getElem hi, List.getElem?_eq_getElem hj] at e
  exact (List.getElem_inj h).mp e
def v0 : SV := fun c _ => if c = 11 ∨ c = 14 ∨ c = 15 ∨ c = 16 then -1 else 0
def L0 : SL := fun _ => []
/-- the cells of the host and of the first k callers -/
def e_h (X : XC) (A : Nat → Nat → Nat) (k q i : Nat) : Option XE := if q = 0 ∧ i = 6 then some (.inr (2, 8, fun j => if j < k then .ref (A 1 j) else .null)) else if q = 0 ∧ (i = 9 ∨ i = 10) then e_al X else cc_cell A v0 L0 q i
def s_h (k q i : Nat) : Prop := q = 0 ∧ i ≤ 10 ∨ (1 ≤ q ∧ q ≤ 4) ∧ i < k
def iv_h (X : XC) (f : XH) (A : Nat → Nat → Nat) (k : Nat) : Prop := (∀ q i, s_h k q i → f (A q i) = e_h X A k q i) ∧ (∀ q i q' i', s_h k q i → s_h k q' i' → A q i = A q' i' → q = q' ∧ i = i') ∧ (∀ q i, s_h k q i → A q i ≠ x_k X 0) ∧ ∃ g0, f (x_k X 0) = some (.inr (99, 0, g0))
theorem arr_cg {C : ClassId} {n : Nat} {g g' : Nat → Value} (h : ∀ j, j < n → g j = g' j) : arrV C n g = arrV C n g' := by
  unfold arrV
  have : (fun j : Fin n => g j.val) = fun j => g' j.val := funext fun j => h j.val j.isLt
  rw [this]
theorem x_P.cg {a ti n : Nat} {g g' : Nat → Value} {H : Heap} (h : x_P X f H) (ha : f a = some (.inr (ti, n, g))) (hg : ∀ j, j < n → g j = g' j) : x_P X (va_up f a (some (.inr (ti, n, g')))) H := by
  intro b e he
  by_cases z : b = a
  · rw [z, va_up_self] at he
    cases he
    rw [z]
    rcases h a _ ha with ⟨h1, h2⟩ | h1
    · exact Or.inl ⟨h1, h2.trans (congrArg some (arr_cg hg))⟩
    · exact Or.inr h1
  · rw [va_up_ne _ _ z] at he
    exact h b e he
theorem x_D.cg {a ti n : Nat} {g g' : Nat → Value} (h : x_D X f) (ha : f a = some (.inr (ti, n, g))) (ht : ti ≠ 99) : x_D X (va_up f a (some (.inr (ti, n, g')))) := by
  intro b e he
  by_cases z : b = a
  · rw [z]
    rcases h a _ ha with h1 | ⟨g0, h1⟩
    · exact Or.inl h1
    · cases h1; exact absurd rfl ht
  · rw [va_up_ne _ _ z] at he
    exact h b e he
theorem x_wk2 {y : Nat} {av : List Value} {fr lo mc ms : Nat} {Q Q' : Option Value → XH → Prop} (h : Holds X y av f fr lo mc ms Q) (hq : ∀ r f', Q r f' → ∃ f2, (∀ H, x_P X f' H → x_P X f2 H) ∧ (x_D X f' → x_D X f2) ∧ Q' r f2) : Holds X y av f fr lo mc ms Q' := by
  intro p e ha hc hk s m args below hf happ hP hK
  obtain ⟨n, o, h1, h2, h3, ⟨⟨r, f', h4, h5, h6, h7⟩, h8⟩, h9⟩ := h p e ha hc hk s m args below hf happ hP hK
  obtain ⟨f2, g1, g2, g3⟩ := hq r f' h5
  exact ⟨n, o, h1, h2, h3, ⟨⟨r, f2, h4, g3, g1 _ h6, g2 h7⟩, h8⟩, h9⟩
theorem iv_end {A : Nat → Nat → Nat} (h : iv_h X f A 8) : PS X (va_up f (A 0 6) (some (.inr (2, 8, fun j => .ref (A 1 j))))) A (fun _ => x_k X 0) v0 L0 := by
  obtain ⟨h1, h2, h3, g0, h4⟩ := h
  have lv : ∀ q i, cc_live v0 L0 q i → s_h 8 q i := by
    intro q i hl
    unfold cc_live at hl
    unfold s_h
    split at hl
    all_goals first
      | exact Or.inl ⟨rfl, hl⟩
      | exact Or.inr ⟨by omega, hl⟩
      | (simp [v0, L0] at hl; done)
      | exact hl.elim
  have s6 : s_h 8 0 6 := Or.inl ⟨rfl, by omega⟩
  have up : ∀ q i, s_h 8 q i → ¬ (q = 0 ∧ i = 6) → va_up f (A 0 6) (some (.inr (2, 8, fun j => .ref (A 1 j)))) (A q i) = f (A q i) := fun q i hs hn => va_up_ne _ _ (fun z => hn (h2 _ _ _ _ hs s6 z))
  have nn : ∀ q i, s_h 8 q i → va_up f (A 0 6) (some (.inr (2, 8, fun j => .ref (A 1 j)))) (A q i) ≠ none := by
    intro q i hs
    by_cases z : q = 0 ∧ i = 6
    · obtain ⟨rfl, rfl⟩ := z
      rw [va_up_self]; exact fun z => nomatch z
    · rw [up q i hs z, h1 q i hs]
      unfold e_h
      rw [if_neg z]
      split
      · exact fun z => nomatch z
      · rename_i n2
        rcases hs with ⟨rfl, hi⟩ | ⟨hq, hi⟩
        · have : i = 0 ∨ i = 1 ∨ i = 2 ∨ i = 3 ∨ i = 4 ∨ i = 5 ∨ i = 7 ∨ i = 8 := by omega
          rcases this with rfl | rfl | rfl | rfl | rfl | rfl | rfl | rfl <;> exact fun z => nomatch z
        · have : q = 1 ∨ q = 2 ∨ q = 3 ∨ q = 4 := by omega
          rcases this with rfl | rfl | rfl | rfl <;> (unfold cc_cell; simp only [if_pos hi]; exact fun z => nomatch z)
  have k0 : va_up f (A 0 6) (some (.inr (2, 8, fun j => .ref (A 1 j)))) (x_k X 0) = some (.inr (99, 0, g0)) := (va_up_ne _ _ (Ne.symm (h3 0 6 s6))).trans h4
  refine ⟨⟨fun q i e he => ?_, fun l hl => ?_, fun q i q' i' a b => h2 q i q' i' (lv q i a) (lv q' i' b), fun l hl => ⟨fun q i hq => h3 q i (lv q i hq), fun _ _ _ _ => rfl⟩, ⟨g0, k0⟩, fun q i hq => h3 q i (lv q i hq), fun q i hq => nn q i (lv q i hq)⟩, fun c i => ?_⟩
  · have hs := lv q i (cc_cell_live he)
    by_cases z : q = 0 ∧ i = 6
    · obtain ⟨rfl, rfl⟩ := z
      rw [va_up_self]
      exact he
    · rw [up q i hs z, h1 q i hs]
      unfold e_h
      rw [if_neg z, if_neg ?_]
      · exact he
      · rintro ⟨rfl, y | y⟩ <;> (rw [y] at he; cases he)
  · have hs := lv _ _ hl.2
    have hk := cl_obj_k hl.1
    have e0 : (cl_obj l).1 = 0 ∧ ((cl_obj l).2 = 9 ∨ (cl_obj l).2 = 10) := by
      rcases hs with ⟨a, b⟩ | ⟨⟨a, b⟩, c⟩
      · exact ⟨a, by omega⟩
      · omega
    refine al_new ?_ ⟨g0, k0⟩
    rw [up _ _ hs (by omega), h1 _ _ hs]
    unfold e_h
    rw [if_neg (by omega), if_pos e0]
  · unfold v0
    split <;> (constructor <;> decide)
theorem iv_step {f1 : XH} {A : Nat → Nat → Nat} {k a d1 d2 d3 : Nat} (h : iv_h X f A k) (hk : k < 8) (ha : f a = none) (h1 : f d1 = none) (h2 : f d2 = none) (h3 : f d3 = none) (hn : d1 ≠ a ∧ d2 ≠ a ∧ d3 ≠ a ∧ d1 ≠ d2 ∧ d1 ≠ d3 ∧ d2 ≠ d3) (g1 : f1 d1 = some (.inr (3, 4, fun _ => .null))) (g2 : f1 d2 = some (.inr (0, 4, fun _ => .int 0))) (g3 : f1 d3 = some (.inr (0, 4, fun _ => .int 0))) (ga : f1 a = some (.inl (4, [.int (nI k), .ref d1, .ref d2, .ref d3, .int 0, .null, .int 0, .int 0, .int (-1), .null]))) (hf : ∀ b, b ≠ a → b ≠ d1 → b ≠ d2 → b ≠ d3 → f1 b = f b) : ∃ A' : Nat → Nat → Nat, (∀ i, A' 0 i = A 0 i) ∧ iv_h X (va_up f1 (A 0 6) (some (.inr (2, 8, va_up (fun j => if j < k then .ref (A 1 j) else .null) k (.ref a))))) A' (k + 1) := by
  obtain ⟨p1, p2, p3, g0, p4⟩ := h
  have s6 : s_h k 0 6 := Or.inl ⟨rfl, by omega⟩
  have nn : ∀ q i, s_h k q i → f (A q i) ≠ none := by
    intro q i hs
    rw [p1 q i hs]
    unfold e_h
    split
    · exact fun z => nomatch z
    · split
      · exact fun z => nomatch z
      · rename_i n1 n2
        rcases hs with ⟨rfl, hi⟩ | ⟨hq, hi⟩
        · have : i = 0 ∨ i = 1 ∨ i = 2 ∨ i = 3 ∨ i = 4 ∨ i = 5 ∨ i = 7 ∨ i = 8 := by omega
          rcases this with rfl | rfl | rfl | rfl | rfl | rfl | rfl | rfl <;> exact fun z => nomatch z
        · have hi8 : i < 8 := by omega
          have : q = 1 ∨ q = 2 ∨ q = 3 ∨ q = 4 := by omega
          rcases this with rfl | rfl | rfl | rfl <;> (unfold cc_cell; simp only [if_pos hi8]; exact fun z => nomatch z)
  have ne : ∀ q i b, s_h k q i → f b = none → A q i ≠ b := fun q i b hs hb z => nn q i hs (z ▸ hb)
  obtain ⟨A', eA⟩ : ∃ A' : Nat → Nat → Nat, A' = fun q i => if q = 1 ∧ i = k then a else if q = 2 ∧ i = k then d1 else if q = 3 ∧ i = k then d2 else if q = 4 ∧ i = k then d3 else A q i := ⟨_, rfl⟩
  have A1 : A' 1 k = a := by rw [eA]; simp
  have A2 : A' 2 k = d1 := by rw [eA]; simp
  have A3 : A' 3 k = d2 := by rw [eA]; simp
  have A4 : A' 4 k = d3 := by rw [eA]; simp
  have Ao : ∀ q i, (q = 0 ∨ i ≠ k) → A' q i = A q i := by
    intro q i h
    rw [eA]
    simp only
    rw [if_neg (by omega), if_neg (by omega), if_neg (by omega), if_neg (by omega)]
  have split' : ∀ q i, s_h (k + 1) q i → (s_h k q i ∧ A' q i = A q i) ∨ (i = k ∧ (q = 1 ∨ q = 2 ∨ q = 3 ∨ q = 4)) := by
    intro q i hs
    rcases hs with ⟨rfl, hi⟩ | ⟨hq, hi⟩
    · exact Or.inl ⟨Or.inl ⟨rfl, hi⟩, Ao 0 i (Or.inl rfl)⟩
    · by_cases z : i = k
      · exact Or.inr ⟨z, by omega⟩
      · exact Or.inl ⟨Or.inr ⟨hq, by omega⟩, Ao q i (Or.inr z)⟩
  have new : ∀ q i, i = k ∧ (q = 1 ∨ q = 2 ∨ q = 3 ∨ q = 4) → f (A' q i) = none := by
    rintro q i ⟨rfl, rfl | rfl | rfl | rfl⟩
    · rw [A1]; exact ha
    · rw [A2]; exact h1
    · rw [A3]; exact h2
    · rw [A4]; exact h3
  have n6 : ∀ b, f b = none → b ≠ A 0 6 := fun b hb => Ne.symm (ne 0 6 b s6 hb)
  refine ⟨A', fun i => Ao 0 i (Or.inl rfl), fun q i hs => ?_, fun q i q' i' hs hs' z => ?_, fun q i hs => ?_, g0, ?_⟩
  · rcases split' q i hs with ⟨ho, e⟩ | ⟨rfl, hq⟩
    · rw [e]
      by_cases z : q = 0 ∧ i = 6
      · obtain ⟨rfl, rfl⟩ := z
        rw [va_up_self]
        unfold e_h
        rw [if_pos ⟨rfl, rfl⟩]
        congr 4
        funext j
        by_cases y : j = k
        · rw [y, va_up_self, if_pos (by omega), A1]
        · rw [va_up_ne _ _ y]
          by_cases y2 : j < k
          · rw [if_pos y2, if_pos (by omega), Ao 1 j (Or.inr y)]
          · rw [if_neg y2, if_neg (by omega)]
      · rw [va_up_ne _ _ (fun y => z (p2 _ _ _ _ ho s6 y)), hf _ (ne q i a ho ha) (ne q i d1 ho h1) (ne q i d2 ho h2) (ne q i d3 ho h3), p1 q i ho]
        unfold e_h
        rw [if_neg z, if_neg z]
        by_cases y : q = 0 ∧ (i = 9 ∨ i = 10)
        · rw [if_pos y, if_pos y]
        · rw [if_neg y, if_neg y]
          rcases ho with ⟨rfl, hi⟩ | ⟨hq, hi⟩
          · have : i = 0 ∨ i = 1 ∨ i = 2 ∨ i = 3 ∨ i = 4 ∨ i = 5 ∨ i = 7 ∨ i = 8 := by omega
            have a0 : A' 0 = A 0 := funext fun j => Ao 0 j (Or.inl rfl)
            rcases this with rfl | rfl | rfl | rfl | rfl | rfl | rfl | rfl <;> (unfold cc_cell cc_one; (try simp only [a0]) <;> first | rfl | (simp [v0]; done))
          · have ik : i ≠ k := by omega
            have : q = 1 ∨ q = 2 ∨ q = 3 ∨ q = 4 := by omega
            rcases this with rfl | rfl | rfl | rfl
            · unfold cc_cell
              simp only [Ao 2 i (Or.inr ik), Ao 3 i (Or.inr ik), Ao 4 i (Or.inr ik)]
              rfl
            · rfl
            · rfl
            · rfl
    · have h8 : i < 8 := hk
      rcases hq with rfl | rfl | rfl | rfl
      · rw [A1, va_up_ne _ _ (n6 a ha), ga]
        unfold e_h cc_cell
        simp only [Nat.reduceEqDiff, false_and, if_false, if_pos h8, A2, A3, A4]
        rfl
      · rw [A2, va_up_ne _ _ (n6 d1 h1), g1]
        unfold e_h cc_cell
        simp only [Nat.reduceEqDiff, false_and, if_false, if_pos h8]
        rfl
      · rw [A3, va_up_ne _ _ (n6 d2 h2), g2]
        unfold e_h cc_cell
        simp only [Nat.reduceEqDiff, false_and, if_false, if_pos h8]
        rfl
      · rw [A4, va_up_ne _ _ (n6 d3 h3), g3]
        unfold e_h cc_cell
        simp only [Nat.reduceEqDiff, false_and, if_false, if_pos h8]
        rfl
  · rcases split' q i hs with ⟨ho, e⟩ | hq
    · rcases split' q' i' hs' with ⟨ho', e'⟩ | hq'
      · rw [e, e'] at z
        exact p2 _ _ _ _ ho ho' z
      · rw [e] at z
        exact absurd (z ▸ new q' i' hq') (nn q i ho)
    · rcases split' q' i' hs' with ⟨ho', e'⟩ | hq'
      · rw [e'] at z
        exact absurd (z ▸ new q i hq) (nn q' i' ho')
      · obtain ⟨n1, n2, n3, n4, n5, n6⟩ := hn
        obtain ⟨rfl, hq⟩ := hq
        obtain ⟨rfl, hq'⟩ := hq'
        rcases hq with rfl | rfl | rfl | rfl <;> rcases hq' with rfl | rfl | rfl | rfl <;> simp only [A1, A2, A3, A4] at z <;> first
          | exact ⟨rfl, rfl⟩
          | exact absurd z (by assumption)
          | exact absurd z.symm (by assumption)
  · rcases split' q i hs with ⟨ho, e⟩ | hq
    · rw [e]; exact p3 q i ho
    · intro z
      have := new q i hq
      rw [z, p4] at this
      cases this
  · rw [va_up_ne _ _ (Ne.symm (p3 0 6 s6)), hf]
    · exact p4
    · intro z; rw [← z, p4] at ha; cases ha
    · intro z; rw [← z, p4] at h1; cases h1
    · intro z; rw [← z, p4] at h2; cases h2
    · intro z; rw [← z, p4] at h3; cases h3
end
