/-! New objects in the picture. -/
theorem PC.ext {X : XC} {f f' : XH} {A A' : Nat → Nat → Nat} {DA DA' : Nat → Nat} {v v' : SV} {L L' : SL} (h : PC X f A DA v L) (N : Nat → Nat → Prop) (l0 : Nat)
    (hA : ∀ k i, cc_live v L k i → A' k i = A k i)
    (hl : ∀ k i, cc_live v' L' k i → cc_live v L k i ∨ N k i)
    (hN : ∀ k i, N k i → f (A' k i) = none ∧ f' (A' k i) ≠ none)
    (hi : ∀ k i k' i', N k i → N k' i' → A' k i = A' k' i' → k = k' ∧ i = i')
    (hf : ∀ b, f b ≠ none → f' b ≠ none)
    (h0 : f' (x_k X 0) = f (x_k X 0))
    (hc : ∀ k i e, cc_cell A' v' L' k i = some e → f' (A' k i) = some e)
    (hL : ∀ l, cl_live v' L' l → al_ok X f' (A' (cl_obj l).1 (cl_obj l).2) (DA' l) (L' l).length (fun j => A' (cl_el l) ((L' l).getD j 0)) ∧ (cl_live v L l ∧ DA' l = DA l ∨ DA' l = x_k X 0 ∨ l = l0 ∧ f (DA' l) = none ∧ ∀ k i, N k i → A' k i ≠ DA' l)) :
    PC X f' A' DA' v' L' := by
  obtain ⟨p1, p2, p3, p4, ⟨g0, p5⟩, p6, p7⟩ := h
  have hDn : ∀ l, cl_live v L l → f (DA l) ≠ none := by
    intro l q z
    obtain ⟨m, -, ⟨-, -, g, e⟩ | ⟨cap, G, e, -⟩⟩ := p2 l q
    · rw [z] at e; cases e
    · rw [z] at e; cases e
  refine ⟨hc, fun l q => (hL l q).1, fun k i k' i' q q' e => ?_, fun l q => ⟨fun k i q' e => ?_, fun l' q' hn e => ?_⟩, ⟨g0, h0.trans p5⟩, fun k i q e => ?_, fun k i q => ?_⟩
  · rcases hl k i q with a | a
    · rcases hl k' i' q' with b | b
      · rw [hA k i a, hA k' i' b] at e
        exact p3 _ _ _ _ a b e
      · rw [hA k i a] at e
        exact absurd (e ▸ (hN k' i' b).1) (p7 k i a)
    · rcases hl k' i' q' with b | b
      · rw [hA k' i' b] at e
        exact absurd (e ▸ (hN k i a).1) (p7 k' i' b)
      · exact hi _ _ _ _ a b e
  · rcases hl k i q' with a | a
    · rw [hA k i a] at e
      rcases (hL l q).2 with ⟨b, c⟩ | c | ⟨-, c, -⟩
      · exact (p4 l b).1 k i a (e.trans c)
      · exact p6 k i a (e.trans c)
      · exact p7 k i a (e ▸ c)
    · have n1 := (hN k i a).1
      rcases (hL l q).2 with ⟨b, c⟩ | c | ⟨-, -, c⟩
      · exact hDn l b (by rw [← c, ← e]; exact n1)
      · rw [e, c, p5] at n1; cases n1
      · exact c k i a e
  · rcases (hL l q).2 with ⟨b, c⟩ | c | ⟨d, c, -⟩
    · rcases (hL l' q').2 with ⟨b', c'⟩ | c' | ⟨d', c', -⟩
      · rw [c]
        exact (p4 l b).2 l' b' hn (by rw [← c, ← c']; exact e)
      · exact e ▸ c'
      · exact absurd (by rw [← c, ← e]; exact c') (hDn l b)
    · exact c
    · rcases (hL l' q').2 with ⟨b', c'⟩ | c' | ⟨d', c', -⟩
      · exact absurd (by rw [← c', e]; exact c) (hDn l' b')
      · exact e ▸ c'
      · exact absurd (d'.trans d.symm) hn
  · rcases hl k i q with a | a
    · rw [hA k i a] at e
      exact p6 k i a e
    · have n1 := (hN k i a).1
      rw [e, p5] at n1; cases n1
  · rcases hl k i q with a | a
    · rw [hA k i a]
      exact hf _ (p7 k i a)
    · exact (hN k i a).2
theorem qt_k {A A' : Nat → Nat → Nat} {n : Nat} (hA : ∀ i, i ≠ n → A' 5 i = A 5 i) {z : Int} (hz : z ≠ n) : q_t A' z = q_t A z := by
  unfold q_t
  by_cases q : z < 0
  · rw [if_pos q, if_pos q]
  · rw [if_neg q, if_neg q, hA _ (by omega)]
theorem cc_keep {A A' : Nat → Nat → Nat} {v v' : SV} {L L' : SL} {n : Nat} (hA : ∀ k i, (k < 5 ∨ 10 < k ∨ i ≠ n) → A' k i = A k i) (hv : ∀ c i, c ≠ 1 → (c < 20 ∨ 43 < c ∨ (c ≠ 26 ∧ i ≠ n) ∨ (c = 26 ∧ i % 32 ≠ n)) → v' c i = v c i) (h1 : L' 1 = L 1) (q11 : ∀ i, i < 8 → v 11 i ≠ n) (q16 : ∀ i j, i < 8 → v 16 (i + 8 * j) ≠ n) (q50 : ∀ k, k < (L 1).length → (v 50 k).toNat ≠ n) (q34 : ∀ p, v 20 p = 3 → (v 34 p).toNat ≠ n) {k i : Nat} (hk : ¬ (k = 0 ∧ (i = 0 ∨ i = 7 ∨ i = 8))) (hi : ¬ (i = n ∧ 5 ≤ k ∧ k ≤ 10)) : cc_cell A' v' L' k i = cc_cell A v L k i := by
  have e : ∀ c, c ≠ 1 → (c < 20 ∨ 43 < c) → v' c = v c := fun c a b => funext fun j => hv c j a (by omega)
  have aa : ∀ k, (k < 5 ∨ 10 < k) → A' k = A k := fun k a => funext fun j => hA k j (by omega)
  have a5 : ∀ i, i ≠ n → A' 5 i = A 5 i := fun i h => hA 5 i (by omega)
  have nn : 5 ≤ k → k ≤ 10 → i ≠ n := fun a b c => hi ⟨c, a, b⟩
  unfold cc_cell
  split
  · unfold cc_one
    rw [aa 0 (by omega), aa 1 (by omega), e 4 (by omega) (by omega), e 5 (by omega) (by omega), e 6 (by omega) (by omega), e 2 (by omega) (by omega), e 3 (by omega) (by omega), e 7 (by omega) (by omega)]
    split <;> first | rfl | (exfalso; omega)
  · rw [aa 2 (by omega), aa 3 (by omega), aa 4 (by omega), e 10 (by omega) (by omega), e 11 (by omega) (by omega), e 12 (by omega) (by omega), e 13 (by omega) (by omega), e 14 (by omega) (by omega), e 15 (by omega) (by omega)]
    split
    · rename_i h8
      rw [qt_k a5 (q11 i h8)]
      unfold q_k
      rw [aa 11 (by omega)]
    · rfl
  · rw [e 16 (by omega) (by omega)]
    split
    · rename_i h8
      congr 4
      funext j
      exact qt_k a5 (q16 i j h8)
    · rfl
  · rw [e 17 (by omega) (by omega)]
  · rw [e 18 (by omega) (by omega)]
  · have z := nn (by omega) (by omega)
    have w := fun c (a : c ≠ 1) (b : c ≠ 26) => hv c i a (Or.inr (Or.inr (Or.inl ⟨b, z⟩)))
    unfold cc_tgt
    rw [w 20 (by omega) (by omega), w 21 (by omega) (by omega), w 22 (by omega) (by omega), w 23 (by omega) (by omega), w 24 (by omega) (by omega), w 25 (by omega) (by omega), w 27 (by omega) (by omega), w 28 (by omega) (by omega), w 29 (by omega) (by omega), w 30 (by omega) (by omega), w 31 (by omega) (by omega), w 32 (by omega) (by omega), w 33 (by omega) (by omega), w 34 (by omega) (by omega), w 35 (by omega) (by omega), w 36 (by omega) (by omega), w 37 (by omega) (by omega), w 38 (by omega) (by omega), w 39 (by omega) (by omega), aa 0 (by omega), hA 6 i (by omega), hA 7 i (by omega), hA 8 i (by omega)]
    by_cases t3 : v 20 i = 3
    · rw [hA 9 (v 34 i).toNat (Or.inr (Or.inr (q34 i t3)))]
    · rw [if_neg t3, if_neg t3]
  · have z := nn (by omega) (by omega)
    rw [hv 20 i (by omega) (by omega)]
    split
    · rename_i h8
      congr 4
      funext j
      rw [hv 26 (i + 32 * j) (by omega) (by omega)]
    · rfl
  · have z := nn (by omega) (by omega)
    rw [hv 40 i (by omega) (by omega), hv 41 i (by omega) (by omega), hv 42 i (by omega) (by omega), hv 43 i (by omega) (by omega), hA 10 i (by omega)]
  · rw [h1]
    split
    · rename_i h8
      rw [e 50 (by omega) (by omega), e 51 (by omega) (by omega), e 52 (by omega) (by omega), e 53 (by omega) (by omega), e 54 (by omega) (by omega), e 55 (by omega) (by omega), a5 _ (q50 i h8)]
    · rfl
  · rw [e 60 (by omega) (by omega)]
    unfold r_fs
    rw [aa 21 (by omega), e 100 (by omega) (by omega), e 101 (by omega) (by omega), e 102 (by omega) (by omega), e 112 (by omega) (by omega), e 118 (by omega) (by omega), e 124 (by omega) (by omega), e 133 (by omega) (by omega), e 135 (by omega) (by omega), e 143 (by omega) (by omega), e 144 (by omega) (by omega)]
  · rw [e 60 (by omega) (by omega), e (100 + i) (by omega) (by omega)]
  · rfl
