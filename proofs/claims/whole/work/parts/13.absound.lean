/-! What 'a_run' asks for is enough for 'x_run'. -/
theorem x_som_i {α : Type} {o : Option α} {k : α → Prop} {a : α} (e : o = some a) (h : k a) : x_som o k := by
  subst e
  exact h
theorem a_kd_e {al : List (Nat × Nat)} {ci kd : Nat} {P : Prop} (hk : kd ≠ 9) (h : a_kd al ci kd P) : al.lookup ci = some kd ∧ P := by
  obtain ⟨h1, h2⟩ := x_tru_e h
  have h3 := Nat.eq_of_beq_eq_true h1
  cases e : al.lookup ci with
  | none => rw [e] at h3; exact absurd h3.symm hk
  | some d => rw [e] at h3; exact ⟨congrArg some h3, h2⟩
theorem q_t_n {A : Nat → Nat → Nat} {z : Int} (h : z < 0) : q_t A z = cv A aN := if_pos h
theorem q_t_p {A : Nat → Nat → Nat} {z : Int} (h : 0 ≤ z) : q_t A z = cv A (aR 5 z.toNat) := if_neg (by omega)
theorem q_k_n {A : Nat → Nat → Nat} {z : Int} (h : z < 0) : q_k A z = cv A aN := if_pos h
theorem q_k_p {A : Nat → Nat → Nat} {z : Int} (h : 0 ≤ z) : q_k A z = cv A (aR 11 z.toNat) := if_neg (by omega)
theorem a_gf_ok {X : XC} {f : XH} {A : Nat → Nat → Nat} {DA : Nat → Nat} {v : Nat → Nat → Int} {L : Nat → List Nat} (hP : PC X f A DA v L) {k i n : Nat} {al : List (Nat × Nat)} {K : AV → Prop} (h : a_gf v L k i n al (fun x => a_lks k i n al (K x))) :
    ∃ (ci : Nat) (fs : List Value) (kd : Nat) (x : AV), f (A k i) = some (.inl (ci, fs)) ∧ al.lookup ci = some kd ∧ fs[n]? = some (cv A x) ∧ K x := by
  unfold a_gf at h
  split at h
  · split at h <;> first | exact False.elim h | (obtain ⟨kd, e, h⟩ := x_som_e h; exact ⟨_, _, kd, _, hP.c 0 _ rfl, e, rfl, h⟩)
  · obtain ⟨hi, h⟩ := h
    have hc := hP.c 1 i (if_pos hi)
    split at h <;> first | exact False.elim h | (obtain ⟨kd, e, h⟩ := x_som_e h; exact ⟨_, _, kd, _, hc, e, rfl, h⟩) | skip
    · rcases Int.lt_or_le (v 11 i) 0 with hz | hz
      · obtain ⟨kd, e, h⟩ := x_som_e (h.1 hz)
        exact ⟨_, _, kd, _, hc, e, congrArg some (q_t_n hz), h⟩
      · obtain ⟨kd, e, h⟩ := x_som_e (h.2 hz)
        exact ⟨_, _, kd, _, hc, e, congrArg some (q_t_p hz), h⟩
    · rcases Int.lt_or_le (v 15 i) 0 with hz | hz
      · obtain ⟨kd, e, h⟩ := x_som_e (h.1 hz)
        exact ⟨_, _, kd, _, hc, e, congrArg some (q_k_n hz), h⟩
      · obtain ⟨kd, e, h⟩ := x_som_e (h.2 hz)
        exact ⟨_, _, kd, _, hc, e, congrArg some (q_k_p hz), h⟩
  · have t1 : v 20 i = 1 → cc_cell A v L 5 i = some (.inl (6, [.ref (A 6 i), .ref (A 0 1), .int (iI (v 21 i)), .int (iI (v 22 i)), .int (iI (v 23 i)), .ref (A 7 i), .int (iI (v 24 i)), .int (iI (v 25 i))])) := fun h => if_pos h
    have t2 : v 20 i = 2 → cc_cell A v L 5 i = some (.inl (7, [.ref (A 6 i), .ref (A 0 1), .int (iI (v 21 i)), .int (iI (v 22 i)), .ref (A 8 i), .int (iI (v 27 i)), .int (iI (v 28 i)), .int (iI (v 29 i)), .int (iI (v 30 i)), .int (iI (v 31 i)), .int (iI (v 32 i)), .int (iI (v 33 i))])) := fun h => (if_neg (by omega)).trans (if_pos h)
    have t3 : v 20 i = 3 → cc_cell A v L 5 i = some (.inl (8, [.ref (A 6 i), .ref (A 0 1), .int (iI (v 21 i)), .int (iI (v 22 i)), .ref (A 9 (v 34 i).toNat), .ref (A 0 3), .int (iI (v 35 i)), .int (iI (v 36 i)), .int (iI (v 37 i)), .int (iI (v 38 i)), .int (iI (v 39 i))])) := fun h => (if_neg (by omega)).trans ((if_neg (by omega)).trans (if_pos h))
    split at h <;> first
      | exact False.elim h
      | (split at h <;> first
          | exact False.elim h
          | (obtain ⟨hl, h⟩ := h; exact ⟨_, _, _, _, hP.c 5 i (t1 hl), rfl, rfl, h⟩)
          | (obtain ⟨hl, h⟩ := h; exact ⟨_, _, _, _, hP.c 5 i (t2 hl), rfl, rfl, h⟩)
          | (obtain ⟨hl, h⟩ := h; exact ⟨_, _, _, _, hP.c 5 i (t3 hl), rfl, rfl, h⟩)
          | (obtain ⟨hl, h⟩ := h
             unfold a_lks at h
             simp only at h
             obtain ⟨d6, e6, h⟩ := x_som_e h
             obtain ⟨d7, e7, h⟩ := x_som_e h
             obtain ⟨d8, e8, h⟩ := x_som_e h
             rcases hl with hl | hl | hl
             · exact ⟨_, _, d6, _, hP.c 5 i (t1 hl), e6, rfl, h⟩
             · exact ⟨_, _, d7, _, hP.c 5 i (t2 hl), e7, rfl, h⟩
             · exact ⟨_, _, d8, _, hP.c 5 i (t3 hl), e8, rfl, h⟩))
  · obtain ⟨hi, h⟩ := h
    have hc := hP.c 9 i (if_pos hi)
    split at h <;> first | exact False.elim h | (obtain ⟨kd, e, h⟩ := x_som_e h; exact ⟨_, _, kd, _, hc, e, rfl, h⟩)
  · obtain ⟨hi, h⟩ := h
    have hc := hP.c 11 i (if_pos hi)
    split at h <;> first | exact False.elim h | (obtain ⟨kd, e, h⟩ := x_som_e h; exact ⟨_, _, kd, _, hc, e, rfl, h⟩)
  · obtain ⟨hi, h⟩ := h
    have hc := hP.c 20 i (if_pos hi)
    split at h <;> first | exact False.elim h | (obtain ⟨kd, e, h⟩ := x_som_e h; exact ⟨_, _, kd, _, hc, e, rfl, h⟩)
  · exact False.elim h
theorem iS_up {v : Nat → Nat → Int} (h : ∀ c i, iS (v c i)) {c i : Nat} {z : Int} (hz : iS z) : ∀ c' i', iS (up2 v c i z c' i') := by
  intro c' i'
  unfold up2
  split
  · exact hz
  · exact h c' i'
theorem PS.up {X : XC} {f : XH} {A : Nat → Nat → Nat} {DA : Nat → Nat} {v : SV} {L : SL} (h : PS X f A DA v L) (c i : Nat) (z : Int) (hc : c ≠ 20 ∧ c ≠ 40 ∧ c ≠ 60) (hz : iS z) {k j : Nat} (ho : cc_own c i = (k, j)) {e : XE} (he : cc_cell A (up2 v c i z) L k j = some e) : PS X (va_up f (A k j) (some e)) A DA (up2 v c i z) L := by
  refine ⟨?_, iS_up h.2 hz⟩
  have h1 := h.1.up c i z hc (e := e) (by rw [ho]; exact he)
  rw [ho] at h1
  exact h1
def a_pfq (X : XC) (f : XH) (A : Nat → Nat → Nat) (DA : Nat → Nat) (v : SV) (L : SL) (k i n : Nat) (al : List (Nat × Nat)) (x : AV) (K : (Nat → Nat → Int) → Prop) : Prop :=
  ∃ (ci : Nat) (fs : List Value) (kd : Nat) (v' : Nat → Nat → Int), f (A k i) = some (.inl (ci, fs)) ∧ al.lookup ci = some kd ∧ (∃ w, fs[n]? = some w) ∧ (∀ P : Prop, P → x_okv kd (cv A x) P) ∧ PS X (va_up f (A k i) (some (.inl (ci, fs.set n (cv A x))))) A DA v' L ∧ K v'
theorem a_wi_ok {X : XC} {f : XH} {A : Nat → Nat → Nat} {DA : Nat → Nat} {v : SV} {L : SL} (hP : PS X f A DA v L) {k i n c j ci : Nat} {al : List (Nat × Nat)} {x : AV} {K : (Nat → Nat → Int) → Prop} {fs : List Value} (hc : f (A k i) = some (.inl (ci, fs))) (hn : ∃ w, fs[n]? = some w) (ho : cc_own c j = (k, i)) (h3 : c ≠ 20 ∧ c ≠ 40 ∧ c ≠ 60) (he : ∀ z, cc_cell A (up2 v c j z) L k i = some (.inl (ci, fs.set n (.int (iI z))))) (h : a_kd al ci 0 (a_wi v c j x K)) : a_pfq X f A DA v L k i n al x K := by
  obtain ⟨hl, h⟩ := a_kd_e (by decide) h
  match x, h with
  | .inl z, h =>
    obtain ⟨z', ⟨e1, e2⟩, h⟩ := h
    refine ⟨ci, fs, 0, _, hc, hl, hn, fun P p => p, ?_, h⟩
    have h4 := hP.up c j z' h3 e2 ho (he z')
    rw [e1] at h4
    exact h4
theorem a_wb_ok {X : XC} {f : XH} {A : Nat → Nat → Nat} {DA : Nat → Nat} {v : SV} {L : SL} (hP : PS X f A DA v L) {k i n c j ci : Nat} {al : List (Nat × Nat)} {x : AV} {K : (Nat → Nat → Int) → Prop} {fs : List Value} (hc : f (A k i) = some (.inl (ci, fs))) (hn : ∃ w, fs[n]? = some w) (ho : cc_own c j = (k, i)) (h3 : c ≠ 20 ∧ c ≠ 40 ∧ c ≠ 60) (he : ∀ z, cc_cell A (up2 v c j z) L k i = some (.inl (ci, fs.set n (.int (iI z))))) (h : a_kd al ci 1 (a_wb v c j x K)) : a_pfq X f A DA v L k i n al x K := by
  obtain ⟨hl, h⟩ := a_kd_e (by decide) h
  match x, h with
  | .inl z, h =>
    obtain ⟨e1, h⟩ := h
    refine ⟨ci, fs, 1, _, hc, hl, hn, fun P p => ⟨?_, p⟩, hP.up c j z h3 ?_ ho (he z), h⟩
    · rcases e1 with rfl | rfl
      · exact Or.inl rfl
      · exact Or.inr rfl
    · rcases e1 with rfl | rfl <;> (constructor <;> omega)
theorem a_wn_ok {X : XC} {f : XH} {A : Nat → Nat → Nat} {DA : Nat → Nat} {v : SV} {L : SL} (hP : PS X f A DA v L) {k i n c j ci kk : Nat} {al : List (Nat × Nat)} {x : AV} {K : (Nat → Nat → Int) → Prop} {fs : List Value} (hc : f (A k i) = some (.inl (ci, fs))) (hn : ∃ w, fs[n]? = some w) (ho : cc_own c j = (k, i)) (h3 : c ≠ 20 ∧ c ≠ 40 ∧ c ≠ 60) (he1 : cc_cell A (up2 v c j (-1)) L k i = some (.inl (ci, fs.set n .null))) (he2 : ∀ t : Nat, cc_cell A (up2 v c j (t : Nat)) L k i = some (.inl (ci, fs.set n (.ref (A kk t))))) (h : a_kd al ci 2 (a_wn v c j kk x K)) : a_pfq X f A DA v L k i n al x K := by
  obtain ⟨hl, h⟩ := a_kd_e (by decide) h
  match x, h with
  | .inr none, h =>
    exact ⟨ci, fs, 2, _, hc, hl, hn, fun P p => p, hP.up c j (-1) h3 (by constructor <;> omega) ho he1, h⟩
  | .inr (some (k1, t)), h =>
    obtain ⟨⟨e1, e2⟩, h'⟩ := h
    have e1 : k1 = kk := e1
    have e2 : t < 100 := e2
    refine ⟨ci, fs, 2, _, hc, hl, hn, fun P p => p, ?_, h'⟩
    show PS X (va_up f (A k i) (some (.inl (ci, fs.set n (.ref (A k1 t)))))) A DA (up2 v c j (t : Nat)) L
    rw [e1]
    exact hP.up c j (t : Nat) h3 (by constructor <;> omega) ho (he2 t)
theorem a_pf_ok {X : XC} {f : XH} {A : Nat → Nat → Nat} {DA : Nat → Nat} {v : SV} {L : SL} (hP : PS X f A DA v L) {k i n : Nat} {al : List (Nat × Nat)} {x : AV} {K : (Nat → Nat → Int) → Prop} (h : a_pf v L k i n al x K) : a_pfq X f A DA v L k i n al x K := by
  unfold a_pf at h
  split at h
  · split at h <;> first | exact False.elim h | exact a_wi_ok hP (hP.1.c 0 _ rfl) ⟨_, rfl⟩ rfl (by decide) (fun z => rfl) h
  · obtain ⟨hi, h⟩ := h
    have hc := hP.1.c 1 i (if_pos hi)
    split at h <;> first | exact False.elim h | exact a_wi_ok hP hc ⟨_, rfl⟩ rfl (by decide) (fun z => by simp [cc_cell, up2, hi]) h | skip
    · exact a_wn_ok hP hc ⟨_, rfl⟩ rfl (by decide) (by simp [cc_cell, up2, hi, q_t]) (fun t => by simp [cc_cell, up2, hi, q_t]) h
    · exact a_wn_ok hP hc ⟨_, rfl⟩ rfl (by decide) (by simp [cc_cell, up2, hi, q_k]) (fun t => by simp [cc_cell, up2, hi, q_k]) h
  · have t1 : v 20 i = 1 → cc_cell A v L 5 i = some (.inl (6, [.ref (A 6 i), .ref (A 0 1), .int (iI (v 21 i)), .int (iI (v 22 i)), .int (iI (v 23 i)), .ref (A 7 i), .int (iI (v 24 i)), .int (iI (v 25 i))])) := fun h => if_pos h
    have t2 : v 20 i = 2 → cc_cell A v L 5 i = some (.inl (7, [.ref (A 6 i), .ref (A 0 1), .int (iI (v 21 i)), .int (iI (v 22 i)), .ref (A 8 i), .int (iI (v 27 i)), .int (iI (v 28 i)), .int (iI (v 29 i)), .int (iI (v 30 i)), .int (iI (v 31 i)), .int (iI (v 32 i)), .int (iI (v 33 i))])) := fun h => (if_neg (by omega)).trans (if_pos h)
    have t3 : v 20 i = 3 → cc_cell A v L 5 i = some (.inl (8, [.ref (A 6 i), .ref (A 0 1), .int (iI (v 21 i)), .int (iI (v 22 i)), .ref (A 9 (v 34 i).toNat), .ref (A 0 3), .int (iI (v 35 i)), .int (iI (v 36 i)), .int (iI (v 37 i)), .int (iI (v 38 i)), .int (iI (v 39 i))])) := fun h => (if_neg (by omega)).trans ((if_neg (by omega)).trans (if_pos h))
    split at h <;> first | exact False.elim h | (split at h <;> first
      | exact False.elim h
      | (obtain ⟨hl, h⟩ := h; first
        | exact a_wi_ok hP (hP.1.c 5 i (t1 hl)) ⟨_, rfl⟩ rfl (by decide) (fun z => by simp [cc_cell, cc_tgt, up2, hl]) h
        | exact a_wi_ok hP (hP.1.c 5 i (t2 hl)) ⟨_, rfl⟩ rfl (by decide) (fun z => by simp [cc_cell, cc_tgt, up2, hl]) h
        | exact a_wi_ok hP (hP.1.c 5 i (t3 hl)) ⟨_, rfl⟩ rfl (by decide) (fun z => by simp [cc_cell, cc_tgt, up2, hl]) h
        | exact a_wb_ok hP (hP.1.c 5 i (t2 hl)) ⟨_, rfl⟩ rfl (by decide) (fun z => by simp [cc_cell, cc_tgt, up2, hl]) h
        | exact a_wb_ok hP (hP.1.c 5 i (t3 hl)) ⟨_, rfl⟩ rfl (by decide) (fun z => by simp [cc_cell, cc_tgt, up2, hl]) h))
  · obtain ⟨hi, h⟩ := h
    have hc := hP.1.c 11 i (if_pos hi)
    split at h <;> first | exact False.elim h | exact a_wi_ok hP hc ⟨_, rfl⟩ rfl (by decide) (fun z => by simp [cc_cell, up2, hi]) h | exact a_wb_ok hP hc ⟨_, rfl⟩ rfl (by decide) (fun z => by simp [cc_cell, up2, hi]) h
  · obtain ⟨⟨h6, rfl⟩, h⟩ := h
    have hc := hP.1.c 20 0 (if_pos ⟨h6, rfl⟩)
    split at h <;> first | exact False.elim h | exact a_wi_ok hP hc ⟨_, rfl⟩ rfl (by decide) (fun z => by simp [cc_cell, r_fs, up2, h6]) h
  · exact False.elim h
theorem ar_up' {v : Nat → Nat → Int} {c o t i : Nat} {x : Int} (ht : 0 < t) : va_up (fun j => Value.int (iI (v c (o + t * j)))) i (.int (iI x)) = fun j => .int (iI (up2 v c (o + t * i) x c (o + t * j))) := by
  funext j
  by_cases h : j = i
  · subst h
    rw [va_up_self, up2_s]
  · rw [va_up_ne _ _ h, up2_i (fun z => h (Nat.eq_of_mul_eq_mul_left ht (Nat.add_left_cancel z)))]
def a_iaq (X : XC) (f : XH) (A : Nat → Nat → Nat) (DA : Nat → Nat) (v : SV) (L : SL) (ty k i : Nat) (j : Int) (K : Nat → Nat → Prop) : Prop :=
  ∃ (c m n : Nat) (g : Nat → Value), f (A k i) = some (.inr (ty, n, g)) ∧ (0 ≤ j ∧ j < n ∧ n < 2 ^ 31) ∧ g j.toNat = .int (iI (v c m)) ∧ (∀ z, iS z → PS X (va_up f (A k i) (some (.inr (ty, n, va_up g j.toNat (.int (iI z)))))) A DA (up2 v c m z) L) ∧ K c m
theorem r_ia_ok {X : XC} {f : XH} {A : Nat → Nat → Nat} {DA : Nat → Nat} {v : SV} {L : SL} (hP : PS X f A DA v L) {i c n ty : Nat} (h6 : v 60 0 = 1) (h1 : r_len i = n) (h2 : 100 + i = c) (h3 : 0 < n) (h4 : r_at i = ty) (h5 : n < 2 ^ 31) {j : Int} {K : Nat → Nat → Prop} (hj : 0 ≤ j ∧ j < n) (h : K c j.toNat) : a_iaq X f A DA v L ty 21 i j K := by
  subst h1 h2 h4
  have ec : ∀ v : Nat → Nat → Int, v 60 0 = 1 → cc_cell A v L 21 i = some (.inr (r_at i, r_len i, fun j => .int (iI (v (100 + i) j)))) := fun v hv => if_pos ⟨hv, h3⟩
  refine ⟨100 + i, j.toNat, r_len i, _, hP.1.c 21 i (ec v h6), ⟨hj.1, hj.2, h5⟩, rfl, fun z hz => ?_, h⟩
  refine hP.up (100 + i) j.toNat z ⟨by omega, by omega, by omega⟩ hz (k := 21) (j := i) ?_ ?_
  · have h2 : ¬ r_len i = 0 := by omega
    have h3 : 100 + i - 100 = i := by omega
    unfold cc_own
    split <;> first | omega | skip
    rw [if_pos (by omega), h3, if_neg h2]
  · rw [ec _ (by rw [up2_c (by omega)]; exact h6), ar_up]
theorem a_ia_ok {X : XC} {f : XH} {A : Nat → Nat → Nat} {DA : Nat → Nat} {v : SV} {L : SL} (hP : PS X f A DA v L) {k i : Nat} {j : Int} {K : Nat → Nat → Prop} (h : a_ia v k i j K) : a_iaq X f A DA v L 0 k i j K := by
  unfold a_ia at h
  split at h
  · split at h
    · obtain ⟨hj, h⟩ := h
      refine ⟨6, j.toNat, 64, _, hP.1.c 0 2 rfl, ⟨hj.1, hj.2, by decide⟩, rfl, fun z hz => hP.up 6 j.toNat z (by decide) hz rfl ?_, h⟩
      rw [ar_up]; rfl
    · obtain ⟨hj, h⟩ := h
      refine ⟨7, j.toNat, 8, _, hP.1.c 0 5 rfl, ⟨hj.1, hj.2, by decide⟩, rfl, fun z hz => hP.up 7 j.toNat z (by decide) hz rfl ?_, h⟩
      rw [ar_up]; rfl
    · exact False.elim h
  · obtain ⟨⟨hi, hj⟩, h⟩ := h
    refine ⟨17, i + 8 * j.toNat, 4, _, hP.1.c 3 i (if_pos hi), ⟨hj.1, hj.2, by decide⟩, rfl, fun z hz => hP.up 17 (i + 8 * j.toNat) z (by decide) hz ?_ ?_, h⟩
    · show (3, (i + 8 * j.toNat) % 8) = (3, i)
      congr 1; omega
    · rw [ar_up' (by decide)]; exact if_pos hi
  · obtain ⟨⟨hi, hj⟩, h⟩ := h
    refine ⟨18, i + 8 * j.toNat, 4, _, hP.1.c 4 i (if_pos hi), ⟨hj.1, hj.2, by decide⟩, rfl, fun z hz => hP.up 18 (i + 8 * j.toNat) z (by decide) hz ?_ ?_, h⟩
    · show (4, (i + 8 * j.toNat) % 8) = (4, i)
      congr 1; omega
    · rw [ar_up' (by decide)]; exact if_pos hi
  · obtain ⟨⟨hi, hj⟩, h⟩ := h
    refine ⟨26, i + 32 * j.toNat, 4, _, hP.1.c 7 i (if_pos hi), ⟨hj.1, hj.2, by decide⟩, rfl, fun z hz => hP.up 26 (i + 32 * j.toNat) z (by decide) hz ?_ ?_, h⟩
    · show (7, (i + 32 * j.toNat) % 32) = (7, i)
      congr 1; omega
    · rw [ar_up' (by decide)]; exact if_pos (by rw [up2_c (by decide)]; exact hi)
  · split at h <;> first | exact False.elim h | (obtain ⟨⟨h6, hj⟩, h⟩ := h; exact r_ia_ok hP h6 rfl rfl (by decide) rfl (by decide) hj h)
  · exact False.elim h
theorem a_ba_ok {X : XC} {f : XH} {A : Nat → Nat → Nat} {DA : Nat → Nat} {v : SV} {L : SL} (hP : PS X f A DA v L) {k i : Nat} {j : Int} {K : Nat → Nat → Prop} (h : a_ba v k i j K) : a_iaq X f A DA v L 1 k i j K := by
  unfold a_ba at h
  split at h
  · split at h <;> first | exact False.elim h | (obtain ⟨⟨h6, hj⟩, h⟩ := h; exact r_ia_ok hP h6 rfl rfl (by decide) rfl (by decide) hj h)
  · exact False.elim h
theorem a_ra_ok {X : XC} {f : XH} {A : Nat → Nat → Nat} {DA : Nat → Nat} {v : SV} {L : SL} (hP : PS X f A DA v L) {k i : Nat} {j : Int} {K : AV → Prop} (h : a_ra v k i j K) : ∃ (ty n : Nat) (g : Nat → Value) (x : AV), f (A k i) = some (.inr (ty, n, g)) ∧ (ty = 2 ∨ ty = 3 ∨ ty = 4) ∧ (0 ≤ j ∧ j < n ∧ n < 2 ^ 31) ∧ g j.toNat = cv A x ∧ K x := by
  unfold a_ra at h
  split at h
  · split at h
    · obtain ⟨hj, h⟩ := h
      exact ⟨2, 8, _, _, hP.1.c 0 6 rfl, by decide, ⟨hj.1, hj.2, by decide⟩, rfl, h⟩
    · obtain ⟨hj, h⟩ := h
      by_cases hz : v 20 j.toNat = 0
      · exact ⟨3, 32, _, aN, hP.1.c 0 7 rfl, by decide, ⟨hj.1, hj.2, by decide⟩, if_pos hz, h.1 hz⟩
      · exact ⟨3, 32, _, aR 5 j.toNat, hP.1.c 0 7 rfl, by decide, ⟨hj.1, hj.2, by decide⟩, if_neg hz, h.2 hz⟩
    · obtain ⟨hj, h⟩ := h
      by_cases hz : v 40 j.toNat = 0
      · exact ⟨4, 8, _, aN, hP.1.c 0 8 rfl, by decide, ⟨hj.1, hj.2, by decide⟩, if_pos hz, h.1 hz⟩
      · exact ⟨4, 8, _, aR 9 j.toNat, hP.1.c 0 8 rfl, by decide, ⟨hj.1, hj.2, by decide⟩, if_neg hz, h.2 hz⟩
    · exact False.elim h
  · obtain ⟨⟨hi, hj⟩, h⟩ := h
    rcases Int.lt_or_le (v 16 (i + 8 * j.toNat)) 0 with hz | hz
    · exact ⟨3, 4, _, aN, hP.1.c 2 i (if_pos hi), by decide, ⟨hj.1, hj.2, by decide⟩, q_t_n hz, h.1 hz⟩
    · exact ⟨3, 4, _, _, hP.1.c 2 i (if_pos hi), by decide, ⟨hj.1, hj.2, by decide⟩, q_t_p hz, h.2 hz⟩
  · exact False.elim h
