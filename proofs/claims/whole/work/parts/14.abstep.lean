/-! One instruction over the picture is one over the heap. -/
theorem cvl_up {A : Nat → Nat → Nat} {ls : ALc} {n : Nat} {x : AV} : cvl A (va_up ls n (some x)) = va_up (cvl A ls) n (some (cv A x)) := by
  funext j
  unfold cvl
  by_cases h : j = n
  · subst h
    rw [va_up_self, va_up_self]; rfl
  · rw [va_up_ne _ _ h, va_up_ne _ _ h]
theorem cvl_at {A : Nat → Nat → Nat} {ls : ALc} {n : Nat} {x : AV} (h : ls n = some x) : cvl A ls n = some (cv A x) := by
  unfold cvl
  rw [h]; rfl
theorem cv_onv {A : Nat → Nat → Nat} (x : AV) {P : Prop} (p : P) : x_onv (cv A x) P := by
  match x with
  | .inl _ => exact p
  | .inr none => exact p
  | .inr (some _) => exact p
theorem a_ref_e {A : Nat → Nat → Nat} {x : AV} {P : Prop} (h : a_ref x P) : P ∧ ∀ P' : Prop, P' → x_rfv (cv A x) P' := by
  match x, h with
  | .inr none, h => exact ⟨h, fun _ p => p⟩
  | .inr (some _), h => exact ⟨h, fun _ p => p⟩
theorem a_br_ok {o : ClassFile.Cond} {x y : Int} {kt kf kt' kf' : Prop} (h1 : kt → kt') (h2 : kf → kf') (h : a_br o x y kt kf) : x_br o (iI x) (iI y) kt' kf' := by
  obtain ⟨⟨hx, hy⟩, h⟩ := h
  cases o with
  | eq => exact ⟨fun c => h1 (h.1 ((iI_eq hx hy).mp c)), fun c => h2 (h.2 (fun z => c ((iI_eq hx hy).mpr z)))⟩
  | ne => exact ⟨fun c => h1 (h.1 (fun z => c ((iI_eq hx hy).mpr z))), fun c => h2 (h.2 ((iI_eq hx hy).mp c))⟩
  | lt => exact ⟨fun c => h1 (h.1 ((iI_lt hx hy).mp c)), fun c => h2 (h.2 (fun z => c ((iI_lt hx hy).mpr z)))⟩
  | ge => exact ⟨fun c => h1 (h.1 ((iI_le hy hx).mp c)), fun c => h2 (h.2 (fun z => c ((iI_le hy hx).mpr z)))⟩
  | gt => exact ⟨fun c => h1 (h.1 ((iI_lt hy hx).mp c)), fun c => h2 (h.2 (fun z => c ((iI_lt hy hx).mpr z)))⟩
  | le => exact ⟨fun c => h1 (h.1 ((iI_le hx hy).mp c)), fun c => h2 (h.2 (fun z => c ((iI_le hx hy).mpr z)))⟩
theorem a_eqr_ok {X : XC} {f : XH} {A : Nat → Nat → Nat} {DA : Nat → Nat} {v : SV} {L : SL} (hP : PS X f A DA v L) {x y : AV} {kt kf kt' kf' : Prop} (h1 : kt → kt') (h2 : kf → kf') (h : a_eqr v L x y kt kf) : (cv A x = cv A y → kt') ∧ (¬ cv A x = cv A y → kf') ∧ (∀ P : Prop, P → x_rfv (cv A x) (x_rfv (cv A y) P)) := by
  match x, y, h with
  | .inr (some (k, i)), .inr (some (k', i')), h =>
    obtain ⟨⟨e, l1, l2⟩, h⟩ := h
    have e : k = k' := e
    subst e
    refine ⟨fun c => h1 (h.1 ?_), fun c => h2 (h.2 fun z => c ?_), fun P p => p⟩
    · have c : Value.ref (A k i) = Value.ref (A k i') := c
      exact (hP.1.2.2.1 _ _ _ _ l1 l2 (Value.ref.inj c)).2
    · have z : i = i' := z
      rw [z]
  | .inr none, .inr (some (k, i)), h =>
    exact ⟨fun c => absurd c (fun q => nomatch q), fun _ => h2 h, fun P p => p⟩
  | .inr (some (k, i)), .inr none, h =>
    exact ⟨fun c => absurd c (fun q => nomatch q), fun _ => h2 h, fun P p => p⟩
theorem a_ab_ok {X : XC} {f : XH} {A : Nat → Nat → Nat} {DA : Nat → Nat} {v : SV} {L : SL} (hP : PS X f A DA v L) {o : ClassFile.ACond} {x y : AV} {kt kf kt' kf' : Prop} (h1 : kt → kt') (h2 : kf → kf') (h : a_ab v L o x y kt kf) : x_rfv (cv A x) (x_rfv (cv A y) (x_ab o (cv A x) (cv A y) kt' kf')) := by
  cases o with
  | eq =>
    obtain ⟨h3, h4, h5⟩ := a_eqr_ok hP h1 h2 h
    exact h5 _ ⟨h3, h4⟩
  | ne =>
    obtain ⟨h3, h4, h5⟩ := a_eqr_ok hP h2 h1 h
    exact h5 _ ⟨h4, h3⟩
theorem a_pop_ok {A : Nat → Nat → Nat} : ∀ (n : Nat) (st acc : List AV) (k : List AV → List AV → Prop) (k' : List Value → List Value → Prop), (∀ a t, k a t → k' (a.map (cv A)) (t.map (cv A))) → a_pop n st acc k → x_pop n (st.map (cv A)) (acc.map (cv A)) k' := by
  intro n
  induction n with
  | zero => exact fun st acc k k' hk h => hk acc st h
  | succ n ih =>
    intro st acc k k' hk h
    match st, h with
    | v :: t, h => exact ih t (v :: acc) k k' hk h
theorem a_le4_ok {A : Nat → Nat → Nat} {t : List AV} {P P' : Prop} (h1 : P → P') (h : a_le4 t P) : x_le4 (t.map (cv A)) P' := by
  match t, h with
  | [], h => exact h1 h
  | [_], h => exact h1 h
  | [_, _], h => exact h1 h
  | [_, _, _], h => exact h1 h
  | [_, _, _, _], h => exact h1 h
theorem map_toList {A : Nat → Nat → Nat} (r : Option AV) (t : List AV) : (r.map (cv A)).toList ++ t.map (cv A) = (r.toList ++ t).map (cv A) := by
  cases r <;> simp
theorem a_call_ok {X : XC} {f : XH} {A : Nat → Nat → Nat} {DA : Nat → Nat} {v : SV} {L : SL} (hP : PS X f A DA v L) {fr lo mc ms y nc ns : Nat} {av : List AV} {k : Option AV → SV → SL → Nat → Nat → Prop} {k' : Option Value → XH → Nat → Nat → Prop} (hk : ∀ r v' L' f' DA' nc ns, PS X f' A DA' v' L' → k r v' L' nc ns → k' (r.map (cv A)) f' nc ns) (h : a_call X fr lo mc ms y av v L nc ns k) : x_call X fr lo mc ms y (av.map (cv A)) f nc ns k' := by
  obtain ⟨fr', lo', mc', ms', Q, h1, h2, h3⟩ := h
  refine ⟨fr', lo', mc', ms', _, h1 f A DA hP, h2, ?_⟩
  rintro r f' ⟨ra, v', L', DA', rfl, p, q⟩
  exact hk _ _ _ _ _ _ _ p (h3 _ _ _ q)
theorem a_ci5 {X : XC} {f : XH} {A : Nat → Nat → Nat} {DA : Nat → Nat} {v : SV} {L : SL} (hP : PS X f A DA v L) {t : Nat} (h : a_live5 v t) : ∃ fs, f (A 5 t) = some (.inl ((v 20 t).toNat + 5, fs)) := by
  rcases h with h | h | h
  · exact ⟨_, by rw [h]; exact hP.1.c 5 t (if_pos h)⟩
  · exact ⟨_, by rw [h]; exact hP.1.c 5 t ((if_neg (by omega)).trans (if_pos h))⟩
  · exact ⟨_, by rw [h]; exact hP.1.c 5 t ((if_neg (by omega)).trans ((if_neg (by omega)).trans (if_pos h)))⟩
theorem a_lst {X : XC} {f : XH} {A : Nat → Nat → Nat} {DA : Nat → Nat} {v : SV} {L : SL} (hP : PS X f A DA v L) {l : Nat} (h : cl_live v L l) : ∃ fs, f (A (cl_obj l).1 (cl_obj l).2) = some (.inl (3, fs)) := by
  obtain ⟨m, h1, -⟩ := hP.1.2.1 l h
  exact ⟨_, h1⟩
theorem a_vrt_ok {X : XC} {f : XH} {A : Nat → Nat → Nat} {DA : Nat → Nat} {v : SV} {L : SL} (hP : PS X f A DA v L) {fr lo mc ms nc ns : Nat} {al : List (Nat × Nat)} {k i : Nat} {av : List AV} {K : Option AV → SV → SL → Nat → Nat → Prop} {K' : Option Value → XH → Nat → Nat → Prop} (hk : ∀ r v' L' f' DA' nc ns, PS X f' A DA' v' L' → K r v' L' nc ns → K' (r.map (cv A)) f' nc ns) (h : a_vrt X fr lo mc ms al k i av v L nc ns K) : x_obj (f (A k i)) fun ci _ => x_som (al.lookup ci) fun y => x_call X fr lo mc ms y (av.map (cv A)) f nc ns K' := by
  have L : ∀ l, cl_live v L l → cl_obj l = (k, i) → ∃ fs, f (A k i) = some (.inl (3, fs)) := by
    intro l h1 h2
    have := a_lst hP h1
    rw [h2] at this
    exact this
  unfold a_vrt at h
  split at h
  · obtain ⟨c, h⟩ := h
    obtain ⟨fs, e⟩ := a_ci5 hP (Or.inl c)
    rw [c] at e
    exact ⟨_, _, e, x_som_i rfl (a_call_ok hP hk h)⟩
  · obtain ⟨c, h⟩ := h
    obtain ⟨fs, e⟩ := a_ci5 hP (Or.inr (Or.inl c))
    rw [c] at e
    exact ⟨_, _, e, x_som_i rfl (a_call_ok hP hk h)⟩
  · obtain ⟨c, h⟩ := h
    obtain ⟨fs, e⟩ := a_ci5 hP (Or.inr (Or.inr c))
    rw [c] at e
    exact ⟨_, _, e, x_som_i rfl (a_call_ok hP hk h)⟩
  · obtain ⟨_, fr', lo', mc', ms', Q, ⟨h0, h1⟩, ⟨s6, s7, s8, h2⟩, h3⟩ := h
    obtain ⟨fs, e⟩ := a_ci5 hP h0
    have hy : ∃ y, al.lookup ((v 20 i).toNat + 5) = some y := by
      rcases h0 with c | c | c <;> rw [c]
      · exact Option.isSome_iff_exists.mp s6
      · exact Option.isSome_iff_exists.mp s7
      · exact Option.isSome_iff_exists.mp s8
    obtain ⟨y, hy⟩ := hy
    refine ⟨_, _, e, x_som_i hy (a_call_ok hP hk ⟨fr', lo', mc', ms', Q, (h1 y hy).1, ⟨h2.1, (h1 y hy).2, h2.2⟩, h3⟩)⟩
  · obtain ⟨rfl, h⟩ := h
    exact ⟨_, _, hP.1.c 0 0 rfl, x_som_i rfl (a_call_ok hP hk h)⟩
  · obtain ⟨rfl, h⟩ := h
    exact ⟨_, _, hP.1.c 0 1 rfl, x_som_i rfl (a_call_ok hP hk h)⟩
  · obtain ⟨rfl, h⟩ := h
    exact ⟨_, _, hP.1.c 0 3 rfl, x_som_i rfl (a_call_ok hP hk h)⟩
  · obtain ⟨rfl, h⟩ := h
    exact ⟨_, _, hP.1.c 0 4 rfl, x_som_i rfl (a_call_ok hP hk h)⟩
  · obtain ⟨hi, h⟩ := h
    have : ∃ fs, f (A 0 i) = some (.inl (3, fs)) := by
      rcases hi with rfl | rfl
      · exact L 0 ⟨Or.inl rfl, (by decide : (9 : Nat) ≤ 10)⟩ rfl
      · exact L 1 ⟨Or.inr (Or.inl rfl), (by decide : (10 : Nat) ≤ 10)⟩ rfl
    obtain ⟨fs, e⟩ := this
    exact ⟨_, _, e, x_som_i rfl (a_call_ok hP hk h)⟩
  · obtain ⟨hi, h⟩ := h
    exact ⟨_, _, hP.1.c 1 i (if_pos hi), x_som_i rfl (a_call_ok hP hk h)⟩
  · obtain ⟨hi, h⟩ := h
    have eo : cl_obj (100 + i) = (6, i) := by
      unfold cl_obj
      rw [if_neg (by omega), if_neg (by omega), if_pos (by omega)]
      rw [Nat.add_sub_cancel_left]
    obtain ⟨fs, e⟩ := L (100 + i) ⟨Or.inr (Or.inr (Or.inl (by omega))), by rw [eo]; exact hi.1⟩ eo
    exact ⟨_, _, e, x_som_i rfl (a_call_ok hP hk h)⟩
  · obtain ⟨hi, h⟩ := h
    have eo : cl_obj (200 + i) = (8, i) := by
      unfold cl_obj
      rw [if_neg (by omega), if_neg (by omega), if_neg (by omega), if_pos (by omega)]
      rw [Nat.add_sub_cancel_left]
    obtain ⟨fs, e⟩ := L (200 + i) ⟨Or.inr (Or.inr (Or.inr (Or.inl (by omega)))), by rw [eo]; exact hi.1⟩ eo
    exact ⟨_, _, e, x_som_i rfl (a_call_ok hP hk h)⟩
  · obtain ⟨hi, h⟩ := h
    have eo : cl_obj (300 + i) = (10, i) := by
      unfold cl_obj
      rw [if_neg (by omega), if_neg (by omega), if_neg (by omega), if_neg (by omega)]
      rw [Nat.add_sub_cancel_left]
    obtain ⟨fs, e⟩ := L (300 + i) ⟨Or.inr (Or.inr (Or.inr (Or.inr (by omega)))), by rw [eo]; exact hi.1⟩ eo
    exact ⟨_, _, e, x_som_i rfl (a_call_ok hP hk h)⟩
  · obtain ⟨hi, h⟩ := h
    exact ⟨_, _, hP.1.c 9 i (if_pos hi), x_som_i rfl (a_call_ok hP hk h)⟩
  · obtain ⟨hi, h⟩ := h
    exact ⟨_, _, hP.1.c 11 i (if_pos hi), x_som_i rfl (a_call_ok hP hk h)⟩
  · obtain ⟨hi, h⟩ := h
    exact ⟨_, _, hP.1.c 20 i (if_pos hi), x_som_i rfl (a_call_ok hP hk h)⟩
  · exact False.elim h
theorem a_cst_ok {X : XC} {f : XH} {A : Nat → Nat → Nat} {DA : Nat → Nat} {v : SV} {L : SL} (hP : PS X f A DA v L) {al : List (Nat × Nat)} {x : AV} {P P' : Prop} (hk : P → P') (h : a_cst v L al x P) : x_cst al f (cv A x) P' := by
  unfold a_cst at h
  split at h
  · exact hk h
  · obtain ⟨hi, h⟩ := h
    exact ⟨_, _, hP.1.c 1 _ (if_pos hi), x_som_i rfl (hk h)⟩
  · obtain ⟨c, h⟩ := h
    obtain ⟨fs, e⟩ := a_ci5 hP (Or.inl c)
    rw [c] at e
    exact ⟨_, _, e, x_som_i rfl (hk h)⟩
  · obtain ⟨c, h⟩ := h
    obtain ⟨fs, e⟩ := a_ci5 hP (Or.inr (Or.inl c))
    rw [c] at e
    exact ⟨_, _, e, x_som_i rfl (hk h)⟩
  · obtain ⟨c, h⟩ := h
    obtain ⟨fs, e⟩ := a_ci5 hP (Or.inr (Or.inr c))
    rw [c] at e
    exact ⟨_, _, e, x_som_i rfl (hk h)⟩
  · obtain ⟨hi, h⟩ := h
    exact ⟨_, _, hP.1.c 11 _ (if_pos hi), x_som_i rfl (hk h)⟩
  · exact False.elim h
theorem a_ins_ok {X : XC} {f : XH} {A : Nat → Nat → Nat} {DA : Nat → Nat} {v : SV} {L : SL} (hP : PS X f A DA v L) {al : List (Nat × Nat)} {x : AV} {K : AV → Prop} {K' : Int32 → Prop} (hk : ∀ z, K (aI z) → K' (iI z)) (h : a_ins v L al x K) : x_ins al f (cv A x) K' := by
  unfold a_ins at h
  split at h
  · exact hk 0 h
  · obtain ⟨hl, h⟩ := h
    obtain ⟨fs, e⟩ := a_ci5 hP hl
    obtain ⟨b6, e6, h⟩ := x_som_e h
    obtain ⟨b7, e7, h⟩ := x_som_e h
    obtain ⟨b8, e8, h⟩ := x_som_e h
    refine ⟨_, _, e, ?_⟩
    split at h
    · rcases hl with c | c | c <;> rw [c]
      · exact x_som_i e6 (hk 1 (h.1 c))
      · exact x_som_i e7 (hk 0 (h.2 (by omega)))
      · exact x_som_i e8 (hk 0 (h.2 (by omega)))
    · rcases hl with c | c | c <;> rw [c]
      · exact x_som_i e6 (hk 0 (h.2 (by omega)))
      · exact x_som_i e7 (hk 1 (h.1 c))
      · exact x_som_i e8 (hk 0 (h.2 (by omega)))
    · exact False.elim h
  · exact False.elim h
theorem iI_div {x y : Int} (h0 : 0 ≤ x) (h1 : 0 < y) (hx : iS x) (hy : iS y) : ¬ iI y = 0 ∧ iI x / iI y = iI (x / y) := by
  have e0 : (0 : Int32) = iI 0 := rfl
  refine ⟨fun c => ?_, ?_⟩
  · rw [e0, iI_eq hy ⟨by omega, by omega⟩] at c
    omega
  · have hd : x / y ≤ x := Int.ediv_le_self y h0
    have hd0 : 0 ≤ x / y := Int.ediv_nonneg h0 (by omega)
    apply Int32.toInt_inj.mp
    rw [Int32.toInt_div_of_ne_left _ _ (by
      intro c
      have c2 := congrArg Int32.toInt c
      rw [iI_t hx.1 hx.2] at c2
      have : (Int32.minValue).toInt = -2147483648 := rfl
      omega), iI_t hx.1 hx.2, iI_t hy.1 hy.2, iI_t (by omega) (by have := hx.2; omega)]
    exact Int.tdiv_eq_ediv_of_nonneg h0
theorem x_leb_l {a b : Nat} {P : Prop} (h : a ≤ b) (k : P) : x_leb a b P := x_leb_i h k
theorem vp_in_i {j : Int} {n : Nat} (h : 0 ≤ j ∧ j < n ∧ n < 2 ^ 31) : vp_in (iI j) n ∧ (iI j).toNatClampNeg = j.toNat := ⟨iI_in h.1 h.2.1 h.2.2, iI_cl h.1 (by omega)⟩
theorem a_step_ok {X : XC} {fr lo mc ms : Nat} {J : AJ} {J' : XJ} {Q : AQ} {RQ : Option Value → XH → Prop} {A : Nat → Nat → Nat}
    (hJ : ∀ pc als ast v L f DA nc ns, PS X f A DA v L → J pc als ast v L nc ns → J' pc (cvl A als) (ast.map (cv A)) f nc ns)
    (hQ : ∀ ra v L f DA, PS X f A DA v L → Q ra v L → RQ (ra.map (cv A)) f)
    (o : XO) (hco : a_cok o = true) (pc : Nat) (als : ALc) (ast : List AV) (v : SV) (L : SL) (f : XH) (DA : Nat → Nat) (nc ns : Nat) (hP : PS X f A DA v L) (K : AK) (K' : XK)
    (hK : ∀ als ast v L f DA nc ns, PS X f A DA v L → K als ast v L nc ns → K' (cvl A als) (ast.map (cv A)) f nc ns)
    (h : a_step X fr lo mc ms J Q o.1 o.2.2.1 o.2.2.2.1 als ast v L nc ns K) : x_step X fr lo mc ms J' RQ o pc (cvl A als) (ast.map (cv A)) f nc ns K' := by
  obtain ⟨ins, len, ax, al, cw⟩ := o
  have ld : ∀ {k : Int → Prop} {k' : Int32 → Prop}, (∀ x, k x → k' (iI x)) → (x_som (als ax) fun v => a_int v k) → x_som (cvl A als ax) fun v => x_int v k' := by
    intro k k' hk h
    obtain ⟨v, e, h⟩ := x_som_e h
    match v, e, h with
    | .inl x, e, h => exact x_som_i (cvl_at e) (hk x h)
  have lr : ∀ {k : AV → Prop} {k' : Value → Prop}, (∀ x, k x → k' (cv A x)) → (x_som (als ax) fun v => a_ref v (k v)) → x_som (cvl A als ax) fun v => x_rfv v (k' v) := by
    intro k k' hk h
    obtain ⟨v, e, h⟩ := x_som_e h
    obtain ⟨h1, h2⟩ := a_ref_e (A := A) h
    exact x_som_i (cvl_at e) (h2 _ (hk v h1))
  have i1 : ∀ {k : Int → List AV → Prop} {k' : Int32 → List Value → Prop}, (∀ x t, k x t → k' (iI x) (t.map (cv A))) → a_i1 ast k → x_i1 (ast.map (cv A)) k' := by
    intro k k' hk h
    match ast, h with
    | .inl x :: t, h => exact hk x t h
  have i2 : ∀ {k : Int → Int → List AV → Prop} {k' : Int32 → Int32 → List Value → Prop}, (∀ x y t, k x y t → k' (iI x) (iI y) (t.map (cv A))) → a_i2 ast k → x_i2 (ast.map (cv A)) k' := by
    intro k k' hk h
    match ast, h with
    | .inl y :: .inl x :: t, h => exact hk x y t h
  have v1 : ∀ {k : AV → List AV → Prop} {k' : Value → List Value → Prop}, (∀ x t, k x t → k' (cv A x) (t.map (cv A))) → a_v1 ast k → x_v1 (ast.map (cv A)) k' := by
    intro k k' hk h
    match ast, h with
    | x :: t, h => exact hk x t h
  have v2 : ∀ {k : AV → AV → List AV → Prop} {k' : Value → Value → List Value → Prop}, (∀ x y t, k x y t → k' (cv A x) (cv A y) (t.map (cv A))) → a_v2 ast k → x_v2 (ast.map (cv A)) k' := by
    intro k k' hk h
    match ast, h with
    | x :: y :: t, h => exact hk x y t h
  have st1 : ∀ x t, K (va_up als ax (some x)) t v L nc ns → K' (va_up (cvl A als) ax (some (cv A x))) (t.map (cv A)) f nc ns := by
    intro x t h
    rw [← cvl_up]
    exact hK _ _ _ _ _ _ _ _ hP h
  have str : ∀ x t, a_ref x (K (va_up als ax (some x)) t v L nc ns) → x_rfv (cv A x) (K' (va_up (cvl A als) ax (some (cv A x))) (t.map (cv A)) f nc ns) := by
    intro x t h
    obtain ⟨h1, h2⟩ := a_ref_e (A := A) h
    exact h2 _ (st1 x t h1)
  cases ins <;> first | exact False.elim h | skip
  case iconst n =>
    have e : iI n = cw := of_decide_eq_true hco
    subst e
    exact hK _ (aI n :: ast) _ _ _ _ _ _ hP h
  case bipush n =>
    have e : iI n = cw := of_decide_eq_true hco
    subst e
    exact hK _ (aI n :: ast) _ _ _ _ _ _ hP h
  case sipush n =>
    have e : iI n = cw := of_decide_eq_true hco
    subst e
    exact hK _ (aI n :: ast) _ _ _ _ _ _ hP h
  case aconst_null => exact hK _ (aN :: ast) _ _ _ _ _ _ hP h
  case iload n => exact ld (fun x q => hK _ (aI x :: ast) _ _ _ _ _ _ hP q) h
  case iload_n n => exact ld (fun x q => hK _ (aI x :: ast) _ _ _ _ _ _ hP q) h
  case aload n => exact lr (fun x q => hK _ (x :: ast) _ _ _ _ _ _ hP q) h
  case aload_n n => exact lr (fun x q => hK _ (x :: ast) _ _ _ _ _ _ hP q) h
  case istore n => exact i1 (fun x t q => st1 (aI x) t q) h
  case istore_n n => exact i1 (fun x t q => st1 (aI x) t q) h
  case astore n => exact v1 (fun x t q => str x t q) h
  case astore_n n => exact v1 (fun x t q => str x t q) h
  case iinc m n =>
    have e : iI n = cw := of_decide_eq_true hco
    subst e
    exact ld (fun x q => by
      rw [iI_add]
      exact st1 (aI (x + n)) ast q) h
  case iadd => exact i2 (fun x y t q => by rw [iI_add]; exact hK _ (aI (x + y) :: t) _ _ _ _ _ _ hP q) h
  case isub => exact i2 (fun x y t q => by rw [iI_sub]; exact hK _ (aI (x - y) :: t) _ _ _ _ _ _ hP q) h
  case imul => exact i2 (fun x y t q => by rw [iI_mul]; exact hK _ (aI (x * y) :: t) _ _ _ _ _ _ hP q) h
  case iand => exact i2 (fun x y t q => by rw [iI_of (iI x &&& iI y)]; exact hK _ (aI (bAnd x y) :: t) _ _ _ _ _ _ hP q) h
  case ior => exact i2 (fun x y t q => by rw [iI_of (iI x ||| iI y)]; exact hK _ (aI (bOr x y) :: t) _ _ _ _ _ _ hP q) h
  case ishl => exact i2 (fun x y t q => by rw [iI_of (iI x <<< (iI y &&& 31))]; exact hK _ (aI (bShl x y) :: t) _ _ _ _ _ _ hP q) h
  case ishr => exact i2 (fun x y t q => by rw [iI_of (iI x >>> (iI y &&& 31))]; exact hK _ (aI (bShr x y) :: t) _ _ _ _ _ _ hP q) h
  case idiv =>
    refine i2 (fun x y t q => ?_) h
    obtain ⟨⟨q0, q1, q2, q3⟩, q⟩ := q
    obtain ⟨d1, d2⟩ := iI_div q0 q1 q2 q3
    refine ⟨d1, ?_⟩
    rw [d2]
    exact hK _ (aI (x / y) :: t) _ _ _ _ _ _ hP q
  case dup => exact v1 (fun x t q => cv_onv x (hK _ (x :: x :: t) _ _ _ _ _ _ hP q)) h
  case dup2 => exact v2 (fun x y t q => cv_onv x (cv_onv y (hK _ (x :: y :: x :: y :: t) _ _ _ _ _ _ hP q))) h
  case pop => exact v1 (fun x t q => cv_onv x (hK _ t _ _ _ _ _ _ hP q)) h
  case ifCond c n => exact i1 (fun x t q => a_br_ok (y := 0) (fun z => hJ _ _ _ _ _ _ _ _ _ hP z) (fun z => hK _ _ _ _ _ _ _ _ hP z) q) h
  case if_icmp c n => exact i2 (fun x y t q => a_br_ok (fun z => hJ _ _ _ _ _ _ _ _ _ hP z) (fun z => hK _ _ _ _ _ _ _ _ hP z) q) h
  case if_acmp c n => exact v2 (fun y x t q => a_ab_ok hP (fun z => hJ _ _ _ _ _ _ _ _ _ hP z) (fun z => hK _ _ _ _ _ _ _ _ hP z) q) h
  case ifnull n =>
    match ast, h with
    | .inr none :: t, h => exact hJ _ _ _ _ _ _ _ _ _ hP h
    | .inr (some p) :: t, h => exact hK _ _ _ _ _ _ _ _ hP h
  case ifnonnull n =>
    match ast, h with
    | .inr none :: t, h => exact hK _ _ _ _ _ _ _ _ hP h
    | .inr (some p) :: t, h => exact hJ _ _ _ _ _ _ _ _ _ hP h
  case goto n => exact hJ _ _ _ _ _ _ _ _ _ hP h
  case ireturn =>
    match ast, h with
    | [.inl x], h =>
      have h0 : a_okr ax x (∃ _ : nc ≤ mc ∧ ns ≤ ms, Q (some (aI x)) v L) := h
      match ax, h0 with
      | 0, h0 =>
        obtain ⟨⟨h2, h3⟩, h⟩ := h0
        exact x_leb_l h2 (x_leb_l h3 (hQ _ _ _ _ _ hP h))
      | 1, h0 =>
        obtain ⟨e2, ⟨h2, h3⟩, h⟩ := h0
        refine ⟨?_, x_leb_l h2 (x_leb_l h3 (hQ _ _ _ _ _ hP h))⟩
        rcases e2 with rfl | rfl
        · exact Or.inl rfl
        · exact Or.inr rfl
  case areturn =>
    match ast, h with
    | [x], h =>
      obtain ⟨⟨⟨h2, h3⟩, h⟩, h5⟩ := a_ref_e (A := A) h
      exact h5 _ (x_leb_l h2 (x_leb_l h3 (hQ _ _ _ _ _ hP h)))
  case return_ =>
    match ast, h with
    | [], h =>
      obtain ⟨⟨h2, h3⟩, h⟩ := h
      exact x_leb_l h2 (x_leb_l h3 (hQ _ _ _ _ _ hP h))
  case getfield n =>
    match ast, h with
    | .inr (some (k, i)) :: t, h =>
      have h : a_gf v L k i ax al (fun x => a_lks k i ax al (K als (x :: t) v L nc ns)) := h
      obtain ⟨ci, fs, kd, x, e1, e2, e3, h⟩ := a_gf_ok hP.1 h
      exact ⟨ci, fs, e1, x_som_i e2 (x_som_i e3 (hK _ (x :: t) _ _ _ _ _ _ hP h))⟩
  case putfield n =>
    match ast, h with
    | x :: .inr (some (k, i)) :: t, h =>
      obtain ⟨ci, fs, kd, v', e1, e2, ⟨w, e3⟩, e4, e5, h⟩ := a_pf_ok hP h
      exact ⟨ci, fs, e1, x_som_i e2 (x_som_i e3 (e4 _ (hK _ t _ _ _ _ _ _ e5 h)))⟩
  case iaload =>
    have e : ax = 0 := of_decide_eq_true hco
    subst e
    match ast, h with
    | .inl j :: .inr (some (k, i)) :: t, h =>
      have h : a_ia v k i j (fun c m => K als (aI (v c m) :: t) v L nc ns) := h
      obtain ⟨c, m, n, g, e1, e2, e3, -, h⟩ := a_ia_ok hP h
      obtain ⟨g1, g2⟩ := vp_in_i e2
      refine ⟨0, n, g, e1, g1, ?_⟩
      rw [g2, e3]
      exact hK _ (aI (v c m) :: t) _ _ _ _ _ _ hP h
  case baload =>
    have e : ax = 1 := of_decide_eq_true hco
    subst e
    match ast, h with
    | .inl j :: .inr (some (k, i)) :: t, h =>
      have h : a_ba v k i j (fun c m => K als (aI (v c m) :: t) v L nc ns) := h
      obtain ⟨c, m, n, g, e1, e2, e3, -, h⟩ := a_ba_ok hP h
      obtain ⟨g1, g2⟩ := vp_in_i e2
      refine ⟨1, n, g, e1, g1, ?_⟩
      rw [g2, e3]
      exact hK _ (aI (v c m) :: t) _ _ _ _ _ _ hP h
  case aaload =>
    have e : al = x_ald := of_decide_eq_true hco
    subst e
    match ast, h with
    | .inl j :: .inr (some (k, i)) :: t, h =>
      have h : a_ra v k i j (fun x => K als (x :: t) v L nc ns) := h
      obtain ⟨ty, n, g, x, e1, e0, e2, e3, h⟩ := a_ra_ok hP h
      obtain ⟨g1, g2⟩ := vp_in_i e2
      refine ⟨ty, n, g, e1, ?_⟩
      have h5 := hK _ (x :: t) _ _ _ _ _ _ hP h
      rw [List.map_cons, ← e3, ← g2] at h5
      rcases e0 with rfl | rfl | rfl <;> exact ⟨g1, h5⟩
  case iastore =>
    have e : ax = 0 := of_decide_eq_true hco
    subst e
    match ast, h with
    | w :: .inl j :: .inr (some (k, i)) :: t, h =>
      have h : a_ia v k i j (fun c m => a_wi v c m w fun v' => K als t v' L nc ns) := h
      obtain ⟨c, m, n, g, e1, e2, e3, e4, h⟩ := a_ia_ok hP h
      obtain ⟨g1, g2⟩ := vp_in_i e2
      refine ⟨0, n, g, e1, g1, ?_⟩
      match w, h with
      | .inl x, ⟨z', ⟨z1, z2⟩, h⟩ =>
        have h5 := hK _ t _ _ _ _ _ _ (e4 z' z2) h
        rw [z1, ← g2] at h5
        exact h5
  case bastore =>
    have e : ax = 1 := of_decide_eq_true hco
    subst e
    match ast, h with
    | w :: .inl j :: .inr (some (k, i)) :: t, h =>
      have h : a_ba v k i j (fun c m => a_wb v c m w fun v' => K als t v' L nc ns) := h
      obtain ⟨c, m, n, g, e1, e2, e3, e4, h⟩ := a_ba_ok hP h
      obtain ⟨g1, g2⟩ := vp_in_i e2
      refine ⟨1, n, g, e1, g1, ?_⟩
      match w, h with
      | .inl x, ⟨z1, h⟩ =>
        have h5 := hK _ t _ _ _ _ _ _ (e4 x (by rcases z1 with rfl | rfl <;> (constructor <;> omega))) h
        rw [← g2] at h5
        refine ⟨?_, h5⟩
        rcases z1 with rfl | rfl
        · exact Or.inl rfl
        · exact Or.inr rfl
  case aastore =>
    have e : al = x_ast := of_decide_eq_true hco
    subst e
    match ast, h with
    | x :: .inl j :: .inr (some (k, i)) :: t, h =>
      have h : a_rw v k i j x fun v' => K als t v' L nc ns := h
      match k, x, h with
      | 2, .inr (some (p1, p2)), h =>
        obtain ⟨⟨⟨hi, hj0, hj1⟩, q1, q2, q3⟩, h⟩ := h
        have q1 : p1 = 5 := q1
        subst q1
        obtain ⟨g1, g2⟩ := vp_in_i (n := 4) ⟨hj0, hj1, by decide⟩
        obtain ⟨fs, ef⟩ := a_ci5 hP q3
        refine ⟨3, 4, _, hP.1.c 2 i (if_pos hi), g1, _, fs, ef, ?_⟩
        have h5 : PS X (va_up f (A 2 i) (some (.inr (3, 4, va_up (fun j => q_t A (v 16 (i + 8 * j))) (iI j).toNatClampNeg (.ref (A 5 p2)))))) A DA (up2 v 16 (i + 8 * j.toNat) (p2 : Nat)) L := by
          have q2 : p2 < 100 := q2
          refine hP.up 16 (i + 8 * j.toNat) (p2 : Nat) (by decide) (by constructor <;> omega) ?_ ?_
          · show (2, (i + 8 * j.toNat) % 8) = (2, i)
            congr 1; omega
          · rw [g2]
            refine (if_pos hi).trans ?_
            congr
            funext q
            by_cases hq : q = j.toNat
            · subst hq
              rw [va_up_self, up2_s]
              exact q_t_p (by omega)
            · rw [va_up_ne _ _ hq, up2_i (by omega)]
        have h6 := hK _ t _ _ _ _ _ _ h5 h
        rcases q3 with c | c | c <;> (have c : v 20 p2 = _ := c; rw [c]; exact h6)
  case checkcast n => exact v1 (fun x t q => a_cst_ok hP (fun z => hK _ (x :: t) _ _ _ _ _ _ hP z) q) h
  case instanceof n => exact v1 (fun x t q => a_ins_ok hP (fun b z => hK _ (aI b :: t) _ _ _ _ _ _ hP z) q) h
  case invokestatic n =>
    obtain ⟨q, e, h⟩ := x_som_e h
    refine x_som_i e ?_
    obtain ⟨q1, q2⟩ := q
    match q2, h with
    | 0, h =>
      refine a_pop_ok q1 ast [] _ _ (fun av t z => a_le4_ok (fun z => a_call_ok hP (fun r v' L' f' DA' nc ns p z => ?_) z) z) h
      rw [map_toList]
      exact hK _ _ _ _ _ _ _ _ p z
  case invokevirtual n =>
    match al, h with
    | a :: l, h =>
      refine a_pop_ok ax ast [] _ _ (fun av u z => ?_) h
      match u, z with
      | .inr (some (k, i)) :: t, z =>
        refine a_le4_ok (fun z => a_vrt_ok hP (fun r v' L' f' DA' nc ns p z => ?_) z) z
        rw [map_toList]
        exact hK _ _ _ _ _ _ _ _ p z
theorem a_run_ok {X : XC} {fr lo mc ms : Nat} {J : AJ} {J' : XJ} {Q : AQ} {RQ : Option Value → XH → Prop} {A : Nat → Nat → Nat}
    (hJ : ∀ pc als ast v L f DA nc ns, PS X f A DA v L → J pc als ast v L nc ns → J' pc (cvl A als) (ast.map (cv A)) f nc ns)
    (hQ : ∀ ra v L f DA, PS X f A DA v L → Q ra v L → RQ (ra.map (cv A)) f) : ∀ (ops : List XO), ops.all a_cok = true → ∀ (pc : Nat) (als : ALc) (ast : List AV) (v : SV) (L : SL) (f : XH) (DA : Nat → Nat) (nc ns : Nat), PS X f A DA v L → a_run X fr lo mc ms J Q ops pc als ast v L nc ns → x_run X fr lo mc ms J' RQ ops pc (cvl A als) (ast.map (cv A)) f nc ns := by
  intro ops
  induction ops with
  | nil => exact fun _ pc als ast v L f DA nc ns hP h => hJ _ _ _ _ _ _ _ _ _ hP h
  | cons o r ih =>
    intro hc pc als ast v L f DA nc ns hP h
    rw [List.all_cons, Bool.and_eq_true] at hc
    exact a_step_ok hJ hQ o hc.1 pc als ast v L f DA nc ns hP _ _ (fun als ast v L f DA nc ns p q => ih hc.2 _ _ _ _ _ _ _ _ _ p q) h
def a_arg (av : List AV) : ALc := fun i => av[i]?
theorem x_arg_map {A : Nat → Nat → Nat} (av : List AV) : x_arg (av.map (cv A)) = cvl A (a_arg av) := by
  funext i
  unfold x_arg cvl a_arg
  rw [List.getElem?_map]
def a_ck (B : List (Nat × List XO)) : Bool := B.all fun b => b.2.all a_cok
theorem lookup_memB {B : List (Nat × List XO)} {pc : Nat} {ops : List XO} (h : B.lookup pc = some ops) (hb : a_ck B = true) : ops.all a_cok = true := by
  induction B with
  | nil => cases h
  | cons b B ih =>
    obtain ⟨q, ops'⟩ := b
    rw [a_ck, List.all_cons, Bool.and_eq_true] at hb
    rw [List.lookup_cons] at h
    split at h
    · cases h
      exact hb.1
    · exact ih h hb.2
/-- a method over the picture: its contract -/
theorem a_met {X : XC} {y : Nat} {own : String} {ini : Bool} {B : List (Nat × List XO)} {av : List AV} {v : SV} {L : SL} {fr lo mc ms : Nat} {Q : AQ} (hm : x_mok y own ini B) (hb : a_ck B = true) (hn : av.length ≤ (x_mt y).2.2.1)
    (h : ∀ go : AJ, (∀ pc ops ls st v L nc ns, B.lookup pc = some ops → a_run X fr lo mc ms go Q ops pc ls st v L nc ns → go pc ls st v L nc ns) → go 0 (a_arg av) [] v L 0 0) : AHolds X y av v L fr lo mc ms Q := by
  intro f A DA hP
  refine x_met hm (fun v hv => ?_) (by rw [List.length_map]; exact hn) (fun go st => ?_)
  · obtain ⟨x, -, rfl⟩ := List.mem_map.mp hv
    match x with
    | .inl _ => exact trivial
    | .inr none => exact trivial
    | .inr (some _) => exact trivial
  · have h1 := h (fun pc als ast v L nc ns => ∀ f DA, PS X f A DA v L → go pc (cvl A als) (ast.map (cv A)) f nc ns) (fun pc ops ls st' v L nc ns hl hr f DA hP => st pc ops _ _ f nc ns hl (a_run_ok (fun pc als ast v L f DA nc ns p q => q f DA p) (fun ra v' L' f' DA' p q => ⟨ra, v', L', DA', rfl, p, q⟩) ops (lookup_memB hl hb) pc ls st' v L f DA nc ns hP hr)) f DA hP
    rw [x_arg_map]
    exact h1
