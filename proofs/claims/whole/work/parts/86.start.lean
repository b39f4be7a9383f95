/-! The world at the law's entry. -/
section
theorem st_len {args : Array Value} {s : State} {t : Term} {a : Addr} {cell : Cell} (h : (Cond.eq (.length t) (.int 0)).before args s = true) (ht : t.eval args s none [] s = some (.ref a)) (hc : s.heap[a]? = some cell) : cell.slots.size = 0 := by
  cases hv : (Term.length t).eval args s none [] s with
  | none => simp [Cond.before, Cond.holds, Cond.value, hv] at h
  | some w =>
    have hv' := hv
    simp only [Term.eval, ht, Option.bind_eq_bind, Option.bind_some] at hv
    cases ha : s.arrayAt? a with
    | none => simp [ha] at hv
    | some c' =>
      obtain ⟨h1, -⟩ := State.arrayAt?_spec ha
      rw [hc] at h1
      cases h1
      simp only [ha, Option.bind_some] at hv
      by_cases hn : cell.slots.size < 2 ^ 31
      · rw [if_pos hn] at hv
        cases hv
        have q := Cond.eq_ints (y := 0) hv' (show (Term.int 0).eval args s none [] s = some (.int 0) from rfl)
        simp only [Cond.before, Cond.holds, q] at h
        have e : cell.slots.size.toInt32 = 0 := by simpa using h
        have e2 := nI_eq (a := cell.slots.size) (b := 0) (by omega) (by omega)
        exact e2.mp e
      · rw [if_neg hn] at hv
        cases hv
theorem x_nc_in : ∀ q ∈ x_nc, Cond.not (.castable q.1 q.2) ∈ flatC (Jvm.Cond.and given_1 narrow_1) := by decide +kernel
theorem x_ao_in : ∀ C ∈ x_ao, Cond.arrayOver (.object C) ∈ lw_tbl := by decide +kernel
theorem x_start (l : Launch) {s : State} {args : Array Value} (hts : ∀ w ∈ lw_tbl, w.before args s = true) (hg : (Jvm.Cond.and given_1 narrow_1).before args s = true) : ∃ X : XC, X.1 = l ∧ x_z X = s.heap.size ∧ x_K X s ∧ x_Z X s s.heap ∧ s.heap[x_k X 0]? = some (x_c0 X) := by
  have hs := flat_of_before _ hg
  have htw : ∀ w ∈ x_ws, w.before args s = true := fun w hw => hts w (List.mem_filter.mp hw).1
  have inst : ∀ C n, Cond.instantiable C n ∈ lw_tbl → (Cond.instantiable C n).before args s = true := fun C n h => hts _ h
  have kn : ∀ c : Nat, ∃ p : ClassId × (Nat → Nat), ∀ q : vw_C, x_cl[c]? = some q → u_Kn s q.1 q.2.1 q.2.2 p.1 p.2 := by
    intro c
    have one : ∀ (C : String) (T : u_T) (N : Nat), x_clf C T N → Cond.instantiable C N ∈ lw_tbl → x_cl[c]? = some (C, T, N) → ∃ p : ClassId × (Nat → Nat), ∀ q : vw_C, x_cl[c]? = some q → u_Kn s q.1 q.2.1 q.2.2 p.1 p.2 := by
      intro C T N h1 h2 h3
      obtain ⟨cC, iS, h⟩ := u_known htw h1.1 (hts _ h2)
      refine ⟨(cC, iS), fun q hq => ?_⟩
      rw [h3] at hq
      cases hq
      exact h
    match c with
    | 0 => exact one _ _ _ x_f0 (by decide +kernel) rfl
    | 1 => exact one _ _ _ x_f1 (by decide +kernel) rfl
    | 2 => exact one _ _ _ x_f2 (by decide +kernel) rfl
    | 3 => exact one _ _ _ x_f3 (by decide +kernel) rfl
    | 4 => exact one _ _ _ x_f4 (by decide +kernel) rfl
    | 5 => exact one _ _ _ x_f5 (by decide +kernel) rfl
    | 6 => exact one _ _ _ x_f6 (by decide +kernel) rfl
    | 7 => exact one _ _ _ x_f7 (by decide +kernel) rfl
    | 8 => exact one _ _ _ x_f8 (by decide +kernel) rfl
    | 9 => exact one _ _ _ x_f9 (by decide +kernel) rfl
    | 10 => exact one _ _ _ x_f10 (by decide +kernel) rfl
    | 11 => exact one _ _ _ x_f11 (by decide +kernel) rfl
    | n + 12 => exact ⟨(0, fun _ => 0), fun q hq => by cases hq⟩
  obtain ⟨F, hF⟩ := Classical.skolem.mp kn
  have ar : ∀ k : Nat, ∃ cA : ClassId, ∀ ty, x_ty[k]? = some ty → ArrOfT s cA ty ∧ va_RA s cA ty := by
    intro k
    have prim : ∀ ty : FieldType, Cond.arrayClass ty ∈ lw_tbl → (ty = .int ∨ ty = .boolean) → x_ty[k]? = some ty → ∃ cA : ClassId, ∀ ty, x_ty[k]? = some ty → ArrOfT s cA ty ∧ va_RA s cA ty := by
      intro ty h1 h2 h3
      obtain ⟨cA, kA, comp, g1, g2, g3⟩ := Cond.arrayClass_spec (hts _ h1)
      refine ⟨cA, fun t ht => ?_⟩
      rw [h3] at ht
      cases ht
      refine ⟨fun n z => ⟨fun k h => (by cases h), kA, g2, comp, g3⟩, ?_⟩
      rcases h2 with rfl | rfl <;> exact g1
    have obj : ∀ C : String, C ∈ x_ao → x_ty[k]? = some (.object C) → ∃ cA : ClassId, ∀ ty, x_ty[k]? = some ty → ArrOfT s cA ty ∧ va_RA s cA ty := by
      intro C h1 h3
      obtain ⟨comp, cA, kA, g1, -, g2, g3, g4⟩ := Cond.arrayOver_spec (hts _ (x_ao_in C h1))
      refine ⟨cA, fun t ht => ?_⟩
      rw [h3] at ht
      cases ht
      exact ⟨fun n z => ⟨fun k h => (by cases h), kA, g2, comp, g3⟩, kA, comp, g2, g3, g1, g4⟩
    match k with
    | 0 => exact prim .int (by decide +kernel) (Or.inl rfl) rfl
    | 1 => exact prim .boolean (by decide +kernel) (Or.inr rfl) rfl
    | 2 => exact obj _ (by decide) rfl
    | 3 => exact obj _ (by decide) rfl
    | 4 => exact obj _ (by decide) rfl
    | 5 => exact obj _ (by decide) rfl
    | n + 6 => exact ⟨0, fun q hq => by cases hq⟩
  obtain ⟨G, hG⟩ := Classical.skolem.mp ar
  obtain ⟨a, cI, c0, kI, e1, e2, e3, e4, e5, e6, -⟩ := Cond.exactly_spec (hs (.exactly (.static "java/util/ArrayList" "DEFAULTCAPACITY_EMPTY_ELEMENTDATA" "[Ljava/lang/Object;") "[Ljava/lang/Object;") (by decide +kernel))
  have ea := Cond.arrayOf_spec (hs (.arrayOf (.static "java/util/ArrayList" "DEFAULTCAPACITY_EMPTY_ELEMENTDATA" "[Ljava/lang/Object;") (.object "java/lang/Object")) (by decide +kernel)) e1 e3
  have el := st_len (hs (.eq (.length (.static "java/util/ArrayList" "DEFAULTCAPACITY_EMPTY_ELEMENTDATA" "[Ljava/lang/Object;")) (.int 0)) (by decide +kernel)) e1 e3
  obtain ⟨mi, hmi⟩ := va_Mi.of (hs (.isRef (.mirror "[Ljava/lang/Object;")) (by decide +kernel))
  refine ⟨(l, (fun c => (F c).1, fun c => (F c).2), G, s.heap.size, c0, fun k => if k = 0 then a else mi), rfl, rfl, ⟨fun c q hq => hF c q hq, fun k ty hk => hG k ty hk, fun w hw hn => ?_, fun C hC => va_AO.of (hts _ (x_ao_in C hC)), fun q hq => va_Nc.of (hs _ (x_nc_in q hq)), ⟨ea.1, el⟩, hmi⟩, ?_, e3⟩
  · have h := hts w hw
    cases w <;> first | exact va_Nw.of rfl h | (exact absurd hn (by decide)) | (cases hn)
  · refine va_Zref (hts _ (by decide +kernel)) (hts _ (by decide +kernel)) e1 (fun q hq z => ?_)
    have z : s.heap.size ≤ q := z
    omega
end
