/-! One new object with its lists: the picture after it. Methods that make objects. -/
/-- method y may make objects: the host and the reference stay where they are -/
def AHoldsN (X : XC) (y : Nat) (av : List AV) (v : SV) (L : SL) (fr lo mc ms : Nat) (Q : AQ) : Prop :=
  ∀ (f : XH) (A : Nat → Nat → Nat) (DA : Nat → Nat), PS X f A DA v L → Holds X y (av.map (cv A)) f fr lo mc ms (fun r f' => ∃ (ra : Option AV) (v' : SV) (L' : SL) (A' : Nat → Nat → Nat) (DA' : Nat → Nat), r = ra.map (cv A) ∧ (A' 0 0 = A 0 0 ∧ A' 20 0 = A 20 0) ∧ PS X f' A' DA' v' L' ∧ Q ra v' L')
def RQN (X : XC) (A : Nat → Nat → Nat) (Q : AQ) : Option Value → XH → Prop := fun r f' => ∃ (ra : Option AV) (v' : SV) (L' : SL) (A' : Nat → Nat → Nat) (DA' : Nat → Nat), r = ra.map (cv A) ∧ (A' 0 0 = A 0 0 ∧ A' 20 0 = A 20 0) ∧ PS X f' A' DA' v' L' ∧ Q ra v' L'
theorem a_metN {X : XC} {y : Nat} {own : String} {ini : Bool} {B : List (Nat × List XO)} {av : List AV} {v : SV} {L : SL} {fr lo mc ms : Nat} {Q : AQ} (hm : x_mok y own ini B) (hn : av.length ≤ (x_mt y).2.2.1)
    (h : ∀ (A : Nat → Nat → Nat) (go : XJ) (ago : AJ), (∀ pc ops ls st f nc ns, B.lookup pc = some ops → x_run X fr lo mc ms go (RQN X A Q) ops pc ls st f nc ns → go pc ls st f nc ns) → (∀ pc ls st v L nc ns, (∀ f DA, PS X f A DA v L → go pc (cvl A ls) (st.map (cv A)) f nc ns) → ago pc ls st v L nc ns) → (∀ pc ops ls st v L nc ns, B.lookup pc = some ops → ops.all a_cok = true → a_run X fr lo mc ms ago Q ops pc ls st v L nc ns → ago pc ls st v L nc ns) → ago 0 (a_arg av) [] v L 0 0) : AHoldsN X y av v L fr lo mc ms Q := by
  intro f A DA hP
  refine x_met hm (fun v hv => ?_) (by rw [List.length_map]; exact hn) (fun go st => ?_)
  · obtain ⟨x, -, rfl⟩ := List.mem_map.mp hv
    match x with
    | .inl _ => exact trivial
    | .inr none => exact trivial
    | .inr (some _) => exact trivial
  · have h1 := h A go (fun pc als ast v L nc ns => ∀ f DA, PS X f A DA v L → go pc (cvl A als) (ast.map (cv A)) f nc ns) st (fun pc ls st v L nc ns q => q) (fun pc ops ls st' v L nc ns hl hb hr f DA hP => st pc ops _ _ f nc ns hl (a_run_ok (fun pc als ast v L f DA nc ns p q => q f DA p) (fun ra v' L' f' DA' p q => ⟨ra, v', L', A, DA', rfl, ⟨rfl, rfl⟩, p, q⟩) ops hb pc ls st' v L f DA nc ns hP hr)) f DA hP
    rw [x_arg_map]
    exact h1
theorem al_new {X : XC} {f : XH} {a : Nat} {g : Nat → Nat} (h : f a = e_al X) (h0 : ∃ g0, f (x_k X 0) = some (.inr (99, 0, g0))) : al_ok X f a (x_k X 0) 0 g := ⟨0, h, Or.inl ⟨rfl, rfl, h0⟩⟩
theorem PC_new {X : XC} {f f' : XH} {A A' : Nat → Nat → Nat} {DA DA' : Nat → Nat} {v v' : SV} {L L' : SL} {n : Nat} (h : PC X f A DA v L) (N : Nat → Prop) (hN : ∀ k, N k → 5 ≤ k ∧ k ≤ 10) (hA : ∀ k i, ¬ (N k ∧ i = n) → A' k i = A k i) (hnl : ∀ k, N k → ¬ cc_live v L k n) (hv : ∀ c i, c ≠ 1 → (c < 20 ∨ 43 < c ∨ (c ≠ 26 ∧ i ≠ n) ∨ (c = 26 ∧ i % 32 ≠ n)) → v' c i = v c i) (hlive : ∀ k, 5 ≤ k → k ≤ 10 → cc_live v' L' k n → cc_live v L k n ∨ N k) (h1 : L' 1 = L 1) (q11 : ∀ i, i < 8 → v 11 i ≠ n) (q16 : ∀ i j, i < 8 → v 16 (i + 8 * j) ≠ n) (q50 : ∀ k, k < (L 1).length → (v 50 k).toNat ≠ n) (q34 : ∀ p, v 20 p = 3 → (v 34 p).toNat ≠ n) (fresh : ∀ k, N k → f (A' k n) = none ∧ f' (A' k n) ≠ none) (inj : ∀ k k', N k → N k' → A' k n = A' k' n → k = k') (hf : ∀ b, f b ≠ none → b ≠ A 0 0 → b ≠ A 0 7 → b ≠ A 0 8 → f' b = f b) (c0 : ∀ i, i = 0 ∨ i = 7 ∨ i = 8 → ∃ e, cc_cell A' v' L' 0 i = some e ∧ f' (A 0 i) = some e) (cn : ∀ k e, 5 ≤ k → k ≤ 10 → cc_cell A' v' L' k n = some e → f' (A' k n) = some e) (hL : ∀ l, cl_live v L l → L' l = L l) (hel : ∀ l, cl_live v L l → ∀ e ∈ L l, cc_live v L (cl_el l) e) (hLn : ∀ l, cl_ok l → N (cl_obj l).1 → (cl_obj l).2 = n → L' l = [] ∧ f' (A' (cl_obj l).1 n) = e_al X ∧ DA' l = x_k X 0) (hD : ∀ l, ¬ (N (cl_obj l).1 ∧ (cl_obj l).2 = n) → DA' l = DA l) : PC X f' A' DA' v' L' := by
  have hP := id h
  obtain ⟨p1, p2, p3, p4, ⟨g0, p5⟩, p6, p7⟩ := h
  have z0 : ∀ i, i ≤ 10 → cc_live v L 0 i := fun i hi => hi
  have ne0 : ∀ k i, cc_live v L k i → ¬ (k = 0 ∧ (i = 0 ∨ i = 7 ∨ i = 8)) → f' (A k i) = f (A k i) := by
    intro k i hl hk
    refine hf _ (p7 k i hl) (fun z => ?_) (fun z => ?_) (fun z => ?_)
    · obtain ⟨a, b⟩ := p3 _ _ _ _ hl (z0 0 (by omega)) z; omega
    · obtain ⟨a, b⟩ := p3 _ _ _ _ hl (z0 7 (by omega)) z; omega
    · obtain ⟨a, b⟩ := p3 _ _ _ _ hl (z0 8 (by omega)) z; omega
  have ke : f' (x_k X 0) = f (x_k X 0) := hf _ (by rw [p5]; exact fun q => nomatch q) (fun z => p6 0 0 (z0 0 (by omega)) z.symm) (fun z => p6 0 7 (z0 7 (by omega)) z.symm) (fun z => p6 0 8 (z0 8 (by omega)) z.symm)
  have e20 : ∀ i, i ≠ n → v' 20 i = v 20 i := fun i hi => hv 20 i (by omega) (by omega)
  have e40 : ∀ i, i ≠ n → v' 40 i = v 40 i := fun i hi => hv 40 i (by omega) (by omega)
  have e60 : v' 60 0 = v 60 0 := hv 60 0 (by omega) (by omega)
  have lvo : ∀ k i, ¬ (5 ≤ k ∧ k ≤ 10 ∧ i = n) → cc_live v' L' k i → cc_live v L k i := by
    intro k i hk hl
    unfold cc_live at *
    split at hl
    all_goals first
      | exact hl
      | (rw [e20 i (fun z => hk ⟨by omega, by omega, z⟩)] at hl; exact hl)
      | (rw [e40 i (fun z => hk ⟨by omega, by omega, z⟩)] at hl; exact hl)
      | (rw [h1] at hl; exact hl)
      | (rw [e60] at hl; exact hl)
  have lv : ∀ k i, cc_live v' L' k i → cc_live v L k i ∨ (N k ∧ i = n) := by
    intro k i hl
    by_cases hk : 5 ≤ k ∧ k ≤ 10 ∧ i = n
    · obtain ⟨a, b, rfl⟩ := hk
      rcases hlive k a b hl with q | q
      · exact Or.inl q
      · exact Or.inr ⟨q, rfl⟩
    · exact Or.inl (lvo k i hk hl)
  have hAo : ∀ k i, cc_live v L k i → A' k i = A k i := fun k i hl => hA k i (fun z => hnl k z.1 (z.2 ▸ hl))
  have hA0 : ∀ i, A' 0 i = A 0 i := fun i => hA 0 i (fun z => absurd (hN 0 z.1).1 (by decide))
  have hne : ∀ b, f b ≠ none → f' b ≠ none := by
    intro b hb
    by_cases b0 : b = A 0 0
    · obtain ⟨e, -, q⟩ := c0 0 (by omega); rw [b0, q]; exact fun q => nomatch q
    · by_cases b7 : b = A 0 7
      · obtain ⟨e, -, q⟩ := c0 7 (by omega); rw [b7, q]; exact fun q => nomatch q
      · by_cases b8 : b = A 0 8
        · obtain ⟨e, -, q⟩ := c0 8 (by omega); rw [b8, q]; exact fun q => nomatch q
        · rw [hf b hb b0 b7 b8]; exact hb
  refine PC.ext hP (fun k i => N k ∧ i = n) 999 hAo lv (fun k i hk => ?_) (fun k i k' i' a b e => ?_) hne ke (fun k i e he => ?_) (fun l hl => ?_)
  · obtain ⟨a, rfl⟩ := hk
    exact fresh k a
  · obtain ⟨a, rfl⟩ := a
    obtain ⟨b, rfl⟩ := b
    exact ⟨inj k k' a b e, rfl⟩
  · by_cases q0 : k = 0 ∧ (i = 0 ∨ i = 7 ∨ i = 8)
    · obtain ⟨rfl, q0⟩ := q0
      obtain ⟨e', a, b⟩ := c0 i q0
      rw [a] at he
      cases he
      rw [hA0]; exact b
    · by_cases qn : i = n ∧ 5 ≤ k ∧ k ≤ 10
      · obtain ⟨rfl, a, b⟩ := qn
        exact cn k e a b he
      · have ec : cc_cell A' v' L' k i = cc_cell A v L k i := cc_keep (fun k i hk => hA k i (fun z => by have := hN k z.1; omega)) hv h1 q11 q16 q50 q34 q0 qn
        rw [ec] at he
        have hl := cc_cell_live he
        rw [hAo k i hl, ne0 k i hl q0]
        exact p1 k i e he
  · have hok := hl.1
    rcases lv _ _ hl.2 with q | ⟨q1, q2⟩
    · have hlo : cl_live v L l := ⟨hok, q⟩
      have hno : ¬ (N (cl_obj l).1 ∧ (cl_obj l).2 = n) := fun z => hnl _ z.1 (z.2 ▸ q)
      have hk0 : ¬ ((cl_obj l).1 = 0 ∧ ((cl_obj l).2 = 0 ∨ (cl_obj l).2 = 7 ∨ (cl_obj l).2 = 8)) := by
        have := cl_obj_k hok; omega
      refine ⟨?_, Or.inl ⟨hlo, hD l hno⟩⟩
      rw [hD l hno, hL l hlo, hAo _ _ q]
      have hdn : f (DA l) ≠ none := by
        intro z
        obtain ⟨m, -, ⟨-, -, g, e⟩ | ⟨cap, G, e, -⟩⟩ := p2 l hlo
        · rw [z] at e; cases e
        · rw [z] at e; cases e
      have hda : ∀ i, i ≤ 10 → DA l ≠ A 0 i := fun i hi z => (p4 l hlo).1 0 i (z0 i hi) z.symm
      refine al_eqg (al_same (p2 l hlo) (ne0 _ _ q hk0) (hf _ hdn (hda 0 (by omega)) (hda 7 (by omega)) (hda 8 (by omega)))) rfl (fun j hj => ?_)
      refine (hAo _ _ (hel l hlo _ ?_)).symm
      rw [List.getD_eq_getElem?_getD, List.getElem?_eq_getElem hj]
      exact List.getElem_mem hj
    · obtain ⟨a, b, c⟩ := hLn l hok q1 q2
      refine ⟨?_, Or.inr (Or.inl c)⟩
      rw [a, c, q2]
      exact al_new b ⟨g0, ke.trans p5⟩
