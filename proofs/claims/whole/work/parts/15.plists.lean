/-! The lists of the picture: ArrayList's methods as contracts over it. -/
def upL (L : Nat → List Nat) (l : Nat) (M : List Nat) : Nat → List Nat := fun l' => if l' = l then M else L l'
theorem upL_s {L : Nat → List Nat} {l : Nat} {M : List Nat} : upL L l M l = M := if_pos rfl
theorem upL_n {L : Nat → List Nat} {l l' : Nat} {M : List Nat} (h : l' ≠ l) : upL L l M l' = L l' := if_neg h
theorem cl_obj_inj {l l' : Nat} (h : cl_ok l) (h' : cl_ok l') (e : cl_obj l = cl_obj l') : l = l' := by
  unfold cl_ok at h h'
  unfold cl_obj at e
  repeat' split at e
  all_goals (have e1 := congrArg Prod.fst e; have e2 := congrArg Prod.snd e; simp only at e1 e2; omega)
theorem al_eqg {X : XC} {f : XH} {a d n n' : Nat} {g g' : Nat → Nat} (h : al_ok X f a d n g) (hn : n = n') (hg : ∀ j, j < n → g j = g' j) : al_ok X f a d n' g' := by
  subst hn
  obtain ⟨m, h1, h2⟩ := h
  refine ⟨m, h1, ?_⟩
  rcases h2 with h2 | ⟨cap, G, p1, p2, p3, p4, p5⟩
  · exact Or.inl h2
  · exact Or.inr ⟨cap, G, p1, p2, p3, p4, fun j hj => by rw [p5 j hj, hg j hj]⟩
theorem cc_liveL {v : Nat → Nat → Int} {L : Nat → List Nat} {l : Nat} {M : List Nat} (h : l ≠ 1) : cc_live v (upL L l M) = cc_live v L := by
  have e : upL L l M 1 = L 1 := upL_n (Ne.symm h)
  funext k i
  unfold cc_live
  simp only [e]
theorem cc_cellL {A : Nat → Nat → Nat} {v : Nat → Nat → Int} {L : Nat → List Nat} {l : Nat} {M : List Nat} (h : l ≠ 1) : cc_cell A v (upL L l M) = cc_cell A v L := by
  have e : upL L l M 1 = L 1 := upL_n (Ne.symm h)
  funext k i
  unfold cc_cell
  simp only [e]
/-- a list of the picture has changed -/
theorem PC.lst {X : XC} {f f' : XH} {A : Nat → Nat → Nat} {DA : Nat → Nat} {v : Nat → Nat → Int} {L : Nat → List Nat} (h : PC X f A DA v L) {l d' : Nat} {M : List Nat} (hl : cl_live v L l) (h1 : l ≠ 1) (hd : d' = DA l ∧ (∃ cap G, f d' = some (.inr (5, cap, G))) ∨ f d' = none) (ha : al_ok X f' (A (cl_obj l).1 (cl_obj l).2) d' M.length (fun j => A (cl_el l) (M.getD j 0))) (hf : ∀ b, b ≠ A (cl_obj l).1 (cl_obj l).2 → b ≠ d' → f' b = f b) : PC X f' A (va_up DA l d') v (upL L l M) := by
  obtain ⟨p1, p2, p3, p4, ⟨g0, p5⟩, p6, p7⟩ := h
  have hd0 : d' ≠ x_k X 0 := by
    intro z
    rcases hd with ⟨-, cap, G, e⟩ | e
    · rw [z, p5] at e; cases e
    · rw [z, p5] at e; cases e
  have hdc : ∀ k i, cc_live v L k i → f (A k i) ≠ none → A k i ≠ d' := by
    intro k i q1 q2 z
    rcases hd with ⟨e, -⟩ | e
    · exact (p4 l hl).1 k i q1 (z.trans e)
    · exact q2 (z ▸ e)
  have ho : ∀ l', cl_live v L l' → l' ≠ l → A (cl_obj l').1 (cl_obj l').2 ≠ A (cl_obj l).1 (cl_obj l).2 := by
    intro l' q1 q2 z
    obtain ⟨e1, e2⟩ := p3 _ _ _ _ q1.2 hl.2 z
    exact q2 (cl_obj_inj q1.1 hl.1 (Prod.ext e1 e2))
  have hon : ∀ l', cl_live v L l' → f (A (cl_obj l').1 (cl_obj l').2) ≠ none := by
    intro l' q1 z
    obtain ⟨m, e, -⟩ := p2 l' q1
    rw [z] at e; cases e
  have hDn : ∀ l', cl_live v L l' → f (DA l') ≠ none := by
    intro l' q1 z
    obtain ⟨m, -, ⟨-, -, g, e⟩ | ⟨cap, G, e, -⟩⟩ := p2 l' q1
    · rw [z] at e; cases e
    · rw [z] at e; cases e
  have hDl : ∀ l', cl_live v L l' → l' ≠ l → DA l' ≠ d' := by
    intro l' q1 q2 z
    rcases hd with ⟨e, -⟩ | e
    · exact hd0 (e.trans ((p4 l hl).2 l' q1 q2 (z.trans e)))
    · exact hDn l' q1 (z ▸ e)
  unfold PC cl_live
  rw [cc_liveL h1, cc_cellL h1]
  refine ⟨fun k i e he => ?_, fun l' q1 => ?_, p3, fun l' q1 => ⟨fun k i q2 => ?_, fun l'' q2 q3 q4 => ?_⟩, ⟨g0, ?_⟩, p6, fun k i q1 => ?_⟩
  · have hc := p1 k i e he
    have hlv := cc_cell_live he
    rw [hf _ (fun z => ?_) (hdc k i hlv (by rw [hc]; exact fun q => nomatch q)), hc]
    obtain ⟨e1, e2⟩ := p3 _ _ _ _ hlv hl.2 z
    subst e1 e2
    obtain ⟨m, h2, -⟩ := p2 l hl
    rcases cl_obj_k hl.1 with ⟨c1, c2⟩ | c1 | c1 | c1
    · rw [c1] at he
      unfold cc_cell cc_one at he
      simp only at he
      split at he <;> first | omega | cases he
    · rw [c1] at he; cases he
    · rw [c1] at he; cases he
    · rw [c1] at he; cases he
  · by_cases e : l' = l
    · subst e
      rw [va_up_self, upL_s]
      exact ha
    · rw [va_up_ne _ _ e, upL_n e]
      exact al_same (p2 l' q1) (hf _ (ho l' q1 e) (hdc _ _ q1.2 (hon l' q1))) (hf _ (fun z => (p4 l' q1).1 _ _ hl.2 z.symm) (hDl l' q1 e))
  · by_cases e : l' = l
    · subst e
      rw [va_up_self]
      exact hdc k i q2 (p7 k i q2)
    · rw [va_up_ne _ _ e]
      exact (p4 l' q1).1 k i q2
  · by_cases e : l' = l
    · subst e
      rw [va_up_self, va_up_ne _ _ q3] at q4
      exact absurd q4 (hDl l'' q2 q3)
    · rw [va_up_ne _ _ e] at q4 ⊢
      by_cases e2 : l'' = l
      · subst e2
        rw [va_up_self] at q4
        exact absurd q4.symm (hDl l' q1 e)
      · rw [va_up_ne _ _ e2] at q4
        exact (p4 l' q1).2 l'' q2 q3 q4
  · rw [hf _ (Ne.symm (p6 _ _ hl.2)) (Ne.symm hd0), p5]
  · by_cases z : A k i = A (cl_obj l).1 (cl_obj l).2
    · rw [z]
      obtain ⟨m, e, -⟩ := ha
      rw [e]
      exact fun q => nomatch q
    · rw [hf _ z (hdc k i q1 (p7 k i q1))]
      exact p7 k i q1
/-- what a list may hold -/
theorem cl_elo {X : XC} {f : XH} {A : Nat → Nat → Nat} {DA : Nat → Nat} {v : Nat → Nat → Int} {L : Nat → List Nat} (h : PC X f A DA v L) {l e : Nat} (he : cc_live v L (cl_el l) e) : (al_el f (A (cl_el l) e) ∧ x_elo f (.ref (A (cl_el l) e))) ∧ ∀ k i, cl_obj l = (k, i) → cl_live v L l → A (cl_el l) e ≠ A k i := by
  have hk : cl_el l = 11 ∨ cl_el l = 1 ∨ cl_el l = 5 := by
    unfold cl_el
    split
    · exact Or.inl rfl
    · split
      · exact Or.inr (Or.inl rfl)
      · exact Or.inr (Or.inr rfl)
  have hx : ∃ ci fs, f (A (cl_el l) e) = some (.inl (ci, fs)) ∧ (ci = 4 ∨ ci = 6 ∨ ci = 7 ∨ ci = 8 ∨ ci = 9) := by
    rcases hk with hk | hk | hk <;> rw [hk] at he ⊢
    · exact ⟨_, _, h.c 11 e (if_pos he), by decide⟩
    · exact ⟨_, _, h.c 1 e (if_pos he), by decide⟩
    · rcases he with he | he | he
      · exact ⟨_, _, h.c 5 e (if_pos he), by decide⟩
      · exact ⟨_, _, h.c 5 e ((if_neg (by omega)).trans (if_pos he)), by decide⟩
      · exact ⟨_, _, h.c 5 e ((if_neg (by omega)).trans ((if_neg (by omega)).trans (if_pos he))), by decide⟩
  obtain ⟨ci, fs, e1, e2⟩ := hx
  refine ⟨⟨⟨ci, fs, e1, ?_⟩, Or.inr ⟨_, ci, fs, rfl, e1, ?_⟩⟩, fun k i ho hl z => ?_⟩
  · rcases e2 with rfl | rfl | rfl | rfl | rfl <;> decide
  · rcases e2 with rfl | rfl | rfl | rfl | rfl <;> decide
  · obtain ⟨q1, q2⟩ := h.2.2.1 _ _ _ _ he (by have := hl.2; rw [ho] at this; exact this) z
    have := cl_obj_k hl.1
    rw [ho] at this
    simp only at this
    omega
theorem x_wk {X : XC} {y : Nat} {av : List Value} {f : XH} {fr lo mc ms : Nat} {Q Q' : Option Value → XH → Prop} (h : Holds X y av f fr lo mc ms Q) (hq : ∀ r f', Q r f' → Q' r f') : Holds X y av f fr lo mc ms Q' := by
  intro p e ha hc hk s m args below hf happ hP hK
  obtain ⟨n, o, h1, h2, h3, ⟨⟨r, f', h4, h5, h6⟩, h7⟩, h8⟩ := h p e ha hc hk s m args below hf happ hP hK
  exact ⟨n, o, h1, h2, h3, ⟨⟨r, f', h4, hq r f' h5, h6⟩, h7⟩, h8⟩
theorem a_wk {X : XC} {y : Nat} {av : List AV} {v : SV} {L : SL} {fr lo mc ms : Nat} {Q Q' : AQ} (h : AHolds X y av v L fr lo mc ms Q) (hq : ∀ r v' L', Q r v' L' → Q' r v' L') : AHolds X y av v L fr lo mc ms Q' :=
  fun f A DA hP => x_wk (h f A DA hP) (fun r f' q => by obtain ⟨ra, v', L', DA', q1, q2, q3⟩ := q; exact ⟨ra, v', L', DA', q1, q2, hq _ _ _ q3⟩)
/-- the values of a picture are small -/
theorem a_sm {X : XC} {y : Nat} {av : List AV} {v : SV} {L : SL} {fr lo mc ms : Nat} {Q : AQ} (h : (∀ c i, iS (v c i)) → AHolds X y av v L fr lo mc ms Q) : AHolds X y av v L fr lo mc ms Q := fun f A DA hP => h hP.2 f A DA hP
theorem a_AL_size {X : XC} {v : SV} {L : SL} {l k i : Nat} (hl : cl_live v L l) (ho : cl_obj l = (k, i)) : AHolds X y_ArrayList_size [aR k i] v L 0 0 0 0 (fun r v' L' => r = some (aI (L l).length) ∧ v = v' ∧ L = L') := by
  intro f A DA hP
  have h := hP.1.2.1 l hl
  rw [ho] at h
  refine x_wk (c_AL_size' h) ?_
  rintro r f' ⟨rfl, rfl⟩
  exact ⟨some (aI (L l).length), v, L, DA, by rw [← iI_n]; rfl, hP, rfl, rfl, rfl⟩
theorem a_AL_isEmpty {X : XC} {v : SV} {L : SL} {l k i : Nat} (hl : cl_live v L l) (ho : cl_obj l = (k, i)) (hn : (L l).length < 1000) : AHolds X y_ArrayList_isEmpty [aR k i] v L 0 0 0 0 (fun r v' L' => r = some (aI (if (L l).length = 0 then 1 else 0)) ∧ v = v' ∧ L = L') := by
  intro f A DA hP
  have h := hP.1.2.1 l hl
  rw [ho] at h
  obtain ⟨m, h1, -⟩ := h
  refine x_wk (c_AL_isEmpty h1) ?_
  rintro r f' ⟨rfl, rfl⟩
  refine ⟨some (aI (if (L l).length = 0 then 1 else 0)), v, L, DA, ?_, hP, rfl, rfl, rfl⟩
  by_cases e : (L l).length = 0
  · rw [if_pos e, e]; rfl
  · rw [if_neg e, if_neg]
    · rfl
    · intro z
      rw [← iI_n, show (0 : Int32) = iI 0 from rfl, iI_eq ⟨by omega, by omega⟩ ⟨by omega, by omega⟩] at z
      omega
theorem a_AL_get {X : XC} {v : SV} {L : SL} {l k i : Nat} {z : Int} (hl : cl_live v L l) (ho : cl_obj l = (k, i)) (h0 : 0 ≤ z) (hz : z < (L l).length) : AHolds X y_ArrayList_get [aR k i, aI z] v L 2 43 0 0 (fun r v' L' => r = some (aR (cl_el l) ((L l).getD z.toNat 0)) ∧ v = v' ∧ L = L') := by
  intro f A DA hP
  have h := hP.1.2.1 l hl
  rw [ho] at h
  have h2 := c_AL_get (i := z.toNat) h (by omega)
  rw [← iI_nat h0] at h2
  refine x_wk h2 ?_
  rintro r f' ⟨rfl, rfl⟩
  exact ⟨some (aR (cl_el l) ((L l).getD z.toNat 0)), v, L, DA, rfl, hP, rfl, rfl, rfl⟩
theorem a_AL_add {X : XC} {v : SV} {L : SL} {l k i e : Nat} (hl : cl_live v L l) (ho : cl_obj l = (k, i)) (h1 : l ≠ 1) (hn : (L l).length ≤ 40) (hel : ∀ j, j < (L l).length → cc_live v L (cl_el l) ((L l).getD j 0)) (he : cc_live v L (cl_el l) e) : AHolds X y_ArrayList_add [aR k i, aR (cl_el l) e] v L 6 200 1 90 (fun r v' L' => r = some (aI 1) ∧ v = v' ∧ L' = (upL L l (L l ++ [e]))) := by
  intro f A DA hP
  have h := hP.1.2.1 l hl
  have ho' : (cl_obj l).1 = k ∧ (cl_obj l).2 = i := by rw [ho]; exact ⟨rfl, rfl⟩
  refine x_wk (c_AL_add (X := X) (f := f) (a := A k i) (d := DA l) (e := A (cl_el l) e) (n := (L l).length) (g := fun j => A (cl_el l) ((L l).getD j 0)) ?_ hn (fun j hj => (cl_elo hP.1 (hel j hj)).1) (cl_elo hP.1 he).1.1 ((cl_elo hP.1 he).2 k i ho hl) (fun j hj => (cl_elo hP.1 (hel j hj)).2 k i ho hl)) ?_
  · rw [ho'.1, ho'.2] at h; exact h
  rintro r f' ⟨rfl, d', hd, ha, hf⟩
  refine ⟨some (aI 1), v, (upL L l (L l ++ [e])), va_up DA l d', rfl, ⟨?_, hP.2⟩, rfl, rfl, rfl⟩
  refine hP.1.lst hl h1 ?_ ?_ ?_
  · rcases hd with ⟨q1, q2⟩ | q
    · exact Or.inl ⟨q1, q1 ▸ q2⟩
    · exact Or.inr q
  · rw [ho'.1, ho'.2]
    refine al_eqg ha (by rw [List.length_append]; rfl) (fun j hj => ?_)
    by_cases hjn : j = (L l).length
    · subst hjn
      rw [va_up_self, List.getD_eq_getElem?_getD, List.getElem?_append_right (by omega)]
      simp
    · rw [va_up_ne _ _ hjn, List.getD_eq_getElem?_getD, List.getD_eq_getElem?_getD, List.getElem?_append_left (by omega)]
  · rw [ho'.1, ho'.2]; exact hf
theorem a_AL_remove {X : XC} {v : SV} {L : SL} {l k i : Nat} {z : Int} (hl : cl_live v L l) (ho : cl_obj l = (k, i)) (h1 : l ≠ 1) (h0 : 0 ≤ z) (hz : z < (L l).length) (hel : ∀ j, j < (L l).length → cc_live v L (cl_el l) ((L l).getD j 0)) : AHolds X y_ArrayList_remove [aR k i, aI z] v L 2 100 0 0 (fun r v' L' => r = some (aR (cl_el l) ((L l).getD z.toNat 0)) ∧ v = v' ∧ L' = (upL L l ((L l).eraseIdx z.toNat))) := by
  intro f A DA hP
  have h := hP.1.2.1 l hl
  have ho' : (cl_obj l).1 = k ∧ (cl_obj l).2 = i := by rw [ho]; exact ⟨rfl, rfl⟩
  have h2 := c_AL_remove (X := X) (f := f) (a := A k i) (d := DA l) (n := (L l).length) (g := fun j => A (cl_el l) ((L l).getD j 0)) (i := z.toNat) (by rw [ho'.1, ho'.2] at h; exact h) (by omega) (fun j hj => (cl_elo hP.1 (hel j hj)).1.2) (fun j hj => (cl_elo hP.1 (hel j hj)).2 k i ho hl)
  rw [← iI_nat h0] at h2
  refine x_wk h2 ?_
  rintro r f' ⟨rfl, ha, hf⟩
  refine ⟨some (aR (cl_el l) ((L l).getD z.toNat 0)), v, (upL L l ((L l).eraseIdx z.toNat)), va_up DA l (DA l), rfl, ⟨?_, hP.2⟩, rfl, rfl, rfl⟩
  refine hP.1.lst hl h1 (Or.inl ⟨rfl, ?_⟩) ?_ ?_
  · obtain ⟨m, -, ⟨-, e, -⟩ | ⟨cap, G, e, -⟩⟩ := h
    · omega
    · exact ⟨cap, G, e⟩
  · rw [ho'.1, ho'.2]
    have hlen : ((L l).eraseIdx z.toNat).length = (L l).length - 1 := by rw [List.length_eraseIdx, if_pos (by omega)]
    refine al_eqg ha hlen.symm (fun j hj => ?_)
    simp only [List.getD_eq_getElem?_getD, List.getElem?_eraseIdx]
    by_cases hjz : j < z.toNat
    · rw [if_pos hjz, if_pos hjz]
    · rw [if_neg hjz, if_neg hjz]
  · rw [ho'.1, ho'.2]; exact hf
theorem cl6 {t : Nat} (ht : t < 32) : cl_obj (100 + t) = (6, t) ∧ cl_el (100 + t) = 1 := by
  unfold cl_obj cl_el
  rw [if_neg (by omega), if_neg (by omega), if_pos (by omega), if_neg (by omega), if_pos (by omega), Nat.add_sub_cancel_left]
  exact ⟨rfl, rfl⟩
theorem cl8 {t : Nat} (ht : t < 32) : cl_obj (200 + t) = (8, t) ∧ cl_el (200 + t) = 5 := by
  unfold cl_obj cl_el
  rw [if_neg (by omega), if_neg (by omega), if_neg (by omega), if_pos (by omega), if_neg (by omega), if_neg (by omega), Nat.add_sub_cancel_left]
  exact ⟨rfl, rfl⟩
theorem cl10 {t : Nat} (ht : t < 8) : cl_obj (300 + t) = (10, t) ∧ cl_el (300 + t) = 5 := by
  unfold cl_obj cl_el
  rw [if_neg (by omega), if_neg (by omega), if_neg (by omega), if_neg (by omega), if_neg (by omega), if_neg (by omega), Nat.add_sub_cancel_left]
  exact ⟨rfl, rfl⟩
theorem ll0 {v : Nat → Nat → Int} {L : Nat → List Nat} : cl_live v L 0 := ⟨Or.inl rfl, (by decide : (9 : Nat) ≤ 10)⟩
theorem ll1 {v : Nat → Nat → Int} {L : Nat → List Nat} : cl_live v L 1 := ⟨Or.inr (Or.inl rfl), (by decide : (10 : Nat) ≤ 10)⟩
theorem ll6 {v : Nat → Nat → Int} {L : Nat → List Nat} {t : Nat} (ht : t < 32) (h : a_live5 v t) : cl_live v L (100 + t) := ⟨Or.inr (Or.inr (Or.inl (by omega))), by rw [(cl6 ht).1]; exact h⟩
theorem ll8 {v : Nat → Nat → Int} {L : Nat → List Nat} {t : Nat} (ht : t < 32) (h : v 20 t = 2) : cl_live v L (200 + t) := ⟨Or.inr (Or.inr (Or.inr (Or.inl (by omega)))), by rw [(cl8 ht).1]; exact h⟩
theorem ll10 {v : Nat → Nat → Int} {L : Nat → List Nat} {t : Nat} (ht : t < 8) (h : v 40 t = 1) : cl_live v L (300 + t) := ⟨Or.inr (Or.inr (Or.inr (Or.inr (by omega)))), by rw [(cl10 ht).1]; exact h⟩
/-- a contract's end, with the smallness of what it leaves -/
theorem a_sv {X : XC} {y : Nat} {av : List AV} {v : SV} {L : SL} {fr lo mc ms : Nat} {Q : AQ} (h : AHolds X y av v L fr lo mc ms Q) : AHolds X y av v L fr lo mc ms (fun r v' L' => Q r v' L' ∧ ∀ c i, iS (v' c i)) :=
  fun f A DA hP => x_wk (h f A DA hP) (fun r f' q => by obtain ⟨ra, v', L', DA', q1, q2, q3⟩ := q; exact ⟨ra, v', L', DA', q1, q2, q3, q2.2⟩)
theorem a_cs {X : XC} {v : SV} {L : SL} {fr lo mc ms y nc ns fr' lo' mc' ms' : Nat} {av : List AV} {k : Option AV → SV → SL → Nat → Nat → Prop} {Q : AQ} (h1 : AHolds X y av v L fr' lo' mc' ms' Q) (h2 : fr' + 1 ≤ fr ∧ 8 + ((x_mt y).2.2.1 + 11) + lo' ≤ lo ∧ nc + mc' ≤ mc ∧ ns + ms' ≤ ms) (h3 : ∀ r v' L', Q r v' L' → (∀ c i, iS (v' c i)) → k r v' L' (nc + mc') (ns + ms')) : a_call X fr lo mc ms y av v L nc ns k := ⟨fr', lo', mc', ms', _, a_sv h1, h2, fun r v' L' q => h3 r v' L' q.1 q.2⟩
theorem x_rm {X : XC} {y : Nat} {av : List Value} {f : XH} {fr lo fr' lo' mc ms : Nat} {Q : Option Value → XH → Prop} (h : Holds X y av f fr lo mc ms Q) (h1 : fr ≤ fr') (h2 : lo ≤ lo') : Holds X y av f fr' lo' mc ms Q := by
  unfold Holds Met at h ⊢
  exact MetFree.respec h (fun _ _ q => q) h1 h2 (Nat.le_refl _) (Nat.le_refl _)
