/-! What needs what: sets as bits, ways, ranks. -/
section
variable {v v' w w' : SV} {L L' : SL} {own : Int → Nat}
def hasB (z : Int) (j : Nat) : Prop := ¬ bAnd (bShr z j) 1 = 0
theorem bit_all : ∀ z : Fin 256, ∀ j : Fin 8, (0 ≤ bOr (z.val : Int) (bShl 1 (j.val : Int)) ∧ bOr (z.val : Int) (bShl 1 (j.val : Int)) < 256) ∧ ∀ i : Fin 8, (¬ bAnd (bShr (bOr (z.val : Int) (bShl 1 (j.val : Int))) (i.val : Int)) 1 = 0 ↔ ¬ bAnd (bShr (z.val : Int) (i.val : Int)) 1 = 0 ∨ i.val = j.val) := by decide +kernel
theorem bit_0 : ∀ i : Fin 8, bAnd (bShr 0 (i.val : Int)) 1 = 0 := by decide +kernel
theorem hasB_0 {i : Nat} (hi : i < 8) : ¬ hasB 0 i := fun h => h (bit_0 ⟨i, hi⟩)
theorem hasB_or {z : Int} {j : Nat} (h0 : 0 ≤ z) (h1 : z < 256) (hj : j < 8) : (0 ≤ bOr z (bShl 1 j) ∧ bOr z (bShl 1 j) < 256) ∧ ∀ i, i < 8 → (hasB (bOr z (bShl 1 j)) i ↔ hasB z i ∨ i = j) := by
  have ez : z = ((z.toNat : Nat) : Int) := by omega
  have h := bit_all ⟨z.toNat, by omega⟩ ⟨j, hj⟩
  simp only at h
  rw [← ez] at h
  exact ⟨h.1, fun i hi => h.2 ⟨i, hi⟩⟩
/-- what r rounds reach -/
def rdB (L : SL) (b : Nat) : Nat → Nat → Prop
  | 0, _ => False
  | r + 1, y => ∃ c, (c = b ∨ rdB L b r c) ∧ y ∈ L (200 + c)
theorem rdB_s {b : Nat} : ∀ (r y : Nat), rdB L b r y → rdB L b (r + 1) y := by
  intro r
  induction r with
  | zero => exact fun y h => h.elim
  | succ r ih =>
    rintro y ⟨c, h1, h2⟩
    refine ⟨c, ?_, h2⟩
    rcases h1 with h1 | h1
    · exact Or.inl h1
    · exact Or.inr (ih c h1)
theorem rdB_m {b r : Nat} : ∀ (k y : Nat), rdB L b r y → rdB L b (r + k) y := by
  intro k
  induction k with
  | zero => exact fun y h => h
  | succ k ih => exact fun y h => rdB_s _ y (ih y h)
theorem ldTo_s {b : Nat} : ∀ (n a : Nat), ldTo L b n a → ldTo L b (n + 1) a := by
  intro n
  induction n with
  | zero => exact fun a h => Or.inl h
  | succ n ih =>
    rintro a (h | ⟨e, h1, h2⟩)
    · exact Or.inl h
    · exact Or.inr ⟨e, h1, ih e h2⟩
theorem ldTo_m {b n : Nat} : ∀ (k a : Nat), ldTo L b n a → ldTo L b (n + k) a := by
  intro k
  induction k with
  | zero => exact fun y h => h
  | succ k ih => exact fun y h => ldTo_s _ y (ih y h)
theorem ldTo_y {c y : Nat} (hy : y ∈ L (200 + c)) : ∀ (n e : Nat), ldTo L c n e → ldTo L y (n + 1) e := by
  intro n
  induction n with
  | zero =>
    intro a h
    have h : a = c := h
    subst h
    exact Or.inr ⟨y, hy, rfl⟩
  | succ n ih =>
    rintro a (h | ⟨e, h1, h2⟩)
    · subst h
      exact Or.inr ⟨y, hy, Or.inl rfl⟩
    · exact Or.inr ⟨e, h1, ih e h2⟩
theorem ldTo_r {a : Nat} {rk : Nat → Nat} (hr : ∀ c, v 20 c = 2 → ∀ e ∈ L (200 + c), rk e < rk c) (hg : ∀ c, v 20 c = 2 → ∀ e ∈ L (200 + c), v 20 e = 2) : ∀ (n e : Nat), v 20 e = 2 → ldTo L a n e → ldTo L a (rk e + 1) e := by
  intro n
  induction n with
  | zero => exact fun a _ h => Or.inl h
  | succ n ih =>
    rintro e he (h | ⟨x, h1, h2⟩)
    · exact Or.inl h
    · have h3 := ih x (hg e he x h1) h2
      have h4 := hr e he x h1
      have h5 := ldTo_m (rk e - (rk x + 1)) x h3
      rw [show rk x + 1 + (rk e - (rk x + 1)) = rk e by omega] at h5
      exact Or.inr ⟨x, h1, h5⟩
theorem ldTo_8 (hR : RS own v L w) {a n e : Nat} (he : v 20 e = 2) (h : ldTo L a n e) : ldTo L a 8 e := by
  obtain ⟨rk, r1, r2⟩ := hR.2.1.2.2.1.2
  have h1 := ldTo_r (v := v) r2 (fun c hc => (hR.1.2.2.2.1 c hc).2.2.2.2) n e he h
  have h2 := ldTo_m (8 - (rk e + 1)) e h1
  have := r1 e
  rw [show rk e + 1 + (8 - (rk e + 1)) = 8 by omega] at h2
  exact h2
theorem ldTo_B {a b : Nat} : ∀ (n e r : Nat), ldTo L a n e → (e = b ∨ rdB L b r e) → a = b ∨ rdB L b (r + n) a := by
  intro n
  induction n with
  | zero =>
    intro e r h h3
    have h : e = a := h
    subst h
    exact h3
  | succ n ih =>
    rintro e r (h | ⟨x, h1, h2⟩) h3
    · subst h
      rcases h3 with h3 | h3
      · exact Or.inl h3
      · exact Or.inr (rdB_m _ _ h3)
    · have h4 := ih x (r + 1) h2 (Or.inr ⟨e, h3, h1⟩)
      rw [show r + 1 + n = r + (n + 1) by omega] at h4
      exact h4
/-- by a way of one step or more -/
def rch (L : SL) (b x : Nat) : Prop := ∃ e ∈ L (200 + b), ∃ n, ldTo L x n e
theorem rch_1 {b y : Nat} (h : y ∈ L (200 + b)) : rch L b y := ⟨y, h, 1, Or.inl rfl⟩
theorem rch_s {b c y : Nat} (h : rch L b c) (hy : y ∈ L (200 + c)) : rch L b y := by
  obtain ⟨e, h1, n, h2⟩ := h
  exact ⟨e, h1, n + 1, ldTo_y hy n e h2⟩
theorem rch_l {b x : Nat} (hR : RS own v L w) (hb : v 20 b = 2) (h : rch L b x) : ldTo L x 8 b := by
  obtain ⟨e, h1, n, h2⟩ := h
  exact ldTo_8 hR hb (n := n + 1) (Or.inr ⟨e, h1, h2⟩)
/-- singletons: their needs -/
theorem sg_n (hR : RS own v L w) {c : Nat} (hc : v 20 c = 2) : (c < 8 ∧ (c : Int) < v 1 0) ∧ w 108 c = ((L (200 + c)).length : Int) ∧ (L (200 + c)).length ≤ 8 ∧ ∀ k, k < (L (200 + c)).length → w 107 (8 * c + k) = ((L (200 + c)).getD k 0 : Nat) ∧ (L (200 + c)).getD k 0 ∈ L (200 + c) ∧ (L (200 + c)).getD k 0 < 8 ∧ v 20 ((L (200 + c)).getD k 0) = 2 := by
  have c32 := (hR.1.2.2.2.1 c hc).1
  have c8 : c < 8 := by
    rcases Nat.lt_or_ge c 8 with q | q
    · exact q
    · have := hR.2.1.2.2.2.2.2.2.1.1 (c - 8) (by omega)
      rw [show 8 + (c - 8) = c by omega] at this
      rcases this with ⟨_, z, _⟩ | ⟨_, z⟩ <;> omega
  have c1 : (c : Int) < v 1 0 := by
    rcases hR.2.1.2.1 c c8 with ⟨q, _⟩ | ⟨_, q, _⟩
    · exact q
    · omega
  obtain ⟨n1, n2, n3, n4⟩ := hR.2.1.2.2.1.1 c hc
  refine ⟨⟨c8, c1⟩, n1, nd_len 8 _ n2 n4, fun k hk => ?_⟩
  have hm : (L (200 + c)).getD k 0 ∈ L (200 + c) := by
    rw [List.getD_eq_getElem?_getD, List.getElem?_eq_getElem hk]
    exact List.getElem_mem hk
  exact ⟨n3 k hk, hm, n4 _ hm, (hR.1.2.2.2.1 c hc).2.2.2.2 _ hm⟩
-- ranks, made small again
def cnR (r : Nat → Nat) (c : Nat) : Nat → Nat
  | 0 => 0
  | n + 1 => cnR r c n + (if r n < r c then 1 else 0)
theorem cnR_lt {r : Nat → Nat} {c e : Nat} (h : r e < r c) : ∀ n, cnR r e n + (if e < n then 1 else 0) ≤ cnR r c n := by
  intro n
  induction n with
  | zero => simp [cnR]
  | succ n ih =>
    rw [cnR, cnR]
    by_cases z : e = n
    · subst z
      rw [if_neg (by omega)] at ih
      rw [if_neg (Nat.lt_irrefl _), if_pos (by omega), if_pos h]
      omega
    · have : (if e < n + 1 then 1 else 0) = (if e < n then 1 else 0) := by
        by_cases y : e < n
        · rw [if_pos y, if_pos (by omega)]
        · rw [if_neg y, if_neg (by omega)]
      rw [this]
      by_cases y : r n < r e
      · rw [if_pos y, if_pos (show r n < r c by omega)]; omega
      · rw [if_neg y]
        by_cases y2 : r n < r c
        · rw [if_pos y2]; omega
        · rw [if_neg y2]; omega
theorem cnR_b {r : Nat → Nat} {c : Nat} : ∀ n, cnR r c n + (if c < n then 1 else 0) ≤ n := by
  intro n
  induction n with
  | zero => simp [cnR]
  | succ n ih =>
    rw [cnR]
    by_cases z : c = n
    · subst z
      rw [if_neg (by omega)] at ih
      rw [if_neg (Nat.lt_irrefl _), if_pos (by omega)]
      omega
    · have : (if c < n + 1 then 1 else 0) = (if c < n then 1 else 0) := by
        by_cases y : c < n
        · rw [if_pos y, if_pos (by omega)]
        · rw [if_neg y, if_neg (by omega)]
      rw [this]
      split <;> omega
def dpL (L : SL) (a b : Nat) : SL := upL L (200 + a) (L (200 + a) ++ [b])
def r_dep (w : SV) (a b : Nat) : SV := up2 (up2 w 107 (8 * a + (w 108 a).toNat) b) 108 a (w 108 a + 1)
theorem RS_dep (h : RS own v L w) {a b : Nat} (ha : v 20 a = 2) (hb : v 20 b = 2) (hn : ¬ b ∈ L (200 + a)) (hl : ¬ ldTo L a 8 b) : RS own v (dpL L a b) (r_dep w a b) ∧ pot v (dpL L a b) (r_dep w a b) = pot v L w := by
  have sa := sg_n h ha
  have sb := sg_n h hb
  have h8 : ∀ e n, v 20 e = 2 → ldTo L a n e → ldTo L a 8 e := fun e n he hl => ldTo_8 h he hl
  obtain ⟨hW, ⟨h0, hK, hN, hS, hO, hP, hE, hC, hM, hT, hX, hw⟩, hR, hD⟩ := id h
  have a8 := sa.1.1
  have e : ∀ c, c ≠ 999999 → v c = v c := fun _ _ => rfl
  have f : ∀ c, (c ≠ 107 ∧ c ≠ 108) → r_dep w a b c = w c := fun c hc => by
    funext j
    unfold r_dep
    rw [up2_c hc.2, up2_c hc.1]
  have g : ∀ l, l ≠ 200 + a → dpL L a b l = L l := fun l hl => upL_n hl
  have ga : dpL L a b (200 + a) = L (200 + a) ++ [b] := upL_s
  have nd : (L (200 + a) ++ [b]).Nodup := by
    rw [List.nodup_append]
    refine ⟨(hN.1 a ha).2.1, by simp, fun x hx y hy => ?_⟩
    rw [List.mem_singleton.mp hy]
    intro z
    exact hn (z ▸ hx)
  have n8 : (L (200 + a)).length < 8 := by
    have := nd_len 8 _ nd (fun x hx => by
      rcases List.mem_append.mp hx with y | y
      · exact (hN.1 a ha).2.2.2 x y
      · rw [List.mem_singleton.mp y]; exact sb.1.1)
    rw [List.length_append] at this
    simp at this
    omega
  have lt : ∀ t, a_live5 v t → dpL L a b (100 + t) = L (100 + t) := fun t ht => g _ (by have := (WF_tg hW ht).1; omega)
  have w108 : ∀ c, r_dep w a b 108 c = if c = a then ((L (200 + a)).length : Int) + 1 else w 108 c := by
    intro c
    unfold r_dep
    by_cases z : c = a
    · rw [z, up2_s, if_pos rfl, sa.2.1]
    · rw [up2_i z, up2_c (by omega), if_neg z]
  have w107 : ∀ j, r_dep w a b 107 j = if j = 8 * a + (L (200 + a)).length then (b : Int) else w 107 j := by
    intro j
    unfold r_dep
    rw [up2_c (by omega), sa.2.1, Int.toNat_natCast]
    by_cases z : j = 8 * a + (L (200 + a)).length
    · rw [z, up2_s, if_pos rfl]
    · rw [up2_i z, if_neg z]
  refine ⟨⟨⟨?_, ?_, hW.2.2.1, ?_, ?_, ?_, hW.2.2.2.2.2.2⟩, ⟨?_, (Rk_c hK (fun c hc => e c (by simp only [List.mem_cons, List.not_mem_nil, or_false] at hc; omega)) (fun c hc => f c (by simp only [List.mem_cons, List.not_mem_nil, or_false] at hc; omega))), ⟨?_, ?_⟩, (Rs_c hS (fun c hc => e c (by simp only [List.mem_cons, List.not_mem_nil, or_false] at hc; omega)) (fun c hc => f c (by simp only [List.mem_cons, List.not_mem_nil, or_false] at hc; omega))), (Ro_c hO (fun c hc => e c (by simp only [List.mem_cons, List.not_mem_nil, or_false] at hc; omega)) (fun c hc => f c (by simp only [List.mem_cons, List.not_mem_nil, or_false] at hc; omega))), (Rp_c hP (fun c hc => e c (by simp only [List.mem_cons, List.not_mem_nil, or_false] at hc; omega)) (fun c hc => f c (by simp only [List.mem_cons, List.not_mem_nil, or_false] at hc; omega))), ?_, ⟨?_, ?_⟩, hM, ?_, (Rx_c hX (fun c hc => e c (by simp only [List.mem_cons, List.not_mem_nil, or_false] at hc; omega)) (fun c hc => f c (by simp only [List.mem_cons, List.not_mem_nil, or_false] at hc; omega))), ?_⟩, (Rl_c hR (fun c hc => e c (by simp only [List.mem_cons, List.not_mem_nil, or_false] at hc; omega)) (fun c hc => f c (by simp only [List.mem_cons, List.not_mem_nil, or_false] at hc; omega))), ?_⟩, ?_⟩
  · intro i hi
    unfold clOK
    rw [g 1 (by omega)]
    exact hW.1 i hi
  · intro t ht
    rw [lt t ht]
    exact hW.2.1 t ht
  · intro t ht
    obtain ⟨q1, q2, q3, q4, q5⟩ := hW.2.2.2.1 t ht
    by_cases z : t = a
    · subst z
      rw [ga]
      refine ⟨q1, q2, q3, by rw [List.length_append]; simp; omega, fun x hx => ?_⟩
      rcases List.mem_append.mp hx with y | y
      · exact q5 x y
      · rw [List.mem_singleton.mp y]; exact hb
    · rw [g (200 + t) (by omega)]
      exact ⟨q1, q2, q3, q4, q5⟩
  · have q := hW.2.2.2.2.1
    unfold WFs stOK at *
    simp only [g 0 (by omega), fun c => g (300 + c) (by omega)]
    exact q
  · have q := hW.2.2.2.2.2.1
    unfold WFk at *
    rw [g 1 (by omega)]
    exact q
  · unfold R0 at *
    rw [g 0 (by omega), g 1 (by omega), f 100 (by omega), f 101 (by omega), f 102 (by omega), f 118 (by omega), f 135 (by omega), f 143 (by omega)]
    exact h0
  · intro c hc
    obtain ⟨q1, q2, q3, q4⟩ := hN.1 c hc
    have sc := sg_n h hc
    by_cases z : c = a
    · subst z
      rw [ga, w108, if_pos rfl]
      refine ⟨by rw [List.length_append]; simp, nd, fun k hk => ?_, fun x hx => ?_⟩
      · rw [w107]
        rw [List.length_append] at hk
        simp at hk
        rw [List.getD_eq_getElem?_getD]
        by_cases y : k = (L (200 + c)).length
        · rw [if_pos (by omega), List.getElem?_append_right (by omega), y]
          simp
        · rw [if_neg (by omega), List.getElem?_append_left (by omega), ← List.getD_eq_getElem?_getD]
          exact q3 k (by omega)
      · rcases List.mem_append.mp hx with y | y
        · exact q4 x y
        · rw [List.mem_singleton.mp y]; exact sb.1.1
    · rw [g (200 + c) (by omega), w108, if_neg z]
      refine ⟨q1, q2, fun k hk => ?_, q4⟩
      have := sc.2.2.1
      rw [w107, if_neg (by omega)]
      exact q3 k hk
  · obtain ⟨rk, r1, r2⟩ := hN.2
    classical
    refine ⟨fun c => if c < 8 then cnR (fun x => if ldTo L a 8 x then rk x + 8 else rk x) c 8 else 0, fun c => ?_, fun c hc x hx => ?_⟩
    · simp only
      split
      · rename_i q
        have := cnR_b (r := fun x => if ldTo L a 8 x then rk x + 8 else rk x) (c := c) 8
        rw [if_pos q] at this
        omega
      · omega
    · have sc := sg_n h hc
      have key : v 20 x = 2 ∧ (if ldTo L a 8 x then rk x + 8 else rk x) < (if ldTo L a 8 c then rk c + 8 else rk c) := by
        have old : x ∈ L (200 + c) → v 20 x = 2 ∧ (if ldTo L a 8 x then rk x + 8 else rk x) < (if ldTo L a 8 c then rk c + 8 else rk c) := by
          intro hx
          have h2 := r2 c hc x hx
          refine ⟨(hW.2.2.2.1 c hc).2.2.2.2 x hx, ?_⟩
          by_cases y : ldTo L a 8 x
          · have y2 : ldTo L a 8 c := h8 c 9 hc (Or.inr ⟨x, hx, y⟩)
            rw [if_pos y, if_pos y2]; omega
          · rw [if_neg y]
            split <;> omega
        by_cases z : c = a
        · subst z
          rw [ga] at hx
          rcases List.mem_append.mp hx with y | y
          · exact old y
          · rw [List.mem_singleton.mp y]
            refine ⟨hb, ?_⟩
            have y2 : ldTo L c 8 c := Or.inl rfl
            rw [if_neg hl, if_pos y2]
            have := r1 b
            omega
        · rw [g (200 + c) (by omega)] at hx
          exact old hx
      have sx := sg_n h key.1
      have := cnR_lt (r := fun x => if ldTo L a 8 x then rk x + 8 else rk x) (c := c) (e := x) key.2 8
      rw [if_pos sx.1.1] at this
      simp only
      rw [if_pos sx.1.1, if_pos sc.1.1]
      omega
  · unfold Re eP at *
    simp only [f 119 (by omega), f 120 (by omega), f 121 (by omega), f 122 (by omega), f 123 (by omega), f 124 (by omega), g 0 (by omega), fun c => g (300 + c) (by omega)]
    exact hE
  · intro i hi
    have q := hC.1 i hi
    unfold cP at *
    rw [f 109 (by omega), f 125 (by omega), f 126 (by omega), f 127 (by omega), f 128 (by omega), f 129 (by omega), f 130 (by omega), f 131 (by omega), f 132 (by omega), f 133 (by omega), f 134 (by omega), f 142 (by omega)]
    exact q
  · intro t ht
    rw [f 132 (by omega), lt t ht]
    exact hC.2 t ht
  · unfold Rt tP at *
    simp only [f 136 (by omega), f 137 (by omega), f 138 (by omega), f 139 (by omega), f 140 (by omega), f 141 (by omega), g 1 (by omega)]
    exact hT
  · unfold Rw at *
    simp only [f 109 (by omega), f 110 (by omega), f 115 (by omega), g 0 (by omega)]
    exact hw
  · unfold Rd at *
    rw [f 124 (by omega), f 133 (by omega)]
    exact hD
  · unfold pot
    rw [f 133 (by omega), g 1 (by omega)]
end
