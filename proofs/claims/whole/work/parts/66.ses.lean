/-! A new session, a new task: what they keep of the relation. -/
section
variable {v v' w w' : SV} {L L' : SL} {own : Int → Nat}
theorem RS_ses (h : RS own v L w) {s n : Nat} (hs : (L 0).length = s) (s24 : s < 24) (hn : n < 8) (h40 : v 40 n = 1) (hb : v 4 0 < 3100) (e : ∀ k, (k < 3 ∨ 6 < k) → (k < 20 ∨ 22 < k) → (k < 34 ∨ 39 < k) → v' k = v k) (e2 : ∀ k i, (k < 3 ∨ 6 < k) → i ≠ 8 + s → v' k i = v k i) (e3 : v' 3 0 = v 3 0 + 1) (e4 : v' 4 0 = v 4 0 + 1) (e5 : v' 5 0 = v 5 0 + 1) (a20 : v' 20 (8 + s) = 3) (a21 : v' 21 (8 + s) = v 42 n) (a22 : v' 22 (8 + s) = 3) (a34 : v' 34 (8 + s) = n) (a35 : v' 35 (8 + s) = v 5 0) (a36 : v' 36 (8 + s) = 1) (a37 : v' 37 (8 + s) = 0) (a38 : v' 38 (8 + s) = v 3 0 + 1) (a39 : v' 39 (8 + s) = v 2 0) (f : ∀ k, (k < 118 ∨ 124 < k) → (k < 143 ∨ 145 < k) → w' k = w k) (f2 : ∀ k i, 118 < k → k < 124 → i ≠ s → w' k i = w k i) (b118 : w' 118 0 = s + 1) (b119 : w' 119 s = n) (b120 : w' 120 s = v 5 0) (b121 : w' 121 s = 1) (b122 : w' 122 s = w 124 0) (b123 : w' 123 s = v 2 0) (b124 : w' 124 0 = w 124 0 + 1) (b143 : w' 143 0 = v 5 0 + 1) (hl : Rl v' w') (g : ∀ l, l ≠ 0 → l ≠ 108 + s → l ≠ 300 + n → L' l = L l) (g0 : L' 0 = L 0 ++ [8 + s]) (g1 : L' (108 + s) = []) (g3 : L' (300 + n) = L (300 + n) ++ [8 + s]) : (∃ own', RS own' v' L' w') ∧ pot v' L' w' ≤ pot v L w + 3 := by
  obtain ⟨hW, ⟨h0, hK, hN, hS, hO, hP, hE, hC, hM, hT, hX, hw⟩, hR, hD⟩ := h
  have hd : v 20 (8 + s) = 0 := by
    rcases hE.1 s s24 with ⟨q, _⟩ | ⟨_, q⟩
    · omega
    · exact q
  have nl : ¬ a_live5 v (8 + s) := by unfold a_live5; omega
  have ne : ∀ t, a_live5 v t → t ≠ 8 + s := fun t ht z => nl (z ▸ ht)
  have q20 : ∀ t, t ≠ 8 + s → v' 20 t = v 20 t := fun t ht => e2 20 t (by omega) ht
  have q22 : ∀ t, t ≠ 8 + s → v' 22 t = v 22 t := fun t ht => e2 22 t (by omega) ht
  have lv : ∀ t, a_live5 v t → a_live5 v' t := fun t ht => by
    unfold a_live5 at *; rw [q20 t (by intro z; subst z; omega)]; exact ht
  have lv' : ∀ t, t ≠ 8 + s → a_live5 v' t → a_live5 v t := fun t hn ht => by
    unfold a_live5 at *; rw [q20 t hn] at ht; exact ht
  have L1 : L' 1 = L 1 := g 1 (by omega) (by omega) (by omega)
  have l0 : (L' 0).length = s + 1 := by rw [g0]; simp [hs]
  have m0 := e 0 (by omega) (by omega) (by omega)
  have m1 := e 1 (by omega) (by omega) (by omega)
  have m2 := e 2 (by omega) (by omega) (by omega)
  have m10 := e 10 (by omega) (by omega) (by omega)
  have m11 := e 11 (by omega) (by omega) (by omega)
  have m15 := e 15 (by omega) (by omega) (by omega)
  have m16 := e 16 (by omega) (by omega) (by omega)
  have m17 := e 17 (by omega) (by omega) (by omega)
  have m18 := e 18 (by omega) (by omega) (by omega)
  have m40 := e 40 (by omega) (by omega) (by omega)
  have m41 := e 41 (by omega) (by omega) (by omega)
  have m42 := e 42 (by omega) (by omega) (by omega)
  have m43 := e 43 (by omega) (by omega) (by omega)
  have em : ∀ t l, mts v' t l = mts v t l := fun t l => mts_c m10 m16 m18 t l
  have eC : ∀ k, inC v' k ↔ inC v k := fun k => by unfold inC; rw [m10]
  have eU : ∀ x, usd v' x ↔ usd v x := fun x => by unfold usd inC; rw [m10, m17]
  have row : ∀ k, inC v k → v 16 k ≠ (8 + s : Nat) := by
    intro k hk z
    have q := ((hW.1 (k % 8) (by omega)).1.2 (k / 8) (by have := hk.1; omega)).2
    have ek : k % 8 + 8 * (k / 8) = k := by omega
    rw [ek, z] at q
    have q := q (by omega)
    rw [Int.toNat_natCast] at q
    exact nl q
  have g100 : ∀ t, t < 32 → t ≠ 8 + s → L' (100 + t) = L (100 + t) := fun t h1 h2 => g _ (by omega) (by omega) (by omega)
  have g200 : ∀ t, t < 32 → L' (200 + t) = L (200 + t) := fun t h1 => g _ (by omega) (by omega) (by omega)
  have g300 : ∀ t, t ≠ n → L' (300 + t) = L (300 + t) := fun t h2 => g _ (by omega) (by omega) (by omega)
  have f115 := f 115 (by omega) (by omega)
  have f109 := f 109 (by omega) (by omega)
  have f110 := f 110 (by omega) (by omega)
  have sg32 : ∀ c, v 20 c = 2 → c < 32 := fun c hc => (hW.2.2.2.1 c hc).1
  have c2 : ∀ c, v' 20 c = 2 → c ≠ 8 + s ∧ v 20 c = 2 := fun c hc => by
    have z : c ≠ 8 + s := fun z => by rw [z] at hc; omega
    rw [q20 c z] at hc; exact ⟨z, hc⟩
  have c1 : ∀ c, v' 20 c = 1 → c ≠ 8 + s ∧ v 20 c = 1 := fun c hc => by
    have z : c ≠ 8 + s := fun z => by rw [z] at hc; omega
    rw [q20 c z] at hc; exact ⟨z, hc⟩
  have d2 := hW.2.2.2.2.2.2
  obtain ⟨r1, r2, r3, r4, r5, r6, r7⟩ := hD
  have old : ∀ j, j < s → (8 + j) ≠ 8 + s := fun j hj => by omega
  have i34 : ∀ j, j < s → v' 34 (8 + j) = v 34 (8 + j) := fun j hj => e2 34 _ (by omega) (by omega)
  have l300 : (L (300 + n)).length ≤ s := by
    rw [hE.2.2 n h40, List.length_map, hs]
    exact Nat.le_trans (List.length_filter_le _ _) (by simp)
  refine ⟨⟨ownU own (v 5 0) (8 + s), ⟨?_, ?_, ?_, ?_, ⟨?_, ?_, ?_⟩, ⟨?_, ?_⟩, ?_⟩, ⟨?_, ?_, ⟨?_, ?_⟩, ⟨?_, ?_, ?_⟩, ?_, ?_, ⟨?_, ?_, ?_⟩, ⟨?_, ?_⟩, ?_, ?_, ⟨?_, ?_⟩, ⟨?_, ?_, ?_, ?_⟩⟩, hl, ?_⟩, ?_⟩
  · intro i hi
    obtain ⟨⟨q1, q2⟩, q3, q4, q5⟩ := hW.1 i hi
    unfold clOK rowOK
    rw [m10, m11, m15, m16, L1]
    exact ⟨⟨q1, fun j hj => ⟨(q2 j hj).1, fun z => lv _ ((q2 j hj).2 z)⟩⟩, q3, fun z => ⟨(q4 z).1, lv _ (q4 z).2.1, (q4 z).2.2⟩, q5⟩
  · intro t ht
    rw [m11]
    by_cases z : t = 8 + s
    · subst z
      rw [show 100 + (8 + s) = 108 + s by omega, g1]
      refine ⟨List.nodup_nil, fun i => ⟨fun q => absurd q (List.not_mem_nil), fun q => ?_⟩⟩
      have q2 := ((hW.1 i q.1).2.2.1 (by rw [q.2]; omega)).2.1
      rw [q.2, Int.toNat_natCast] at q2
      exact absurd q2 nl
    · have ht' := lv' t z ht
      rw [g100 t (WF_tg hW ht').1 z]
      exact hW.2.1 t ht'
  · intro t ht
    by_cases z : t = 8 + s
    · subst z
      refine ⟨⟨by omega, Or.inr (Or.inr a20), fun y => absurd y (by omega)⟩, ?_⟩
      rw [a21]
      rcases hK n hn with ⟨_, q | q | q, b1, _⟩ | q
      · have := q.2.1; omega
      · have := q.2.1; omega
      · have := q.2.2.2.2.1; omega
      · have := q.2.2; omega
    · rw [q20 t z] at ht
      obtain ⟨⟨a1, a2, a3⟩, a4⟩ := hW.2.2.1 t ht
      rw [e2 21 t (by omega) z]
      refine ⟨⟨a1, lv _ a2, fun y => ?_⟩, a4⟩
      rw [q20 t z] at y
      obtain ⟨b1, b2, b3, b4⟩ := a3 y
      unfold poolOK
      rw [q20 t z, e2 24 t (by omega) z]
      exact ⟨b1, b2, b3, b4⟩
  · intro t ht
    obtain ⟨z, ht'⟩ := c2 t ht
    obtain ⟨a1, a2, a3, a4, a5⟩ := hW.2.2.2.1 t ht'
    rw [e2 30 t (by omega) z, e2 28 t (by omega) z, g200 t a1]
    exact ⟨a1, a2, a3, a4, fun x hx => by rw [q20 x (fun y => by have := a5 x hx; subst y; omega)]; exact a5 x hx⟩
  · intro c hc
    unfold stOK
    rw [m40, m41]
    rcases hW.2.2.2.2.1.1 c hc with q | ⟨⟨q1, q2, q3, q4⟩, q5⟩
    · exact Or.inl q
    · refine Or.inr ⟨⟨q1, q2, ?_⟩, q5⟩
      have q6 : ∀ x ∈ L (300 + c), v' 20 x = 3 := fun x hx => by rw [q20 x (fun y => by have := q4 x hx; subst y; omega)]; exact q4 x hx
      by_cases z : c = n
      · subst z
        rw [g3]
        refine ⟨by rw [List.length_append]; simp; omega, fun x hx => ?_⟩
        rcases List.mem_append.mp hx with y | y
        · exact q6 x y
        · rw [List.mem_singleton.mp y]; exact a20
      · rw [g300 c z]
        exact ⟨q3, q6⟩
  · omega
  · intro j hj
    rw [l0] at hj
    rw [m40, m43]
    by_cases z : j = s
    · subst z
      rw [a20, a34, g0, List.getD_eq_getElem?_getD, List.getElem?_append_right (by omega), hs]
      have k43 : 0 ≤ v 43 n := by
        rcases hK n hn with ⟨_, q | q | q, b1, _⟩ | q
        · have := q.2.1; omega
        · have := q.2.1; omega
        · exact q.2.2.2.2.2.2.2.2.1
        · have := q.2.2; omega
      simpa using ⟨h40, k43⟩
    · have hj2 : j < s := by omega
      rw [i34 j hj2, q20 _ (old j hj2), g0]
      have := hW.2.2.2.2.1.2.2 j (by omega)
      refine ⟨?_, this.2⟩
      rw [List.getD_eq_getElem?_getD, List.getElem?_append_left (by omega), ← List.getD_eq_getElem?_getD]
      exact this.1
  · rw [L1]; exact hW.2.2.2.2.2.1.1
  · rw [L1]
    intro k hk
    obtain ⟨a1, a2, a3⟩ := hW.2.2.2.2.2.1.2 k hk
    rw [e 50 (by omega) (by omega) (by omega)]
    exact ⟨a1, a2, lv _ a3⟩
  · rw [m2]; exact d2
  · unfold R0 at *
    rw [l0, L1, m0, m1, m2, e5, b143, b118, f 100 (by omega) (by omega), f 101 (by omega) (by omega), f 102 (by omega) (by omega), f 135 (by omega) (by omega)]
    exact ⟨h0.1, h0.2.1, h0.2.2.1, by omega, h0.2.2.2.2.1, rfl, h0.2.2.2.2.2.2⟩
  · intro c hc
    have z : c ≠ 8 + s := by omega
    have q : ∀ k, (k < 3 ∨ 6 < k) → v' k c = v k c := fun k a => e2 k c a z
    have r := hK c hc
    unfold kP kS kF at *
    rw [m1, q 20 (by omega), q 21 (by omega), q 22 (by omega), q 23 (by omega), q 27 (by omega), q 28 (by omega), q 40 (by omega), q 41 (by omega), q 42 (by omega), q 43 (by omega), f 103 (by omega) (by omega), f 104 (by omega) (by omega), f 105 (by omega) (by omega), f 106 (by omega) (by omega)]
    exact r
  · intro c hc
    obtain ⟨z, hc'⟩ := c2 c hc
    rw [g200 c (sg32 c hc'), f 108 (by omega) (by omega), f 107 (by omega) (by omega)]
    exact hN.1 c hc'
  · obtain ⟨rk, k1, k2⟩ := hN.2
    refine ⟨rk, k1, fun c hc => ?_⟩
    obtain ⟨z, hc'⟩ := c2 c hc
    rw [g200 c (sg32 c hc')]
    exact k2 c hc'
  · intro c hc
    obtain ⟨z, hc'⟩ := c2 c hc
    rw [f109, e2 29 c (by omega) z, e2 30 c (by omega) z]
    exact hS.1 c hc'
  · rw [m0, f109, f110]
    intro h3 c hc
    obtain ⟨z, hc'⟩ := c2 c hc
    rw [e2 31 c (by omega) z]
    exact hS.2.1 h3 c hc'
  · rw [m0]
    intro h3 c hc
    obtain ⟨z, hc'⟩ := c2 c hc
    rw [e2 31 c (by omega) z]
    exact hS.2.2 h3 c hc'
  · obtain ⟨ol, o1, o2, o3, o4, o5⟩ := hO
    refine ⟨ol, by rw [f 112 (by omega) (by omega)]; exact o1, by rw [f 111 (by omega) (by omega)]; exact o2, o3, fun c => ?_, by rw [f110]; exact o5⟩
    rw [o4, f109]
    by_cases z : c = 8 + s
    · subst z
      constructor
      · rintro ⟨y, _⟩; omega
      · rintro ⟨y, _⟩; omega
    · rw [q20 c z]
  · intro c hc
    obtain ⟨z, hc'⟩ := c1 c hc
    obtain ⟨c8, p1, p2, p3, p4, p5, p6, p7, p8, p9, p10, p11⟩ := hP c hc'
    refine ⟨c8, ?_⟩
    unfold pP
    simp only [f115, f 116 (by omega) (by omega), e 23 (by omega) (by omega) (by omega), e 24 (by omega) (by omega) (by omega), e 25 (by omega) (by omega) (by omega), e 26 (by omega) (by omega) (by omega), em, eC, eU, m16, m17, b124]
    exact ⟨p1, p2, p3, p4, p5, p6, fun j hj => by obtain ⟨k, k1, k2, k3, k4, k5⟩ := p7 j hj; exact ⟨k, k1, k2, k3, by omega, k5⟩, p8, p9, p10, p11⟩
  · intro y hy
    rw [l0]
    by_cases z : y = s
    · subst z
      refine Or.inl ⟨by omega, a20, ?_⟩
      have em0 : mts v (8 + y) 0 = 0 := no_mt hW nl 0
      unfold eP
      rw [a34, a35, a36, a37, a38, a39, a21, a22, b119, b120, b121, b122, b123, b124, e3, em, em0, m40, m42]
      refine ⟨by omega, by omega, by simpa using h40, rfl, rfl, Or.inr (Or.inl ⟨rfl, rfl⟩), rfl, d2, by omega, by omega, by simp, rfl, rfl, by omega, fun q => absurd rfl q, fun k hk q => ?_⟩
      rw [m16] at q
      exact absurd q (row k ((eC k).mp hk))
    · have zz : 8 + y ≠ 8 + s := by omega
      have q : ∀ k, (k < 3 ∨ 6 < k) → v' k (8 + y) = v k (8 + y) := fun k a => e2 k _ a zz
      have p : ∀ k, 118 < k → k < 124 → w' k y = w k y := fun k a b => f2 k y a b z
      rw [q 20 (by omega)]
      rcases hE.1 y hy with ⟨a, b, p⟩ | a
      · refine Or.inl ⟨by omega, b, ?_⟩
        unfold eP at *
        simp only [q 34 (by omega), q 35 (by omega), q 36 (by omega), q 37 (by omega), q 38 (by omega), q 39 (by omega), q 21 (by omega), q 22 (by omega), m40, m42, e3, f2 119 y (by omega) (by omega) z, f2 120 y (by omega) (by omega) z, f2 121 y (by omega) (by omega) z, f2 122 y (by omega) (by omega) z, f2 123 y (by omega) (by omega) z, b124, em, eC, m16, m17]
        obtain ⟨p1, p2, p3, p4, p5, p6, p7, p8, p9, p10, p11⟩ := p
        exact ⟨p1, p2, p3, p4, p5, p6, p7, p8, by omega, by omega, p11⟩
      · exact Or.inr ⟨by omega, a.2⟩
  · rw [l0]
    intro y y' hy hy'
    have lo : ∀ j, j < s → v 38 (8 + j) ≤ v 3 0 ∧ w 122 j < w 124 0 := by
      intro j hj
      rcases hE.1 j (by omega) with ⟨_, _, p⟩ | ⟨q, _⟩
      · exact ⟨p.2.2.2.2.2.2.2.2.1, p.2.2.2.2.2.2.2.2.2.1⟩
      · omega
    have n38 : ∀ j, j < s → v' 38 (8 + j) = v 38 (8 + j) := fun j hj => e2 38 _ (by omega) (by omega)
    have n122 : ∀ j, j < s → w' 122 j = w 122 j := fun j hj => f2 122 j (by omega) (by omega) (by omega)
    by_cases z : y = s
    · by_cases z' : y' = s
      · subst z; subst z'
        constructor <;> (intro q; omega)
      · have := lo y' (by omega)
        rw [z, a38, b122, n38 y' (by omega), n122 y' (by omega)]
        constructor <;> (intro q; omega)
    · by_cases z' : y' = s
      · have := lo y (by omega)
        rw [z', a38, b122, n38 y (by omega), n122 y (by omega)]
        constructor <;> (intro q; omega)
      · rw [n38 y (by omega), n122 y (by omega), n38 y' (by omega), n122 y' (by omega)]
        exact hE.2.1 y y' (by omega) (by omega)
  · intro c hc
    rw [m40] at hc
    rw [l0, List.range_succ, List.filter_append, List.map_append]
    have ef : (List.range s).filter (fun j => decide (v' 34 (8 + j) = c)) = (List.range s).filter (fun j => decide (v 34 (8 + j) = c)) := List.filter_congr (fun j hj => by rw [i34 j (List.mem_range.mp hj)])
    rw [ef]
    have eo := hE.2.2 c hc
    rw [hs] at eo
    rw [← eo]
    by_cases z : c = n
    · subst z
      rw [g3]
      simp [a34]
    · rw [g300 c z]
      have : ¬ ((n : Int) = c) := by omega
      simp [a34, this]
  · intro i hi
    obtain ⟨p1, p2, p3, p4, p5, p6, p7, p8⟩ := hC.1 i hi
    have wl := (hW.1 i hi)
    unfold cP hasM
    rw [m10, m11, e 12 (by omega) (by omega) (by omega), e 13 (by omega) (by omega) (by omega), e 14 (by omega) (by omega) (by omega), m15, m16, m17, m18, f109, f 125 (by omega) (by omega), f 126 (by omega) (by omega), f 127 (by omega) (by omega), f 128 (by omega) (by omega), f 129 (by omega) (by omega), f 130 (by omega) (by omega), f 131 (by omega) (by omega), f 132 (by omega) (by omega), f 133 (by omega) (by omega), f 134 (by omega) (by omega), f 142 (by omega) (by omega)]
    refine ⟨p1, fun j hj hj2 => ?_, p3, p4, fun z => ?_, p6, p7, p8⟩
    · obtain ⟨a1, a2, a3, a4, a5, a6⟩ := p2 j hj hj2
      have y := ne _ ((wl.1.2 j (Nat.zero_le j)).2 a1)
      rw [q22 _ y]
      exact ⟨a1, a2, a3, a4, a5, a6⟩
    · have y := ne _ (wl.2.2.1 z).2.1
      rw [q22 _ y, q20 _ y]
      exact p5 z
  · intro t ht
    rw [f 132 (by omega) (by omega)]
    by_cases z : t = 8 + s
    · subst z
      rw [show 100 + (8 + s) = 108 + s by omega, g1]
      exact List.Pairwise.nil
    · have ht' := lv' t z ht
      rw [g100 t (WF_tg hW ht').1 z]
      exact hC.2 t ht'
  · intro c hc
    obtain ⟨z, hc'⟩ := c2 c hc
    rw [em, em, e2 32 c (by omega) z, e2 33 c (by omega) z]
    exact hM c hc'
  · intro k hk
    rw [L1] at hk
    have y := ne _ (hW.2.2.2.2.2.1.2 k hk).2.2
    have p := hT k hk
    unfold tP at *
    simp only [e 50 (by omega) (by omega) (by omega), e 51 (by omega) (by omega) (by omega), e 52 (by omega) (by omega) (by omega), e 53 (by omega) (by omega) (by omega), e 54 (by omega) (by omega) (by omega), e 55 (by omega) (by omega) (by omega), q22 _ y, f 136 (by omega) (by omega), f 137 (by omega) (by omega), f 138 (by omega) (by omega), f 139 (by omega) (by omega), f 140 (by omega) (by omega), f 141 (by omega) (by omega)]
    exact p
  · rw [e 7 (by omega) (by omega) (by omega), f 117 (by omega) (by omega)]; exact hX.1
  · intro c k hc k4 y
    rw [f115]
    rw [q20 c (by omega)] at y
    exact hX.2 c k hc k4 y
  · intro k hk
    obtain ⟨b1, b2, b3⟩ := hw.1 k ((eC k).mp hk)
    rw [m16, m17, e5, ownU_o b3]
    exact ⟨b1, b2, by omega⟩
  · intro c hc k k4 y
    rw [f115] at *
    obtain ⟨z, hc'⟩ := c1 c hc
    obtain ⟨b1, b2⟩ := hw.2.1 c hc' k k4 y
    rw [e5, ownU_o (by omega)]
    exact ⟨b1, by omega⟩
  · rw [l0]
    intro y hy
    rw [e5]
    by_cases z : y = s
    · subst z
      rw [a35, ownU_s]
      exact ⟨rfl, r1, by omega⟩
    · obtain ⟨b1, b2, b3⟩ := hw.2.2.1 y (by omega)
      rw [e2 35 (8 + y) (by omega) (by omega), ownU_o b3]
      exact ⟨b1, b2, by omega⟩
  · intro c hc y
    rw [f109] at y
    obtain ⟨z, hc'⟩ := c2 c hc
    obtain ⟨b1, b2, b3⟩ := hw.2.2.2 c hc' y
    rw [f110, e5, ownU_o b3]
    exact ⟨b1, b2, by omega⟩
  · unfold Rd
    rw [e5, e4, e3, b124, f 133 (by omega) (by omega)]
    omega
  · unfold pot
    have s1 : sm 32 (pt1 v') = sm 32 (pt1 v) - pt1 v (8 + s) + pt1 v' (8 + s) := sm_up 32 (by omega) (fun k _ hk => by
      unfold pt1
      rw [q20 k hk, e2 25 k (by omega) hk, e2 29 k (by omega) hk, e2 30 k (by omega) hk, e2 31 k (by omega) hk, e2 36 k (by omega) hk])
    have s2 : pt1 v (8 + s) = 0 := by
      unfold pt1
      rw [if_neg (by omega), if_neg (by omega), if_neg (by omega)]
    have s3 : pt1 v' (8 + s) = 2 := by
      unfold pt1
      rw [if_neg (by omega), if_neg (by omega), if_pos a20, if_neg (by omega), if_pos a36]
    rw [L1, pt2_f m11, pt3_f (e 53 (by omega) (by omega) (by omega)), e4, f 133 (by omega) (by omega)]
    omega
/-- a new task -/
theorem RS_tsk (h : RS own v L w) {k t : Nat} {m b : Int} (hk : (L 1).length = k) (k24 : k < 24) (ht : a_live5 v t) (hm : 0 ≤ m ∧ m < v 22 t) (hb : 0 ≤ b ∧ b ≤ 1) (hz : w 141 k = 0) (e : ∀ c, (c < 50 ∨ 55 < c) → v' c = v c) (e2 : ∀ c i, i ≠ k → v' c i = v c i) (a50 : v' 50 k = t) (a51 : v' 51 k = m) (a52 : v' 52 k = b) (a53 : v' 53 k = 1) (a54 : v' 54 k = 0) (a55 : v' 55 k = -1) (f : ∀ c, (c < 135 ∨ 140 < c ∨ c = 139) → w' c = w c) (f2 : ∀ c i, c ≠ 135 → i ≠ k → w' c i = w c i) (b135 : w' 135 0 = k + 1) (b136 : w' 136 k = 1) (b137 : w' 137 k = t) (b138 : w' 138 k = m) (b140 : w' 140 k = b) (g : ∀ l, l ≠ 1 → L' l = L l) (g1 : L' 1 = L 1 ++ [k]) : RS own v' L' w' ∧ pot v' L' w' ≤ pot v L w + 4 := by
  obtain ⟨hW, ⟨h0, hK, hN, hS, hO, hP, hE, hC, hM, hT, hX, hw⟩, hR, hD⟩ := h
  have l1 : (L' 1).length = k + 1 := by rw [g1]; simp [hk]
  have lv : ∀ t, a_live5 v t → a_live5 v' t := fun t ht => by unfold a_live5 at *; rw [e 20 (by omega)]; exact ht
  have lv' : ∀ t, a_live5 v' t → a_live5 v t := fun t ht => by unfold a_live5 at *; rw [e 20 (by omega)] at ht; exact ht
  refine ⟨⟨⟨?_, ?_, ?_, ?_, ?_, ⟨?_, ?_⟩, ?_⟩, ⟨?_, (Rk_c hK (fun c hc => e c (by simp only [List.mem_cons, List.not_mem_nil, or_false] at hc; omega)) (fun c hc => f c (by simp only [List.mem_cons, List.not_mem_nil, or_false] at hc; omega))), ?_, (Rs_c hS (fun c hc => e c (by simp only [List.mem_cons, List.not_mem_nil, or_false] at hc; omega)) (fun c hc => f c (by simp only [List.mem_cons, List.not_mem_nil, or_false] at hc; omega))), (Ro_c hO (fun c hc => e c (by simp only [List.mem_cons, List.not_mem_nil, or_false] at hc; omega)) (fun c hc => f c (by simp only [List.mem_cons, List.not_mem_nil, or_false] at hc; omega))), (Rp_c hP (fun c hc => e c (by simp only [List.mem_cons, List.not_mem_nil, or_false] at hc; omega)) (fun c hc => f c (by simp only [List.mem_cons, List.not_mem_nil, or_false] at hc; omega))), ?_, ⟨?_, ?_⟩, (Rm_c hM (fun c hc => e c (by simp only [List.mem_cons, List.not_mem_nil, or_false] at hc; omega))), ?_, (Rx_c hX (fun c hc => e c (by simp only [List.mem_cons, List.not_mem_nil, or_false] at hc; omega)) (fun c hc => f c (by simp only [List.mem_cons, List.not_mem_nil, or_false] at hc; omega))), ?_⟩, (Rl_c hR (fun c hc => e c (by simp only [List.mem_cons, List.not_mem_nil, or_false] at hc; omega)) (fun c hc => f c (by simp only [List.mem_cons, List.not_mem_nil, or_false] at hc; omega))), ?_⟩, ?_⟩
  · intro i hi
    obtain ⟨⟨q1, q2⟩, q3, q4, q5⟩ := hW.1 i hi
    unfold clOK rowOK
    rw [e 10 (by omega), e 11 (by omega), e 15 (by omega), e 16 (by omega), l1]
    exact ⟨⟨q1, fun j hj => ⟨(q2 j hj).1, fun z => lv _ ((q2 j hj).2 z)⟩⟩, by omega, fun z => ⟨(q4 z).1, lv _ (q4 z).2.1, (q4 z).2.2⟩, q5⟩
  · intro t ht
    rw [e 11 (by omega), g (100 + t) (by omega)]
    exact hW.2.1 t (lv' t ht)
  · exact WFt_c hW.2.2.1 (fun j => congrFun (e 20 (by omega)) j) (fun j => congrFun (e 21 (by omega)) j) (fun j hj => by rw [e 24 (by omega)]; exact WFt_p hW.2.2.1 hj)
  · intro t ht
    rw [e 20 (by omega)] at *
    rw [e 30 (by omega), e 28 (by omega), g (200 + t) (by omega)]
    exact hW.2.2.2.1 t ht
  · have q := hW.2.2.2.2.1
    unfold WFs stOK at *
    simp only [e 20 (by omega), e 34 (by omega), e 40 (by omega), e 41 (by omega), e 43 (by omega), g 0 (by omega), fun c => g (300 + c) (by omega)]
    exact q
  · omega
  · rw [l1]
    intro j hj
    by_cases z : j = k
    · subst z
      rw [a50, g1, List.getD_eq_getElem?_getD, List.getElem?_append_right (by omega), hk]
      refine ⟨by simp, by omega, lv _ ?_⟩
      rw [Int.toNat_natCast]
      exact ht
    · rw [e2 50 j z, g1]
      obtain ⟨q1, q2, q3⟩ := hW.2.2.2.2.2.1.2 j (by omega)
      refine ⟨?_, q2, lv _ q3⟩
      rw [List.getD_eq_getElem?_getD, List.getElem?_append_left (by omega), ← List.getD_eq_getElem?_getD]
      exact q1
  · rw [e 2 (by omega)]; exact hW.2.2.2.2.2.2
  · unfold R0 at *
    rw [l1, g 0 (by omega), e 0 (by omega), e 1 (by omega), e 2 (by omega), e 5 (by omega), b135, f 100 (by omega), f 101 (by omega), f 102 (by omega), f 118 (by omega), f 143 (by omega)]
    exact ⟨h0.1, h0.2.1, h0.2.2.1, h0.2.2.2.1, by omega, h0.2.2.2.2.2⟩
  · unfold Rn at *
    simp only [e 20 (by omega), f 107 (by omega), f 108 (by omega), fun c => g (200 + c) (by omega)]
    exact hN
  · unfold Re eP mts mt1 inC at *
    simp only [e 3 (by omega), e 10 (by omega), e 16 (by omega), e 17 (by omega), e 18 (by omega), e 20 (by omega), e 21 (by omega), e 22 (by omega), e 34 (by omega), e 35 (by omega), e 36 (by omega), e 37 (by omega), e 38 (by omega), e 39 (by omega), e 40 (by omega), e 42 (by omega), f 119 (by omega), f 120 (by omega), f 121 (by omega), f 122 (by omega), f 123 (by omega), f 124 (by omega), g 0 (by omega), fun c => g (300 + c) (by omega)]
    exact hE
  · intro i hi
    have q := hC.1 i hi
    unfold cP hasM at *
    rw [e 10 (by omega), e 11 (by omega), e 12 (by omega), e 13 (by omega), e 14 (by omega), e 15 (by omega), e 16 (by omega), e 17 (by omega), e 18 (by omega), e 20 (by omega), e 22 (by omega), f 109 (by omega), f 125 (by omega), f 126 (by omega), f 127 (by omega), f 128 (by omega), f 129 (by omega), f 130 (by omega), f 131 (by omega), f 132 (by omega), f 133 (by omega), f 134 (by omega), f 142 (by omega)]
    exact q
  · intro t ht
    rw [f 132 (by omega), g (100 + t) (by omega)]
    exact hC.2 t (lv' t ht)
  · rw [Rt, l1]
    intro j hj
    by_cases z : j = k
    · subst z
      unfold tP
      rw [a50, a51, a52, a53, a54, a55, b136, b137, b138, b140, f 141 (by omega), hz, e 22 (by omega), Int.toNat_natCast]
      exact ⟨rfl, by omega, by omega, rfl, rfl, rfl, rfl, fun q => by omega, by omega, by omega, hm.1, hm.2, hb.1, hb.2, by omega, by omega⟩
    · have q := hT j (by omega)
      unfold tP at *
      rw [e 22 (by omega), e2 50 j z, e2 51 j z, e2 52 j z, e2 53 j z, e2 54 j z, e2 55 j z, f2 136 j (by omega) z, f2 137 j (by omega) z, f2 138 j (by omega) z, f2 139 j (by omega) z, f2 140 j (by omega) z, f2 141 j (by omega) z]
      exact q
  · unfold Rw inC at *
    simp only [e 5 (by omega), e 10 (by omega), e 16 (by omega), e 17 (by omega), e 20 (by omega), e 35 (by omega), f 109 (by omega), f 110 (by omega), f 115 (by omega), g 0 (by omega)]
    exact hw
  · unfold Rd at *
    rw [e 5 (by omega), e 4 (by omega), e 3 (by omega), f 124 (by omega), f 133 (by omega)]
    exact hD
  · unfold pot
    have s1 : sm 24 (pt3 v' (k + 1)) = sm 24 (pt3 v k) - pt3 v k k + pt3 v' (k + 1) k := sm_up 24 k24 (fun j _ hj => by
      unfold pt3
      rw [e2 53 j hj]
      by_cases q : j < k ∧ v 53 j = 1
      · rw [if_pos q, if_pos ⟨by omega, q.2⟩]
      · rw [if_neg q, if_neg (fun y => q ⟨by omega, y.2⟩)])
    have s2 : pt3 v k k = 0 := by unfold pt3; rw [if_neg (by omega)]
    have s3 : pt3 v' (k + 1) k = 4 := by unfold pt3; rw [if_pos ⟨by omega, a53⟩]
    rw [l1, hk, pt2_f (e 11 (by omega)), e 4 (by omega), f 133 (by omega), pt1_f (e 20 (by omega)) (e 25 (by omega)) (e 29 (by omega)) (e 30 (by omega)) (e 31 (by omega)) (e 36 (by omega))]
    omega
end
