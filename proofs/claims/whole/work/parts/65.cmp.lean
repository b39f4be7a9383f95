/-! A new component: what it keeps of the relation. -/
section
variable {v v' w w' : SV} {L L' : SL} {own : Int → Nat}
theorem no_mt (hW : WF v L) {n : Nat} (hd : ¬ a_live5 v n) (l : Int) : mts v n l = 0 := by
  have e : sm 32 (mt1 v n l) = sm 32 (fun _ => 0) := sm_eq 32 (fun k hk => by
    unfold mt1
    rw [if_neg]
    rintro ⟨h1, h2, -⟩
    have q := ((hW.1 (k % 8) (by omega)).1.2 (k / 8) (by omega)).2
    have ek : k % 8 + 8 * (k / 8) = k := by omega
    rw [ek, h2] at q
    exact hd (by simpa using q (by omega)))
  unfold mts
  rw [e]
  rfl
theorem RS_cmp (h : RS own v L w) {n : Nat} (hn : v 1 0 = n) (hn8 : n < 8) (hz : w 108 n = 0 ∧ w 109 n = 0) (e1 : v' 1 0 = n + 1) (e : ∀ c, c ≠ 1 → (c < 20 ∨ 43 < c) → v' c = v c) (e2 : ∀ c i, c ≠ 1 → c ≠ 26 → i ≠ n → v' c i = v c i) (e26 : ∀ c j, c < 32 → c ≠ n → v' 26 (c + 32 * j) = v 26 (c + 32 * j)) (f1 : w' 102 0 = n + 1) (f : ∀ c, (c < 102 ∨ 106 < c) → w' c = w c) (f2 : ∀ c i, c ≠ 102 → i ≠ n → w' c i = w c i) (g : ∀ l, l ≠ 100 + n → l ≠ 200 + n → l ≠ 300 + n → L' l = L l) (g1 : L' (100 + n) = []) (g2 : L' (200 + n) = []) (g3 : L' (300 + n) = []) (hk : kP v' w' n ∧ v' 24 n = 0 ∧ v' 25 n = 0 ∨ kS v' w' n ∧ v' 29 n = 0 ∧ v' 30 n = 0 ∧ v' 31 n = -1 ∧ v' 32 n = 0 ∧ v' 33 n = 0 ∨ kF v' w' n) (h28 : v' 28 n = 0 ∨ v' 28 n = 1) (h5 : -1 ≤ w' 105 n ∧ w' 105 n ≤ 100) : RS own v' L' w' ∧ pot v' L' w' ≤ pot v L w + 2 := by
  obtain ⟨hW, ⟨h0, hK, hN, hS, hO, hP, hE, hC, hM, hT, hX, hw⟩, hR, hD⟩ := h
  have hd : v 20 n = 0 ∧ v 40 n = 0 := by
    rcases hK n hn8 with ⟨q, _⟩ | ⟨_, q⟩
    · omega
    · exact q
  have nl : ¬ a_live5 v n := by unfold a_live5; omega
  have ne : ∀ t, a_live5 v t → t ≠ n := fun t ht z => nl (z ▸ ht)
  have q20 : ∀ t, t ≠ n → v' 20 t = v 20 t := fun t ht => e2 20 t (by omega) (by omega) ht
  have q22 : ∀ t, t ≠ n → v' 22 t = v 22 t := fun t ht => e2 22 t (by omega) (by omega) ht
  have lv : ∀ t, a_live5 v t → a_live5 v' t := fun t ht => by
    unfold a_live5 at *; rw [q20 t (by intro z; subst z; omega)]; exact ht
  have lv' : ∀ t, t ≠ n → a_live5 v' t → a_live5 v t := fun t hn ht => by
    unfold a_live5 at *; rw [q20 t hn] at ht; exact ht
  have L0 : L' 0 = L 0 := g 0 (by omega) (by omega) (by omega)
  have L1 : L' 1 = L 1 := g 1 (by omega) (by omega) (by omega)
  have kn : (v' 20 n = 0 ∧ v' 40 n = 1 ∨ v' 20 n = 1 ∧ v' 40 n = 0 ∨ v' 20 n = 2 ∧ v' 40 n = 0) := by
    rcases hk with ⟨q, _⟩ | ⟨q, _⟩ | q
    · exact Or.inr (Or.inl ⟨q.1, q.2.1⟩)
    · exact Or.inr (Or.inr ⟨q.1, q.2.1⟩)
    · exact Or.inl ⟨q.1, q.2.1⟩
  have kp : v' 20 n = 1 → kP v' w' n ∧ v' 24 n = 0 ∧ v' 25 n = 0 := by
    intro z
    rcases hk with q | ⟨q, _⟩ | q
    · exact q
    · have := q.1; omega
    · have := q.1; omega
  have ks : v' 20 n = 2 → kS v' w' n ∧ v' 29 n = 0 ∧ v' 30 n = 0 ∧ v' 31 n = -1 ∧ v' 32 n = 0 ∧ v' 33 n = 0 := by
    intro z
    rcases hk with ⟨q, _⟩ | q | q
    · have := q.1; omega
    · exact q
    · have := q.1; omega
  have kf : v' 40 n = 1 → kF v' w' n := by
    intro z
    rcases hk with ⟨q, _⟩ | ⟨q, _⟩ | q
    · have := q.2.1; omega
    · have := q.2.1; omega
    · exact q
  have m10 := e 10 (by omega) (by omega)
  have m11 := e 11 (by omega) (by omega)
  have m15 := e 15 (by omega) (by omega)
  have m16 := e 16 (by omega) (by omega)
  have m17 := e 17 (by omega) (by omega)
  have m18 := e 18 (by omega) (by omega)
  have em : ∀ t l, mts v' t l = mts v t l := fun t l => mts_c m10 m16 m18 t l
  have eC : ∀ k, inC v' k ↔ inC v k := fun k => by unfold inC; rw [m10]
  have eU : ∀ x, usd v' x ↔ usd v x := fun x => by unfold usd inC; rw [m10, m17]
  have row : ∀ k, inC v k → v 16 k ≠ n := by
    intro k hk z
    have q := ((hW.1 (k % 8) (by omega)).1.2 (k / 8) (by have := hk.1; omega)).2
    have ek : k % 8 + 8 * (k / 8) = k := by omega
    rw [ek, z] at q
    exact nl (by simpa using q (by omega))
  have g100 : ∀ t, t < 32 → t ≠ n → L' (100 + t) = L (100 + t) := fun t h1 h2 => g _ (by omega) (by omega) (by omega)
  have g200 : ∀ t, t < 32 → t ≠ n → L' (200 + t) = L (200 + t) := fun t h1 h2 => g _ (by omega) (by omega) (by omega)
  have g300 : ∀ t, t ≠ n → L' (300 + t) = L (300 + t) := fun t h2 => g _ (by omega) (by omega) (by omega)
  have w115 : ∀ k, k < 4 → w 115 (4 * n + k) = 0 := fun k hk => hX.2 n k hn8 hk (by omega)
  have f115 := f 115 (by omega)
  have f109 := f 109 (by omega)
  have sg32 : ∀ c, v 20 c = 2 → c < 32 := fun c hc => (hW.2.2.2.1 c hc).1
  have c20 : ∀ c, v' 20 c = 2 → c ≠ n → v 20 c = 2 := fun c hc hn => by rw [← q20 c hn]; exact hc
  refine ⟨⟨⟨?_, ?_, ?_, ?_, ⟨?_, ?_, ?_⟩, ⟨?_, ?_⟩, ?_⟩, ⟨?_, ?_, ⟨?_, ?_⟩, ⟨?_, ?_, ?_⟩, ?_, ?_, ⟨?_, ?_, ?_⟩, ⟨?_, ?_⟩, ?_, ?_, ⟨?_, ?_⟩, ⟨?_, ?_, ?_, ?_⟩⟩, ?_, ?_⟩, ?_⟩
  · intro i hi
    obtain ⟨⟨q1, q2⟩, q3, q4, q5⟩ := hW.1 i hi
    unfold clOK rowOK
    rw [m10, m11, m15, m16, L1]
    exact ⟨⟨q1, fun j hj => ⟨(q2 j hj).1, fun z => lv _ ((q2 j hj).2 z)⟩⟩, q3, fun z => ⟨(q4 z).1, lv _ (q4 z).2.1, (q4 z).2.2⟩, q5⟩
  · intro t ht
    rw [m11]
    by_cases z : t = n
    · subst z
      rw [g1]
      refine ⟨List.nodup_nil, fun i => ⟨fun q => absurd q (List.not_mem_nil), fun q => ?_⟩⟩
      have q2 := ((hW.1 i q.1).2.2.1 (by rw [q.2]; omega)).2.1
      rw [q.2] at q2
      exact absurd (by simpa using q2) nl
    · have ht' := lv' t z ht
      rw [g100 t (WF_tg hW ht').1 z]
      exact hW.2.1 t ht'
  · intro t ht
    by_cases z : t = n
    · subst z
      rcases hk with ⟨q, q2, q3⟩ | ⟨q, -⟩ | q
      · exact ⟨⟨by omega, Or.inl q.1, fun _ => ⟨q.1, by omega, by omega, by omega⟩⟩, by have := q.2.2.2.2.1; omega⟩
      · exact ⟨⟨by omega, Or.inr (Or.inl q.1), fun z => absurd z (by have := q.1; omega)⟩, by have := q.2.2.2.2.2.1; omega⟩
      · exact absurd q.1 ht
    · rw [q20 t z] at ht
      obtain ⟨⟨a1, a2, a3⟩, a4⟩ := hW.2.2.1 t ht
      rw [e2 21 t (by omega) (by omega) z]
      refine ⟨⟨a1, lv _ a2, fun y => ?_⟩, a4⟩
      rw [q20 t z] at y
      obtain ⟨b1, b2, b3, b4⟩ := a3 y
      unfold poolOK
      rw [q20 t z, e2 24 t (by omega) (by omega) z]
      exact ⟨b1, b2, b3, b4⟩
  · intro t ht
    by_cases z : t = n
    · subst z
      rw [g2]
      have q := ks ht
      exact ⟨by omega, Or.inl q.2.2.1, h28, by simp, by simp⟩
    · have ht' := c20 t ht z
      obtain ⟨a1, a2, a3, a4, a5⟩ := hW.2.2.2.1 t ht'
      rw [e2 30 t (by omega) (by omega) z, e2 28 t (by omega) (by omega) z, g200 t a1 z]
      exact ⟨a1, a2, a3, a4, fun x hx => by rw [q20 x (fun y => by have := a5 x hx; subst y; omega)]; exact a5 x hx⟩
  · intro c hc
    by_cases z : c = n
    · subst z
      rcases kn with q | q | q
      · have k := kf q.2
        right
        unfold stOK
        rw [g3]
        exact ⟨⟨hn8, q.2, by simp, by simp⟩, by have := k.2.2.2.2.2.2.1; omega⟩
      · exact Or.inl q.2
      · exact Or.inl q.2
    · unfold stOK
      rw [e2 40 c (by omega) (by omega) z, e2 41 c (by omega) (by omega) z, g300 c z]
      rcases hW.2.2.2.2.1.1 c hc with q | ⟨⟨q1, q2, q3, q4⟩, q5⟩
      · exact Or.inl q
      · exact Or.inr ⟨⟨q1, q2, q3, fun x hx => by rw [q20 x (fun y => by have := q4 x hx; subst y; omega)]; exact q4 x hx⟩, q5⟩
  · rw [L0]; exact hW.2.2.2.2.1.2.1
  · rw [L0]
    intro j hj
    obtain ⟨a1, a2, a3, a4⟩ := hW.2.2.2.2.1.2.2 j hj
    have z : 8 + j ≠ n := by omega
    rw [q20 _ z, e2 34 _ (by omega) (by omega) z]
    have y : (v 34 (8 + j)).toNat ≠ n := fun y => by rw [y] at a3; omega
    rw [e2 40 _ (by omega) (by omega) y, e2 43 _ (by omega) (by omega) y]
    exact ⟨a1, a2, a3, a4⟩
  · rw [L1]; exact hW.2.2.2.2.2.1.1
  · rw [L1]
    intro k hk
    obtain ⟨a1, a2, a3⟩ := hW.2.2.2.2.2.1.2 k hk
    rw [e 50 (by omega) (by omega)]
    exact ⟨a1, a2, lv _ a3⟩
  · rw [e 2 (by omega) (by omega)]; exact hW.2.2.2.2.2.2
  · unfold R0 at *
    rw [L0, L1, e 0 (by omega) (by omega), e 2 (by omega) (by omega), e 5 (by omega) (by omega), e1, f1, f 100 (by omega), f 101 (by omega), f 118 (by omega), f 135 (by omega), f 143 (by omega)]
    refine ⟨h0.1, h0.2.1, rfl, h0.2.2.2.1, h0.2.2.2.2.1, h0.2.2.2.2.2.1, by omega, by omega, h0.2.2.2.2.2.2.2.2⟩
  · intro c hc
    rw [e1]
    by_cases z : c = n
    · subst z
      refine Or.inl ⟨by omega, ?_, h5⟩
      rcases hk with q | q | q
      · exact Or.inl q.1
      · exact Or.inr (Or.inl q.1)
      · exact Or.inr (Or.inr q)
    · have q : ∀ k, k ≠ 1 → k ≠ 26 → v' k c = v k c := fun k a b => e2 k c a b z
      have p : ∀ k, k ≠ 102 → w' k c = w k c := fun k a => f2 k c a z
      have r := hK c hc
      unfold kP kS kF at *
      rw [q 20 (by omega) (by omega), q 21 (by omega) (by omega), q 22 (by omega) (by omega), q 23 (by omega) (by omega), q 27 (by omega) (by omega), q 28 (by omega) (by omega), q 40 (by omega) (by omega), q 41 (by omega) (by omega), q 42 (by omega) (by omega), q 43 (by omega) (by omega), p 103 (by omega), p 104 (by omega), p 105 (by omega), p 106 (by omega)]
      rcases r with ⟨a, b⟩ | ⟨a, b⟩
      · exact Or.inl ⟨by omega, b⟩
      · exact Or.inr ⟨by omega, b⟩
  · intro c hc
    by_cases z : c = n
    · subst z
      rw [g2, f 108 (by omega)]
      exact ⟨hz.1, List.nodup_nil, fun k hk => absurd hk (by simp), by simp⟩
    · have hc' := c20 c hc z
      rw [g200 c (sg32 c hc') z, f 108 (by omega), f 107 (by omega)]
      exact hN.1 c hc'
  · obtain ⟨rk, r1, r2⟩ := hN.2
    refine ⟨rk, r1, fun c hc => ?_⟩
    by_cases z : c = n
    · subst z
      rw [g2]
      simp
    · have hc' := c20 c hc z
      rw [g200 c (sg32 c hc') z]
      exact r2 c hc'
  · intro c hc
    rw [f109]
    by_cases z : c = n
    · subst z
      have q := ks hc
      exact Or.inl ⟨q.2.1, q.2.2.1, hz.2⟩
    · rw [e2 29 c (by omega) (by omega) z, e2 30 c (by omega) (by omega) z]
      exact hS.1 c (c20 c hc z)
  · rw [e 0 (by omega) (by omega), f109, f 110 (by omega)]
    intro h3 c hc
    by_cases z : c = n
    · subst z
      exact ⟨fun y => by omega, fun _ => (ks hc).2.2.2.1⟩
    · rw [e2 31 c (by omega) (by omega) z]
      exact hS.2.1 h3 c (c20 c hc z)
  · rw [e 0 (by omega) (by omega)]
    intro h3 c hc
    by_cases z : c = n
    · subst z
      exact (ks hc).2.2.2.1
    · rw [e2 31 c (by omega) (by omega) z]
      exact hS.2.2 h3 c (c20 c hc z)
  · obtain ⟨ol, o1, o2, o3, o4, o5⟩ := hO
    refine ⟨ol, by rw [f 112 (by omega)]; exact o1, by rw [f 111 (by omega)]; exact o2, o3, fun c => ?_, by rw [f 110 (by omega)]; exact o5⟩
    rw [o4, f109]
    by_cases z : c = n
    · subst z
      constructor
      · rintro ⟨y, _⟩; omega
      · rintro ⟨_, y⟩; omega
    · rw [q20 c z]
  · intro c hc
    by_cases z : c = n
    · subst z
      obtain ⟨k, k1, k2⟩ := kp hc
      have em0 : mts v' c 0 = 0 := by rw [em]; exact no_mt hW nl 0
      have es : sm 4 (fun k => if 0 < w' 115 (4 * c + k) then (1 : Int) else 0) = 0 := by
        rw [f115]
        have := sm_eq (f := fun k => if 0 < w 115 (4 * c + k) then (1 : Int) else 0) (g := fun _ => 0) 4 (fun k hk => by rw [w115 k hk]; rfl)
        rw [this]; rfl
      refine ⟨hn8, fun k hk => by rw [f115, w115 k hk]; omega, by rw [es]; exact k2, by have := k.2.2.2.2.2.2.2; omega, by omega, by omega, fun k k' hk hk' y => ?_, fun j hj => by omega, fun k hk y => ?_, fun j j' _ hj => by omega, fun k hk y => ?_, fun k k' hk _ y => ?_⟩
      · rw [f115, w115 k hk] at y; omega
      · rw [f115, w115 k hk] at y; omega
      · rw [m16] at y; exact absurd y (row k ((eC k).mp hk))
      · rw [m16] at y; exact absurd y (row k ((eC k).mp hk))
    · rw [q20 c z] at hc
      obtain ⟨c8, p⟩ := hP c hc
      refine ⟨c8, ?_⟩
      have q26 : ∀ j, v' 26 (c + 32 * j) = v 26 (c + 32 * j) := fun j => e26 c j (by omega) z
      unfold pP at *
      simp only [f115, f 116 (by omega), f 124 (by omega), e2 25 c (by omega) (by omega) z, e2 24 c (by omega) (by omega) z, e2 23 c (by omega) (by omega) z, q26, em, eC, eU, m16, m17]
      exact p
  · rw [L0]
    intro s hs
    have z : 8 + s ≠ n := by omega
    have q : ∀ k, k ≠ 1 → k ≠ 26 → v' k (8 + s) = v k (8 + s) := fun k a b => e2 k _ a b z
    rw [q 20 (by omega) (by omega)]
    rcases hE.1 s hs with ⟨a, b, p⟩ | a
    · refine Or.inl ⟨a, b, ?_⟩
      have y : (v 34 (8 + s)).toNat ≠ n := fun y => by have := p.2.2.1; rw [y] at this; omega
      unfold eP at *
      simp only [q 34 (by omega) (by omega), q 35 (by omega) (by omega), q 36 (by omega) (by omega), q 37 (by omega) (by omega), q 38 (by omega) (by omega), q 39 (by omega) (by omega), q 21 (by omega) (by omega), q 22 (by omega) (by omega), e2 40 _ (by omega) (by omega) y, e2 42 _ (by omega) (by omega) y, e 3 (by omega) (by omega), f 119 (by omega), f 120 (by omega), f 121 (by omega), f 122 (by omega), f 123 (by omega), f 124 (by omega), em, eC, m16, m17]
      exact p
    · exact Or.inr a
  · rw [L0]
    intro s s' hs hs'
    rw [e2 38 (8 + s) (by omega) (by omega) (by omega), e2 38 (8 + s') (by omega) (by omega) (by omega), f 122 (by omega)]
    exact hE.2.1 s s' hs hs'
  · rw [L0]
    intro c hc
    have e34 : ∀ s, v' 34 (8 + s) = v 34 (8 + s) := fun s => e2 34 _ (by omega) (by omega) (by omega)
    simp only [e34]
    by_cases z : c = n
    · subst z
      rw [g3]
      symm
      rw [List.map_eq_nil_iff, List.filter_eq_nil_iff]
      intro s hs y
      have y : v 34 (8 + s) = c := by simpa using y
      have q := (hW.2.2.2.2.1.2.2 s (by simpa using hs)).2.2.1
      rw [y] at q
      simp at q
      omega
    · rw [g300 c z]
      rw [e2 40 c (by omega) (by omega) z] at hc
      exact hE.2.2 c hc
  · intro i hi
    obtain ⟨p1, p2, p3, p4, p5, p6, p7, p8⟩ := hC.1 i hi
    have wl := (hW.1 i hi)
    unfold cP hasM
    rw [m10, m11, e 12 (by omega) (by omega), e 13 (by omega) (by omega), e 14 (by omega) (by omega), m15, m16, m17, m18, f109, f 125 (by omega), f 126 (by omega), f 127 (by omega), f 128 (by omega), f 129 (by omega), f 130 (by omega), f 131 (by omega), f 132 (by omega), f 133 (by omega), f 134 (by omega), f 142 (by omega)]
    refine ⟨p1, fun j hj hj2 => ?_, p3, p4, fun z => ?_, p6, p7, p8⟩
    · obtain ⟨a1, a2, a3, a4, a5, a6⟩ := p2 j hj hj2
      have y := ne _ ((wl.1.2 j (Nat.zero_le j)).2 a1)
      rw [q22 _ y]
      exact ⟨a1, a2, a3, a4, a5, a6⟩
    · have y := ne _ (wl.2.2.1 z).2.1
      rw [q22 _ y, q20 _ y]
      exact p5 z
  · intro t ht
    rw [f 132 (by omega)]
    by_cases z : t = n
    · subst z
      rw [g1]
      exact List.Pairwise.nil
    · have ht' := lv' t z ht
      rw [g100 t (WF_tg hW ht').1 z]
      exact hC.2 t ht'
  · intro c hc
    rw [em, em]
    by_cases z : c = n
    · subst z
      rw [no_mt hW nl, no_mt hW nl]
      exact ⟨(ks hc).2.2.2.2.1, (ks hc).2.2.2.2.2⟩
    · rw [e2 32 c (by omega) (by omega) z, e2 33 c (by omega) (by omega) z]
      exact hM c (c20 c hc z)
  · intro k hk
    rw [L1] at hk
    have y := ne _ (hW.2.2.2.2.2.1.2 k hk).2.2
    have p := hT k hk
    unfold tP at *
    simp only [e 50 (by omega) (by omega), e 51 (by omega) (by omega), e 52 (by omega) (by omega), e 53 (by omega) (by omega), e 54 (by omega) (by omega), e 55 (by omega) (by omega), q22 _ y, f 136 (by omega), f 137 (by omega), f 138 (by omega), f 139 (by omega), f 140 (by omega), f 141 (by omega)]
    exact p
  · rw [e 7 (by omega) (by omega), f 117 (by omega)]; exact hX.1
  · intro c k hc k4 y
    rw [f115]
    by_cases z : c = n
    · subst z; exact w115 k k4
    · rw [q20 c z] at y; exact hX.2 c k hc k4 y
  · intro k hk
    rw [m16, m17, e 5 (by omega) (by omega)]
    exact hw.1 k ((eC k).mp hk)
  · intro c hc k k4 y
    rw [f115] at *
    rw [e 5 (by omega) (by omega)]
    by_cases z : c = n
    · subst z; rw [w115 k k4] at y; omega
    · rw [q20 c z] at hc; exact hw.2.1 c hc k k4 y
  · rw [L0]
    intro s hs
    rw [e2 35 (8 + s) (by omega) (by omega) (by omega), e 5 (by omega) (by omega)]
    exact hw.2.2.1 s hs
  · intro c hc y
    rw [f109] at y
    rw [f 110 (by omega), e 5 (by omega) (by omega)]
    by_cases z : c = n
    · subst z; omega
    · exact hw.2.2.2 c (c20 c hc z) y
  · exact Rl_c hR (fun c hc => e c (by simp only [List.mem_cons, List.not_mem_nil, or_false] at hc; omega) (by simp only [List.mem_cons, List.not_mem_nil, or_false] at hc; omega)) (fun c hc => f c (by simp only [List.mem_cons, List.not_mem_nil, or_false] at hc; omega))
  · unfold Rd at *
    rw [e 5 (by omega) (by omega), e 4 (by omega) (by omega), e 3 (by omega) (by omega), f 124 (by omega), f 133 (by omega)]
    exact hD
  · unfold pot
    have s1 : sm 32 (pt1 v') = sm 32 (pt1 v) - pt1 v n + pt1 v' n := sm_up 32 (by omega) (fun k _ hk => by
      unfold pt1
      rw [q20 k hk, e2 25 k (by omega) (by omega) hk, e2 29 k (by omega) (by omega) hk, e2 30 k (by omega) (by omega) hk, e2 31 k (by omega) (by omega) hk, e2 36 k (by omega) (by omega) hk])
    have s2 : pt1 v n = 0 := by
      unfold pt1
      rw [if_neg (by omega), if_neg (by omega), if_neg (by omega)]
    have s3 : pt1 v' n ≤ 2 := by
      unfold pt1
      by_cases z1 : v' 20 n = 1
      · rw [if_pos z1, (kp z1).2.2]; omega
      · rw [if_neg z1]
        by_cases z2 : v' 20 n = 2
        · rw [if_pos z2, if_pos (ks z2).2.1, if_pos (ks z2).2.2.1]; omega
        · rw [if_neg z2, if_neg (by omega)]; omega
    rw [L1, pt2_f m11, pt3_f (e 53 (by omega) (by omega)), e 4 (by omega) (by omega), f 133 (by omega)]
    omega
end
