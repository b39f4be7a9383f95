/-! A method begins: what changes, whatever the target is. -/
section
variable {v v' w w' : SV} {L L' : SL} {own : Int → Nat}
def isPush (v v' : SV) (i t : Nat) (x m : Int) : Prop := (∀ j, v' 10 j = if j = i then v 10 i + 1 else v 10 j) ∧ (∀ k, v' 16 k = if k = i + 8 * (v 10 i).toNat then (t : Int) else v 16 k) ∧ (∀ k, v' 17 k = if k = i + 8 * (v 10 i).toNat then x else v 17 k) ∧ (∀ k, v' 18 k = if k = i + 8 * (v 10 i).toNat then m else v 18 k)
def isPushR (w w' : SV) (i t : Nat) (x m : Int) : Prop := (∀ j, w' 125 j = if j = i then w 125 i + 1 else w 125 j) ∧ (∀ k, w' 126 k = if k = 4 * i + (w 125 i).toNat then (t : Int) else w 126 k) ∧ (∀ k, w' 127 k = if k = 4 * i + (w 125 i).toNat then x else w 127 k) ∧ (∀ k, w' 128 k = if k = 4 * i + (w 125 i).toNat then m else w 128 k)
theorem push_inC {i t : Nat} {x m : Int} (h : isPush v v' i t x m) (hi : i < 8) (hd : 0 ≤ v 10 i ∧ v 10 i < 4) (k : Nat) : inC v' k ↔ inC v k ∨ k = i + 8 * (v 10 i).toNat := by
  unfold inC
  rw [h.1]
  by_cases z : k % 8 = i
  · rw [if_pos z, z]; omega
  · rw [if_neg z]; omega
theorem inC_new {i : Nat} (hd : 0 ≤ v 10 i) (hi : i < 8) : ¬ inC v (i + 8 * (v 10 i).toNat) := by
  unfold inC
  have e : (i + 8 * (v 10 i).toNat) % 8 = i := by omega
  rw [e]
  omega
theorem push_mts {i t : Nat} {x m : Int} (h : isPush v v' i t x m) (hi : i < 8) (hd : 0 ≤ v 10 i ∧ v 10 i < 4) (s : Nat) (l : Int) : mts v' s l = mts v s l + (if t = s ∧ l ≤ m then 1 else 0) := by
  obtain ⟨h1, h2, h3, h4⟩ := h
  have e : (i + 8 * (v 10 i).toNat) % 8 = i := by omega
  have e2 : (i + 8 * (v 10 i).toNat) / 8 = (v 10 i).toNat := by omega
  unfold mts
  rw [sm_up (f := mt1 v s l) (a := i + 8 * (v 10 i).toNat) 32 (by omega) (fun k hk hne => ?_)]
  · have a1 : mt1 v s l (i + 8 * (v 10 i).toNat) = 0 := by
      unfold mt1
      rw [e, e2, if_neg (by omega)]
    have a2 : mt1 v' s l (i + 8 * (v 10 i).toNat) = if t = s ∧ l ≤ m then 1 else 0 := by
      unfold mt1
      rw [e, e2, h1, if_pos rfl, h2, if_pos rfl, h4, if_pos rfl]
      by_cases z : t = s ∧ l ≤ m
      · rw [if_pos z, if_pos (by omega)]
      · rw [if_neg z, if_neg (by omega)]
    rw [a1, a2]
    omega
  · unfold mt1
    rw [h2, h4, if_neg hne, if_neg hne, h1]
    by_cases z : k % 8 = i
    · rw [if_pos z, z]
      by_cases z2 : ((k / 8 : Nat) : Int) < v 10 i ∧ v 16 k = s ∧ l ≤ v 18 k
      · rw [if_pos z2, if_pos (by omega)]
      · rw [if_neg z2, if_neg (by omega)]
    · rw [if_neg z]
theorem push_usd {i t : Nat} {x m : Int} (h : isPush v v' i t x m) (hi : i < 8) (hd : 0 ≤ v 10 i ∧ v 10 i < 4) (y : Int) : usd v' y ↔ usd v y ∨ y = x := by
  unfold usd
  constructor
  · rintro ⟨k, hk, e⟩
    rw [push_inC h hi hd] at hk
    rw [h.2.2.1] at e
    by_cases z : k = i + 8 * (v 10 i).toNat
    · rw [if_pos z] at e; exact Or.inr e.symm
    · rw [if_neg z] at e; exact Or.inl ⟨k, hk.resolve_right z, e⟩
  · rintro (⟨k, hk, e⟩ | e)
    · refine ⟨k, (push_inC h hi hd k).mpr (Or.inl hk), ?_⟩
      rw [h.2.2.1, if_neg (fun (z : k = i + 8 * (v 10 i).toNat) => inC_new hd.1 hi (z ▸ hk))]
      exact e
    · refine ⟨i + 8 * (v 10 i).toNat, (push_inC h hi hd _).mpr (Or.inr rfl), ?_⟩
      rw [h.2.2.1, if_pos rfl, e]
theorem push_cP {i t : Nat} {x m : Int} (h : isPush v v' i t x m) (h' : isPushR w w' i t x m) (hi : i < 8) (hd : 0 ≤ v 10 i ∧ v 10 i < 4) (hl : v 11 i < 0) (hm : 0 ≤ m ∧ m < v 22 t) (e : ∀ c, c ∈ ([11, 12, 13, 14, 15, 20, 22] : List Nat) → v' c = v c) (f : ∀ c, c ∈ ([109, 129, 130, 131, 132, 133, 134, 142] : List Nat) → w' c = w c) (hc : ∀ j, j < 8 → cP v w j) : ∀ j, j < 8 → cP v' w' j := by
  intro j hj
  obtain ⟨p1, p2, p3, p4, p5, p6, p7, p8⟩ := hc j hj
  have q1 := (hc i hi).1
  obtain ⟨h1, h2, h3, h4⟩ := h
  obtain ⟨g1, g2, g3, g4⟩ := h'
  rw [q1] at g1 g2 g3 g4
  unfold cP
  rw [e 11 (by simp), e 12 (by simp), e 13 (by simp), e 14 (by simp), e 15 (by simp), e 20 (by simp), e 22 (by simp), f 109 (by simp), f 129 (by simp), f 130 (by simp), f 131 (by simp), f 132 (by simp), f 133 (by simp), f 134 (by simp), f 142 (by simp)]
  refine ⟨?_, fun k hk hk2 => ?_, p3, p4, fun y => ?_, p6, p7, p8⟩
  rotate_left 2
  · obtain ⟨y1, y2, y3, y4, y5, y6, y7, y8⟩ := p5 y
    refine ⟨y1, y2, y3, y4, y5, y6, fun y9 y10 => y7 y9 ?_, y8⟩
    obtain ⟨q, r1, r2⟩ := y10
    have ji : j ≠ i := fun z => by subst z; omega
    rw [h1, if_neg ji] at r1
    rw [h2, if_neg (by omega)] at r2
    exact ⟨q, r1, r2⟩
  · rw [g1, h1, p1]
  · rw [h1] at hk2
    rw [h2, h3, h4, g2, g3, g4]
    by_cases z : j + 8 * k = i + 8 * (v 10 i).toNat
    · have z2 : 4 * j + k = 4 * i + (v 10 i).toNat := by omega
      simp only [z, z2, if_true]
      refine ⟨by omega, by trivial, by trivial, by trivial, hm.1, ?_⟩
      rw [Int.toNat_natCast]; exact hm.2
    · have z2 : ¬ 4 * j + k = 4 * i + (v 10 i).toNat := by omega
      simp only [z, z2, if_false]
      refine p2 k hk ?_
      by_cases z3 : j = i
      · subst z3
        rw [if_pos rfl] at hk2
        omega
      · rw [if_neg z3] at hk2; exact hk2
theorem push_own {i t : Nat} {x m : Int} (h : isPush v v' i t x m) (hi : i < 8) (hd : 0 ≤ v 10 i ∧ v 10 i < 4) {own' : Int → Nat} {n n' : Int} (hn : n ≤ n') (ho : ∀ y, 0 ≤ y → y < n → own' y = own y) (hx : own' x = t ∧ 0 ≤ x ∧ x < n') (hw : ∀ k, inC v k → v 16 k = own (v 17 k) ∧ 0 ≤ v 17 k ∧ v 17 k < n) : ∀ k, inC v' k → v' 16 k = own' (v' 17 k) ∧ 0 ≤ v' 17 k ∧ v' 17 k < n' := by
  intro k hk
  rw [push_inC h hi hd] at hk
  rw [h.2.1, h.2.2.1]
  by_cases z : k = i + 8 * (v 10 i).toNat
  · simp only [z, if_true]
    exact ⟨by rw [hx.1], hx.2⟩
  · simp only [z, if_false]
    obtain ⟨a, b, c⟩ := hw k (hk.resolve_right z)
    exact ⟨by rw [ho _ b c]; exact a, b, by omega⟩
/-- another pool -/
theorem push_pP {i t c : Nat} {x m : Int} (h : isPush v v' i t x m) (hi : i < 8) (hd : 0 ≤ v 10 i ∧ v 10 i < 4) (hp : pP v w c) (hct : t ≠ c) (hx : ∀ k, k < 4 → ¬ w 115 (4 * c + k) = x + 1) (e23 : v' 23 c = v 23 c) (e24 : v' 24 c = v 24 c) (e25 : v' 25 c = v 25 c) (e26 : ∀ j, v' 26 (c + 32 * j) = v 26 (c + 32 * j)) (f115 : ∀ k, k < 4 → w' 115 (4 * c + k) = w 115 (4 * c + k)) (f116 : ∀ k, k < 4 → w' 116 (4 * c + k) = w 116 (4 * c + k)) (f124 : w' 124 0 = w 124 0) : pP v' w' c := by
  obtain ⟨p1, p2, p3, p4, p5, p6, p7, p8, p9, p10, p11⟩ := hp
  unfold pP
  rw [e23, e24, e25, f124, push_mts h hi hd, if_neg (by omega), Int.add_zero]
  have new : ∀ k, inC v' k → v' 16 k = c → inC v k ∧ v 16 k = c ∧ v' 17 k = v 17 k := by
    intro k h1 h2
    rw [push_inC h hi hd] at h1
    rw [h.2.1] at h2
    rw [h.2.2.1]
    by_cases z : k = i + 8 * (v 10 i).toNat
    · rw [if_pos z] at h2; omega
    · rw [if_neg z] at h2
      exact ⟨h1.resolve_right z, h2, if_neg z⟩
  refine ⟨fun k hk => by rw [f115 k hk]; exact p1 k hk, ?_, p3, p4, p5, fun k k' hk hk' => by rw [f115 k hk, f115 k' hk']; exact p6 k k' hk hk', fun j hj => ?_, fun k hk h0 hu => ?_, fun j j' hjj hj' k k' hk hk' => ?_, fun k h1 h2 => ?_, fun k k' h1 h1' h2 h2' h3 => ?_⟩
  · rw [p2]
    exact sm_eq 4 (fun k hk => by rw [f115 k hk])
  · obtain ⟨k, k1, k0, k2, k3, k4⟩ := p7 j hj
    refine ⟨k, k1, ?_, ?_, ?_, ?_⟩
    · rw [f115 k k1]; exact k0
    · rw [f115 k k1, e26]; exact k2
    · rw [f116 k k1]; exact k3
    · rw [push_usd h hi hd, e26]
      rintro (z | z)
      · exact k4 z
      · exact hx k k1 (by rw [k2, z])
  · rw [f115 k hk] at h0 hu ⊢
    obtain ⟨j, j1, j2⟩ := p8 k hk h0 (fun z => hu ((push_usd h hi hd _).mpr (Or.inl z)))
    exact ⟨j, j1, by rw [e26]; exact j2⟩
  · rw [f115 k hk, f115 k' hk', f116 k hk, f116 k' hk', e26, e26]
    exact p9 j j' hjj hj' k k' hk hk'
  · obtain ⟨a, b, d⟩ := new k h1 h2
    obtain ⟨q, q1, q2⟩ := p10 k a b
    exact ⟨q, q1, by rw [f115 q q1, d]; exact q2⟩
  · obtain ⟨a, b, d⟩ := new k h1 h2
    obtain ⟨a', b', d'⟩ := new k' h1' h2'
    rw [d, d'] at h3
    exact p11 k k' a a' b b' h3
theorem push_Re {i t : Nat} {x m : Int} (h : isPush v v' i t x m) (hi : i < 8) (hd : 0 ≤ v 10 i ∧ v 10 i < 4) (he : Re v L w) (e : ∀ c, c ∈ ([3, 20, 21, 22, 34, 35, 38, 39, 40, 42] : List Nat) → v' c = v c) (f : ∀ c, c ∈ ([119, 120, 122, 123, 124] : List Nat) → w' c = w c) (hE : ∀ s, 8 + s ≠ t → v' 36 (8 + s) = v 36 (8 + s) ∧ v' 37 (8 + s) = v 37 (8 + s) ∧ w' 121 s = w 121 s) (hT : ∀ s, s < (L 0).length → 8 + s = t → eP v w s → eP v' w' s) : Re v' L w' := by
  obtain ⟨h1, h2, h3⟩ := he
  unfold Re
  rw [e 20 (by simp), e 38 (by simp), e 40 (by simp), e 34 (by simp), f 122 (by simp)]
  refine ⟨fun s hs => ?_, h2, h3⟩
  rcases h1 s hs with ⟨a, b, c⟩ | a
  · refine Or.inl ⟨a, b, ?_⟩
    by_cases z : 8 + s = t
    · exact hT s a z c
    · obtain ⟨z1, z2, z3⟩ := hE s z
      have z4 := push_mts h hi hd (8 + s) 0
      rw [if_neg (by omega), Int.add_zero] at z4
      obtain ⟨c1, c2, c3, c4, c5, c6, c7, c8, c9, c10, c11, c12, c13, c14, c15, c16⟩ := c
      unfold eP
      rw [e 3 (by simp), e 21 (by simp), e 22 (by simp), e 34 (by simp), e 35 (by simp), e 38 (by simp), e 39 (by simp), e 40 (by simp), e 42 (by simp), f 119 (by simp), f 120 (by simp), f 122 (by simp), f 123 (by simp), f 124 (by simp), z1, z2, z3, z4]
      refine ⟨c1, c2, c3, c4, c5, c6, c7, c8, c9, c10, c11, c12, c13, c14, c15, fun k k1 k2 => ?_⟩
      rw [push_inC h hi hd] at k1
      rw [h.2.1] at k2
      rw [h.2.2.1]
      by_cases y : k = i + 8 * (v 10 i).toNat
      · rw [if_pos y] at k2; omega
      · rw [if_neg y] at k2 ⊢
        exact c16 k (k1.resolve_right y) k2
  · exact Or.inr a
-- the reference's own: which component, which kind
def cmp (w : SV) (t : Nat) : Nat := if t < 8 then t else (w 119 (t - 8)).toNat
def kd (w : SV) (t : Nat) : Int := w 103 (cmp w t)
theorem kd_e (h : RA own v L w) {t : Nat} (ht2 : t < 32) (ht : a_live5 v t) : kd w t = (if v 20 t = 1 then 0 else if v 20 t = 2 then 2 else 1) ∧ w 105 (cmp w t) = v 21 t ∧ cmp w t < 8 ∧ (v 20 t = 3 ↔ 8 ≤ t) := by
  obtain ⟨h0, hk, hn, hs, ho, hp, he, hc, hm, ht', hx, hw⟩ := h
  unfold kd
  by_cases z : t < 8
  · have e : cmp w t = t := if_pos z
    rw [e]
    rcases hk t z with ⟨a, b | b | b, d⟩ | a
    · rw [b.1]; exact ⟨b.2.2.1, b.2.2.2.2.1, z, by omega⟩
    · rw [b.1]; exact ⟨b.2.2.1, b.2.2.2.2.2.1, z, by omega⟩
    · have := b.1; rcases ht with q | q | q <;> omega
    · have := a.2.1; rcases ht with q | q | q <;> omega
  · obtain ⟨s, rfl⟩ : ∃ s, t = 8 + s := ⟨t - 8, by omega⟩
    have e : cmp w (8 + s) = (w 119 s).toNat := by
      unfold cmp
      rw [if_neg z, show 8 + s - 8 = s by omega]
    rcases he.1 s (by omega) with ⟨a, b, c⟩ | a
    · obtain ⟨c1, c2, c3, c4, c5, c6, c7, c8, c9, c10, c11, c12⟩ := c
      rw [e, b, c4]
      rcases hk (v 34 (8 + s)).toNat (by omega) with ⟨_, d | d | d, _⟩ | d
      · have := d.2.1; omega
      · have := d.2.1; omega
      · exact ⟨d.2.2.1, by rw [d.2.2.2.2.1, c11], by omega, by omega⟩
      · have := d.2.2; omega
    · have := a.2; rcases ht with q | q | q <;> omega
-- methods begin: the reference's row
def r_push (w : SV) (i t : Nat) (x m : Int) : SV := up2 (up2 (up2 (up2 w 126 (4 * i + (w 125 i).toNat) t) 127 (4 * i + (w 125 i).toNat) x) 128 (4 * i + (w 125 i).toNat) m) 125 i (w 125 i + 1)
theorem r_push_c {i t : Nat} {x m : Int} {c : Nat} (h : c ≠ 125 ∧ c ≠ 126 ∧ c ≠ 127 ∧ c ≠ 128) : r_push w i t x m c = w c := by
  funext j
  unfold r_push
  rw [up2_c h.1, up2_c h.2.2.2, up2_c h.2.2.1, up2_c h.2.1]
theorem isPush_m {i t : Nat} {x m : Int} : isPush v (m_push v i t x m) i t x m := by
  unfold isPush m_push up2
  refine ⟨fun j => ?_, fun j => ?_, fun j => ?_, fun j => ?_⟩ <;> simp
theorem isPush_r {i t : Nat} {x m : Int} : isPushR w (r_push w i t x m) i t x m := by
  unfold isPushR r_push up2
  refine ⟨fun j => ?_, fun j => ?_, fun j => ?_, fun j => ?_⟩ <;> simp
theorem isPush_e {v1 v2 : SV} {i t : Nat} {x m : Int} (h : isPush v1 v2 i t x m) (e1 : ∀ c, c ∈ ([10, 16, 17, 18] : List Nat) → v1 c = v c) (e2 : ∀ c, c ∈ ([10, 16, 17, 18] : List Nat) → v' c = v2 c) : isPush v v' i t x m := by
  unfold isPush at *
  rw [e2 10 (by simp), e2 16 (by simp), e2 17 (by simp), e2 18 (by simp), ← e1 10 (by simp), ← e1 16 (by simp), ← e1 17 (by simp), ← e1 18 (by simp)]
  exact h
theorem isPush_re {v1 v2 : SV} {i t : Nat} {x m : Int} (h : isPushR v1 v2 i t x m) (e1 : ∀ c, c ∈ ([125, 126, 127, 128] : List Nat) → v1 c = w c) (e2 : ∀ c, c ∈ ([125, 126, 127, 128] : List Nat) → w' c = v2 c) : isPushR w w' i t x m := by
  unfold isPushR at *
  rw [e2 125 (by simp), e2 126 (by simp), e2 127 (by simp), e2 128 (by simp), ← e1 125 (by simp), ← e1 126 (by simp), ← e1 127 (by simp), ← e1 128 (by simp)]
  exact h
theorem m_tv_f {t c : Nat} {m : Int} (h : c ≠ 4 ∧ c ≠ 5 ∧ c ≠ 6 ∧ c ≠ 24 ∧ c ≠ 25 ∧ c ≠ 32 ∧ c ≠ 33 ∧ c ≠ 36 ∧ c ≠ 37) : m_tv v t m c = v c := funext fun i => m_tv_c h
theorem isPush_enter {i t : Nat} {m : Int} : isPush v (m_enter v i t m) i t (m_ti v t) m := by
  refine isPush_e (isPush_m (v := m_tv v t m)) (fun c hc => ?_) (fun c hc => ?_)
  · refine m_tv_f ?_
    simp only [List.mem_cons, List.not_mem_nil, or_false] at hc
    omega
  · refine m_note_f ?_
    simp only [List.mem_cons, List.not_mem_nil, or_false] at hc
    omega
/-- the reference's steps at an entering, the instance given -/
def r_ent (w : SV) (i t : Nat) (x m : Int) : SV := r_note (r_push w i t x m) 7 ((i : Int) + 1) x
theorem r_ent_c {i t : Nat} {x m : Int} {c : Nat} (h : c ≠ 125 ∧ c ≠ 126 ∧ c ≠ 127 ∧ c ≠ 128 ∧ c ≠ 144 ∧ c ≠ 145) : r_ent w i t x m c = w c := (r_note_c (by omega)).trans (r_push_c (by omega))
theorem isPush_ent {i t : Nat} {x m : Int} : isPushR w (r_ent w i t x m) i t x m := by
  refine isPush_re isPush_r (fun c hc => rfl) (fun c hc => ?_)
  refine r_note_c ?_
  simp only [List.mem_cons, List.not_mem_nil, or_false] at hc
  omega
theorem RA_enter2 (hW : WF v L) (h : RA own v L w) {i t : Nat} (hi : i < 8) (ht : v 20 t = 2) (hb : w 109 t = 1) (h3 : ¬ v 0 0 = 3) (hd : 0 ≤ v 10 i ∧ v 10 i < 4) (hl : v 11 i < 0) {m : Int} (hm : 0 ≤ m ∧ m < v 22 t) (hm2 : v 22 t = 2) : RA own (m_enter v i t m) L (r_ent w i t (w 110 t) m) := by
  have P := isPush_enter (v := v) (i := i) (t := t) (m := m)
  have e : ∀ c, (c ≠ 4 ∧ c ≠ 6 ∧ c ≠ 10 ∧ c ≠ 16 ∧ c ≠ 17 ∧ c ≠ 18 ∧ c ≠ 32 ∧ c ≠ 33) → m_enter v i t m c = v c := by
    intro c hc
    have e1 : m_tv v t m c = v c := by
      funext j
      unfold m_tv
      rw [cif_f (by omega), cif_t ht]
      unfold cif
      split
      · rw [up2_c (by omega), up2_c (by omega)]
      · rw [up2_c (by omega)]
    exact (m_note_f (by omega)).trans ((funext fun j => m_push_c (by omega)).trans e1)
  have f : ∀ c, (c ≠ 125 ∧ c ≠ 126 ∧ c ≠ 127 ∧ c ≠ 128 ∧ c ≠ 144 ∧ c ≠ 145) → r_ent w i t (w 110 t) m c = w c := fun c hc => r_ent_c hc
  have g : ∀ l, l < 100 ∨ 200 ≤ l → L l = L l := fun _ _ => rfl
  obtain ⟨h0, hk, hn, hs, ho, hp, he, hc, hmm, ht', hx, hw⟩ := h
  have ex : m_ti v t = w 110 t := by
    unfold m_ti
    rw [cif_f (by omega), cif_t ht]
    exact (hs.2.1 h3 t ht).1 hb
  rw [ex] at P
  obtain ⟨x1, x2, x3⟩ := hw.2.2.2 t ht hb
  have M := fun s l => push_mts P hi hd s l
  refine ⟨(R0_c h0 (fun c hc => e c (by simp only [List.mem_cons, List.not_mem_nil, or_false] at hc; omega)) (fun c hc => f c (by simp only [List.mem_cons, List.not_mem_nil, or_false] at hc; omega)) g), (Rk_c hk (fun c hc => e c (by simp only [List.mem_cons, List.not_mem_nil, or_false] at hc; omega)) (fun c hc => f c (by simp only [List.mem_cons, List.not_mem_nil, or_false] at hc; omega))), (Rn_c hn (fun c hc => e c (by simp only [List.mem_cons, List.not_mem_nil, or_false] at hc; omega)) (fun c hc => f c (by simp only [List.mem_cons, List.not_mem_nil, or_false] at hc; omega)) g), (Rs_c hs (fun c hc => e c (by simp only [List.mem_cons, List.not_mem_nil, or_false] at hc; omega)) (fun c hc => f c (by simp only [List.mem_cons, List.not_mem_nil, or_false] at hc; omega))), (Ro_c ho (fun c hc => e c (by simp only [List.mem_cons, List.not_mem_nil, or_false] at hc; omega)) (fun c hc => f c (by simp only [List.mem_cons, List.not_mem_nil, or_false] at hc; omega))), fun c hcc => ?_, ?_, ⟨?_, ?_⟩, fun c hcc => ?_, (Rt_c ht' (fun c hc => e c (by simp only [List.mem_cons, List.not_mem_nil, or_false] at hc; omega)) (fun c hc => f c (by simp only [List.mem_cons, List.not_mem_nil, or_false] at hc; omega)) g), (Rx_c hx (fun c hc => e c (by simp only [List.mem_cons, List.not_mem_nil, or_false] at hc; omega)) (fun c hc => f c (by simp only [List.mem_cons, List.not_mem_nil, or_false] at hc; omega))), ?_⟩
  · rw [e 20 (by omega)] at hcc
    obtain ⟨q1, q2⟩ := hp c hcc
    refine ⟨q1, push_pP P hi hd q2 (fun z => by subst z; omega) (fun k hk z => ?_) (by rw [e 23 (by omega)]) (by rw [e 24 (by omega)]) (by rw [e 25 (by omega)]) (fun j => by rw [e 26 (by omega)]) (fun k _ => by rw [f 115 (by omega)]) (fun k _ => by rw [f 116 (by omega)]) (by rw [f 124 (by omega)])⟩
    have o := (hw.2.1 c hcc k hk (by omega)).1
    rw [z, show w 110 t + 1 - 1 = w 110 t by omega, x1] at o
    subst o
    omega
  · refine push_Re P hi hd he (fun c hc => e c (by simp only [List.mem_cons, List.not_mem_nil, or_false] at hc; omega)) (fun c hc => f c (by simp only [List.mem_cons, List.not_mem_nil, or_false] at hc; omega)) (fun s _ => ⟨by rw [e 36 (by omega)], by rw [e 37 (by omega)], by rw [f 121 (by omega)]⟩) (fun s h1 h2 _ => ?_)
    subst h2
    have := hW.2.2.2.2.1.2.1
    rcases he.1 s (by omega) with q | q
    · omega
    · omega
  · exact push_cP P isPush_ent hi hd hl hm (fun c hc => e c (by simp only [List.mem_cons, List.not_mem_nil, or_false] at hc; omega)) (fun c hc => f c (by simp only [List.mem_cons, List.not_mem_nil, or_false] at hc; omega)) hc.1
  · unfold a_live5
    rw [e 20 (by omega), f 132 (by omega)]
    exact hc.2
  · rw [e 20 (by omega)] at hcc
    obtain ⟨m1, m2⟩ := hmm c hcc
    have b0 := mts_b v c 0
    have b1 := mts_b v c 1
    rw [M, M, ← m1, ← m2]
    have a32 : m_enter v i t m 32 c = if t = c then v 32 c + 1 else v 32 c := by
      unfold m_enter
      rw [m_note_c (by omega), m_push_c (by omega)]
      unfold m_tv
      rw [cif_f (by omega), cif_t ht]
      by_cases z : t = c
      · subst z
        rw [if_pos rfl]
        unfold cif
        split
        · rw [up2_c (by omega), up2_s, wr_s]
          constructor <;> omega
        · rw [up2_s, wr_s]
          constructor <;> omega
      · rw [if_neg z]
        unfold cif
        split
        · rw [up2_c (by omega), up2_i (by omega)]
        · rw [up2_i (by omega)]
    have a33 : m_enter v i t m 33 c = if t = c ∧ m = 1 then v 33 c + 1 else v 33 c := by
      unfold m_enter
      rw [m_note_c (by omega), m_push_c (by omega)]
      unfold m_tv
      rw [cif_f (by omega), cif_t ht]
      by_cases z : m = 1
      · rw [cif_t z]
        by_cases z2 : t = c
        · subst z2
          rw [if_pos ⟨rfl, z⟩, up2_s, wr_s]
          constructor <;> omega
        · rw [if_neg (by omega), up2_i (by omega), up2_c (by omega)]
      · rw [cif_f z, if_neg (by omega), up2_c (by omega)]
    rw [a32, a33]
    constructor
    · by_cases z : t = c
      · rw [if_pos z, if_pos (by omega)]
      · rw [if_neg z, if_neg (by omega)]; omega
    · by_cases z : t = c ∧ m = 1
      · rw [if_pos z, if_pos (by omega)]
      · rw [if_neg z, if_neg (by omega)]; omega
  · refine ⟨?_, ?_, ?_, ?_⟩
    · rw [e 5 (by omega)]
      exact push_own P hi hd (Int.le_refl _) (fun _ _ _ => rfl) ⟨x1, x2, x3⟩ hw.1
    · rw [e 20 (by omega), e 5 (by omega), f 115 (by omega)]
      exact hw.2.1
    · rw [e 35 (by omega), e 5 (by omega)]
      exact hw.2.2.1
    · rw [e 20 (by omega), e 5 (by omega), f 109 (by omega), f 110 (by omega)]
      exact hw.2.2.2
end
