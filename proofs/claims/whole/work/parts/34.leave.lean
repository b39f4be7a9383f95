/-! A method ends: what changes, whatever the target is; singletons, sessions. -/
section
variable {v v' w w' : SV} {L L' : SL} {own : Int → Nat}
def isPop (v v' : SV) (i : Nat) : Prop := (∀ j, v' 10 j = if j = i then v 10 i - 1 else v 10 j) ∧ v' 16 = v 16 ∧ v' 17 = v 17 ∧ v' 18 = v 18
def isPopR (w w' : SV) (i : Nat) : Prop := (∀ j, w' 125 j = if j = i then w 125 i - 1 else w 125 j) ∧ w' 126 = w 126 ∧ w' 127 = w 127 ∧ w' 128 = w 128
theorem pop_inC {i : Nat} (h : isPop v v' i) (hi : i < 8) (hd : 0 < v 10 i ∧ v 10 i ≤ 4) (k : Nat) : inC v' k ↔ inC v k ∧ k ≠ emA v i := by
  unfold inC emA
  rw [h.1]
  by_cases z : k % 8 = i
  · rw [if_pos z, z]; omega
  · rw [if_neg z]; omega
theorem emA_in {i : Nat} (hi : i < 8) (hd : 0 < v 10 i ∧ v 10 i ≤ 4) : inC v (emA v i) := by
  unfold inC emA
  have e : (i + 8 * (v 10 i - 1).toNat) % 8 = i := by omega
  rw [e]
  omega
theorem pop_mts {i : Nat} (h : isPop v v' i) (hi : i < 8) (hd : 0 < v 10 i ∧ v 10 i ≤ 4) (s : Nat) (l : Int) : mts v' s l = mts v s l - (if v 16 (emA v i) = s ∧ l ≤ v 18 (emA v i) then 1 else 0) := by
  obtain ⟨h1, h2, h3, h4⟩ := h
  have e : (emA v i) % 8 = i := by unfold emA; omega
  have e2 : (emA v i) / 8 = (v 10 i - 1).toNat := by unfold emA; omega
  unfold mts
  have E := sm_up (f := mt1 v s l) (g := mt1 v' s l) (a := emA v i) 32 (by unfold emA; omega) (fun k hk hne => by
    unfold mt1
    unfold emA at hne
    rw [h2, h4, h1]
    by_cases z : k % 8 = i
    · rw [if_pos z, z]
      by_cases z2 : ((k / 8 : Nat) : Int) < v 10 i ∧ v 16 k = s ∧ l ≤ v 18 k
      · rw [if_pos z2, if_pos (by omega)]
      · rw [if_neg z2, if_neg (by omega)]
    · rw [if_neg z])
  have a1 : mt1 v' s l (emA v i) = 0 := by
    unfold mt1
    rw [e, e2, h1, if_pos rfl, if_neg (by omega)]
  have a2 : mt1 v s l (emA v i) = if v 16 (emA v i) = s ∧ l ≤ v 18 (emA v i) then 1 else 0 := by
    unfold mt1
    rw [e, e2]
    by_cases z : v 16 (emA v i) = s ∧ l ≤ v 18 (emA v i)
    · rw [if_pos z, if_pos (by omega)]
    · rw [if_neg z, if_neg (by omega)]
  rw [E, a1, a2]
  omega
theorem pop_usd {i : Nat} (h : isPop v v' i) (hi : i < 8) (hd : 0 < v 10 i ∧ v 10 i ≤ 4) (y : Int) (hy : y ≠ v 17 (emA v i)) : usd v' y ↔ usd v y := by
  unfold usd
  constructor
  · rintro ⟨k, hk, e⟩
    rw [pop_inC h hi hd] at hk
    rw [h.2.2.1] at e
    exact ⟨k, hk.1, e⟩
  · rintro ⟨k, hk, e⟩
    refine ⟨k, (pop_inC h hi hd k).mpr ⟨hk, fun z => hy ?_⟩, ?_⟩
    · rw [← z, e]
    · rw [h.2.2.1]; exact e
theorem pop_cP {i : Nat} (h : isPop v v' i) (h' : isPopR w w' i) (hi : i < 8) (hd : 0 < v 10 i ∧ v 10 i ≤ 4) (hl : v 11 i < 0) (e : ∀ c, c ∈ ([11, 12, 13, 14, 15, 20, 22] : List Nat) → v' c = v c) (f : ∀ c, c ∈ ([109, 129, 130, 131, 132, 133, 134, 142] : List Nat) → w' c = w c) (hc : ∀ j, j < 8 → cP v w j) : ∀ j, j < 8 → cP v' w' j := by
  intro j hj
  obtain ⟨p1, p2, p3, p4, p5, p6, p7, p8⟩ := hc j hj
  have q1 := (hc i hi).1
  obtain ⟨h1, h2, h3, h4⟩ := h
  obtain ⟨g1, g2, g3, g4⟩ := h'
  unfold cP
  rw [e 11 (by simp), e 12 (by simp), e 13 (by simp), e 14 (by simp), e 15 (by simp), e 20 (by simp), e 22 (by simp), f 109 (by simp), f 129 (by simp), f 130 (by simp), f 131 (by simp), f 132 (by simp), f 133 (by simp), f 134 (by simp), f 142 (by simp), h2, h3, h4, g2, g3, g4]
  refine ⟨?_, fun k hk hk2 => ?_, p3, p4, fun y => ?_, p6, p7, p8⟩
  rotate_left 2
  · obtain ⟨y1, y2, y3, y4, y5, y6, y7, y8⟩ := p5 y
    refine ⟨y1, y2, y3, y4, y5, y6, fun y9 y10 => y7 y9 ?_, y8⟩
    obtain ⟨q, r1, r2⟩ := y10
    have ji : j ≠ i := fun z => by subst z; omega
    rw [h1, if_neg ji] at r1
    rw [h2] at r2
    exact ⟨q, r1, r2⟩
  · rw [g1, h1, p1, q1]
  · rw [h1] at hk2
    refine p2 k hk ?_
    by_cases z3 : j = i
    · subst z3
      rw [if_pos rfl] at hk2
      omega
    · rw [if_neg z3] at hk2; exact hk2
theorem pop_own {i : Nat} (h : isPop v v' i) (hi : i < 8) (hd : 0 < v 10 i ∧ v 10 i ≤ 4) (n : Int) (hw : ∀ k, inC v k → v 16 k = own (v 17 k) ∧ 0 ≤ v 17 k ∧ v 17 k < n) : ∀ k, inC v' k → v' 16 k = own (v' 17 k) ∧ 0 ≤ v' 17 k ∧ v' 17 k < n := by
  intro k hk
  rw [pop_inC h hi hd] at hk
  rw [h.2.1, h.2.2.1]
  exact hw k hk.1
/-- another pool -/
theorem pop_pP {i c : Nat} (h : isPop v v' i) (hi : i < 8) (hd : 0 < v 10 i ∧ v 10 i ≤ 4) (hp : pP v w c) (hct : ¬ v 16 (emA v i) = c) (hx : ∀ k, k < 4 → ¬ w 115 (4 * c + k) = v 17 (emA v i) + 1) (e23 : v' 23 c = v 23 c) (e24 : v' 24 c = v 24 c) (e25 : v' 25 c = v 25 c) (e26 : ∀ j, v' 26 (c + 32 * j) = v 26 (c + 32 * j)) (f115 : ∀ k, k < 4 → w' 115 (4 * c + k) = w 115 (4 * c + k)) (f116 : ∀ k, k < 4 → w' 116 (4 * c + k) = w 116 (4 * c + k)) (f124 : w 124 0 ≤ w' 124 0) : pP v' w' c := by
  obtain ⟨p1, p2, p3, p4, p5, p6, p7, p8, p9, p10, p11⟩ := hp
  unfold pP
  rw [e23, e24, e25, pop_mts h hi hd, if_neg (fun z => hct z.1), Int.sub_zero, h.2.1, h.2.2.1]
  have new : ∀ k, inC v' k → inC v k := fun k h1 => ((pop_inC h hi hd k).mp h1).1
  refine ⟨fun k hk => by rw [f115 k hk]; exact p1 k hk, ?_, p3, p4, p5, fun k k' hk hk' => by rw [f115 k hk, f115 k' hk']; exact p6 k k' hk hk', fun j hj => ?_, fun k hk h0 hu => ?_, fun j j' hjj hj' k k' hk hk' => ?_, fun k h1 h2 => ?_, fun k k' h1 h1' h2 h2' h3 => p11 k k' (new k h1) (new k' h1') h2 h2' h3⟩
  · rw [p2]
    exact sm_eq 4 (fun k hk => by rw [f115 k hk])
  · obtain ⟨k, k1, k0, k2, k3, k4⟩ := p7 j hj
    refine ⟨k, k1, ?_, ?_, ?_, ?_⟩
    · rw [f115 k k1]; exact k0
    · rw [f115 k k1, e26]; exact k2
    · rw [f116 k k1]; omega
    · rw [e26, pop_usd h hi hd _ (fun z => hx k k1 (by rw [k2, z]))]
      exact k4
  · rw [f115 k hk] at h0 hu ⊢
    rw [pop_usd h hi hd _ (fun z => hx k hk (by omega))] at hu
    obtain ⟨j, j1, j2⟩ := p8 k hk h0 hu
    exact ⟨j, j1, by rw [e26]; exact j2⟩
  · rw [f115 k hk, f115 k' hk', f116 k hk, f116 k' hk', e26, e26]
    exact p9 j j' hjj hj' k k' hk hk'
  · obtain ⟨q, q1, q2⟩ := p10 k (new k h1) h2
    exact ⟨q, q1, by rw [f115 q q1]; exact q2⟩
theorem pop_Re {i : Nat} (h : isPop v v' i) (hi : i < 8) (hd : 0 < v 10 i ∧ v 10 i ≤ 4) (hl : (L 0).length ≤ 24) (he : Re v L w) (e : ∀ c, c ∈ ([20, 21, 22, 34, 35, 40, 42] : List Nat) → v' c = v c) (f : ∀ c, c ∈ ([119, 120] : List Nat) → w' c = w c) (e3 : v 3 0 ≤ v' 3 0) (f124 : w 124 0 ≤ w' 124 0) (hE : ∀ s, ¬ v 16 (emA v i) = (8 + s : Nat) → v' 36 (8 + s) = v 36 (8 + s) ∧ v' 37 (8 + s) = v 37 (8 + s) ∧ v' 38 (8 + s) = v 38 (8 + s) ∧ v' 39 (8 + s) = v 39 (8 + s) ∧ w' 121 s = w 121 s ∧ w' 122 s = w 122 s ∧ w' 123 s = w 123 s) (hT : ∀ s, s < (L 0).length → v 16 (emA v i) = (8 + s : Nat) → eP v w s → eP v' w' s ∧ v 3 0 < v' 38 (8 + s) ∧ w 124 0 ≤ w' 122 s) : Re v' L w' := by
  obtain ⟨h1, h2, h3⟩ := he
  unfold Re
  rw [e 20 (by simp), e 40 (by simp), e 34 (by simp)]
  refine ⟨fun s hs => ?_, fun s s' hs hs' => ?_, h3⟩
  · rcases h1 s hs with ⟨a, b, c⟩ | a
    · refine Or.inl ⟨a, b, ?_⟩
      by_cases z : v 16 (emA v i) = (8 + s : Nat)
      · exact (hT s a z c).1
      · obtain ⟨z1, z2, z3, z4, z5, z6, z7⟩ := hE s z
        have z8 := pop_mts h hi hd (8 + s) 0
        rw [if_neg (fun q => z q.1), Int.sub_zero] at z8
        obtain ⟨c1, c2, c3, c4, c5, c6, c7, c8, c9, c10, c11, c12, c13, c14, c15, c16⟩ := c
        unfold eP
        rw [e 21 (by simp), e 22 (by simp), e 34 (by simp), e 35 (by simp), e 40 (by simp), e 42 (by simp), f 119 (by simp), f 120 (by simp), z1, z2, z3, z4, z5, z6, z7, z8, h.2.1, h.2.2.1]
        exact ⟨c1, c2, c3, c4, c5, c6, c7, c8, by omega, by omega, c11, c12, c13, c14, c15, fun k k1 k2 => c16 k ((pop_inC h hi hd k).mp k1).1 k2⟩
    · exact Or.inr a
  · have l24 : ∀ s, s < (L 0).length → v 38 (8 + s) ≤ v 3 0 ∧ w 122 s < w 124 0 ∧ eP v w s := by
      intro s hs
      rcases h1 s (by omega) with ⟨a, b, c⟩ | a
      · exact ⟨c.2.2.2.2.2.2.2.2.1, c.2.2.2.2.2.2.2.2.2.1, c⟩
      · omega
    obtain ⟨q1, q2, q3⟩ := l24 s hs
    obtain ⟨r1, r2, r3⟩ := l24 s' hs'
    by_cases z : v 16 (emA v i) = (8 + s : Nat) <;> by_cases z' : v 16 (emA v i) = (8 + s' : Nat)
    · have : s = s' := by omega
      subst this
      simp
    · obtain ⟨y1, y2, y3⟩ := hT s hs z q3
      obtain ⟨z1, z2, z3, z4, z5, z6, z7⟩ := hE s' z'
      rw [z3, z6]
      omega
    · obtain ⟨y1, y2, y3⟩ := hT s' hs' z' r3
      obtain ⟨z1, z2, z3, z4, z5, z6, z7⟩ := hE s z
      rw [z3, z6]
      omega
    · obtain ⟨z1, z2, z3, z4, z5, z6, z7⟩ := hE s z
      obtain ⟨y1, y2, y3, y4, y5, y6, y7⟩ := hE s' z'
      rw [z3, z6, y3, y6]
      exact h2 s s' hs hs'
def r_pop (w : SV) (i : Nat) : SV := up2 w 125 i (w 125 i - 1)
theorem r_pop_c {i c : Nat} (h : c ≠ 125) : r_pop w i c = w c := funext fun j => up2_c h
def r_left (w : SV) (i : Nat) (x : Int) : SV := r_note (r_pop w i) 8 ((i : Int) + 1) x
theorem r_left_c {i c : Nat} {x : Int} (h : c ≠ 125 ∧ c ≠ 144 ∧ c ≠ 145) : r_left w i x c = w c := (r_note_c (by omega)).trans (r_pop_c h.1)
theorem isPop_n {i : Nat} : isPop v (emN v i) i := ⟨fun j => emN_10, funext fun j => emN_c (by omega), funext fun j => emN_c (by omega), funext fun j => emN_c (by omega)⟩
theorem isPop_left {i : Nat} {x : Int} : isPopR w (r_left w i x) i := by
  refine ⟨fun j => ?_, r_left_c (by omega), r_left_c (by omega), r_left_c (by omega)⟩
  rw [show r_left w i x 125 j = r_pop w i 125 j from congrFun (r_note_c (by omega)) j]
  unfold r_pop up2
  simp only [true_and]
theorem isPop_e {v2 : SV} {i : Nat} (h : isPop v v2 i) (e : ∀ c, c ∈ ([10, 16, 17, 18] : List Nat) → v' c = v2 c) : isPop v v' i := by
  unfold isPop at *
  rw [e 10 (by simp), e 16 (by simp), e 17 (by simp), e 18 (by simp)]
  exact h
theorem isPop_re {v2 : SV} {i : Nat} (h : isPopR w v2 i) (e : ∀ c, c ∈ ([125, 126, 127, 128] : List Nat) → w' c = v2 c) : isPopR w w' i := by
  unfold isPopR at *
  rw [e 125 (by simp), e 126 (by simp), e 127 (by simp), e 128 (by simp)]
  exact h
theorem m_gb_f {t c : Nat} {x m o b : Int} (h : c ≠ 3 ∧ c ≠ 4 ∧ c ≠ 6 ∧ c ≠ 24 ∧ c ≠ 25 ∧ c ≠ 26 ∧ c ≠ 32 ∧ c ≠ 33 ∧ c ≠ 36 ∧ c ≠ 37 ∧ c ≠ 38 ∧ c ≠ 39) : m_gb v t x m o b c = v c := funext fun i => m_gb_c h
theorem emN_f {i c : Nat} (h : c ≠ 4 ∧ c ≠ 6 ∧ c ≠ 10) : emN v i c = v c := funext fun j => emN_c h
/-- how a method's end is read: its target's kind -/
theorem em_row (h : RA own v L w) (hW : WF v L) {i : Nat} (hi : i < 8) (hd : 0 < v 10 i) : ∃ t : Nat, v 16 (emA v i) = t ∧ t < 32 ∧ a_live5 v t ∧ w 126 (4 * i + (w 125 i - 1).toNat) = t ∧ w 127 (4 * i + (w 125 i - 1).toNat) = v 17 (emA v i) ∧ w 128 (4 * i + (w 125 i - 1).toNat) = v 18 (emA v i) ∧ 0 ≤ v 18 (emA v i) ∧ v 18 (emA v i) < v 22 t := by
  have hr := (hW.1 i hi).1
  obtain ⟨p1, p2, _⟩ := h.2.2.2.2.2.2.2.1.1 i hi
  obtain ⟨q1, q2, q3, q4, q5, q6⟩ := p2 (v 10 i - 1).toNat (by have := hr.1; omega) (by omega)
  have hr2 := hr.2 (v 10 i - 1).toNat (by have := hr.1; omega)
  rw [p1]
  refine ⟨(v 16 (emA v i)).toNat, ?_, ?_, ?_, ?_, q3, q4, q5, q6⟩
  · show v 16 (i + 8 * (v 10 i - 1).toNat) = _
    unfold emA
    omega
  · unfold emA; omega
  · exact hr2.2 q1
  · rw [q2]; unfold emA; omega
theorem emG_e {i o t : Nat} (ht : v 16 (emA v i) = t) : emG v i o = m_gb (emN v i) t (v 17 (emA v i)) (v 18 (emA v i)) o (emB v o) := by
  unfold emG
  rw [cif_t (by omega), ht, Int.toNat_natCast]
theorem mts_1 {k t : Nat} (h : inC v k) (ht : v 16 k = t) {l : Int} (hl : l ≤ v 18 k) : 1 ≤ mts v t l := by
  unfold mts
  have h1 := sm_le (f := mt1 v t l) (a := k) 32 (fun k hk => by unfold mt1; split <;> omega) h.1
  have : mt1 v t l k = 1 := by
    unfold mt1
    exact if_pos ⟨h.2, ht, hl⟩
  omega
theorem RA_leave2 (hW : WF v L) (h : RA own v L w) {i t o : Nat} (hi : i < 8) (hd : 0 < v 10 i ∧ v 10 i ≤ 4) (hl : v 11 i < 0) (ht : v 16 (emA v i) = t) (hk2 : v 20 t = 2) : RA own (emG v i o) L (r_left w i (v 17 (emA v i))) := by
  have hin := emA_in (v := v) hi hd
  have eG := emG_e (o := o) ht
  obtain ⟨t2, et2, t32, tl, _, _, _, m0, m1⟩ := em_row h hW hi hd.1
  have et3 : t2 = t := by omega
  subst et3
  have e2 : ∀ c, (c ≠ 4 ∧ c ≠ 6 ∧ c ≠ 32 ∧ c ≠ 33) → emG v i o c = emN v i c := by
    intro c hc
    rw [eG]
    funext j
    unfold m_gb
    rw [cif_f (by rw [emN_c (by omega)]; omega), cif_t (by rw [emN_c (by omega)]; exact hk2)]
    unfold cif
    split
    · rw [up2_c (by omega), up2_c (by omega)]
    · rw [up2_c (by omega)]
  have P : isPop v (emG v i o) i := isPop_e isPop_n (fun c hc => e2 c (by simp only [List.mem_cons, List.not_mem_nil, or_false] at hc; omega))
  have e : ∀ c, (c ≠ 4 ∧ c ≠ 6 ∧ c ≠ 10 ∧ c ≠ 32 ∧ c ≠ 33) → emG v i o c = v c := fun c hc => (e2 c (by omega)).trans (emN_f (by omega))
  have f : ∀ c, (c ≠ 125 ∧ c ≠ 144 ∧ c ≠ 145) → r_left w i (v 17 (emA v i)) c = w c := fun c hc => r_left_c hc
  have g : ∀ l, l < 100 ∨ 200 ≤ l → L l = L l := fun _ _ => rfl
  have l24 := hW.2.2.2.2.1.2.1
  obtain ⟨h0, hk, hn, hs, ho, hp, he, hc, hmm, ht', hx, hw⟩ := h
  have M := fun s l => pop_mts P hi hd s l
  obtain ⟨x1, x2, x3⟩ := hw.1 _ hin
  rw [ht] at x1
  refine ⟨(R0_c h0 (fun c hc => e c (by simp only [List.mem_cons, List.not_mem_nil, or_false] at hc; omega)) (fun c hc => f c (by simp only [List.mem_cons, List.not_mem_nil, or_false] at hc; omega)) g), (Rk_c hk (fun c hc => e c (by simp only [List.mem_cons, List.not_mem_nil, or_false] at hc; omega)) (fun c hc => f c (by simp only [List.mem_cons, List.not_mem_nil, or_false] at hc; omega))), (Rn_c hn (fun c hc => e c (by simp only [List.mem_cons, List.not_mem_nil, or_false] at hc; omega)) (fun c hc => f c (by simp only [List.mem_cons, List.not_mem_nil, or_false] at hc; omega)) g), (Rs_c hs (fun c hc => e c (by simp only [List.mem_cons, List.not_mem_nil, or_false] at hc; omega)) (fun c hc => f c (by simp only [List.mem_cons, List.not_mem_nil, or_false] at hc; omega))), (Ro_c ho (fun c hc => e c (by simp only [List.mem_cons, List.not_mem_nil, or_false] at hc; omega)) (fun c hc => f c (by simp only [List.mem_cons, List.not_mem_nil, or_false] at hc; omega))), fun c hcc => ?_, ?_, ⟨?_, ?_⟩, fun c hcc => ?_, (Rt_c ht' (fun c hc => e c (by simp only [List.mem_cons, List.not_mem_nil, or_false] at hc; omega)) (fun c hc => f c (by simp only [List.mem_cons, List.not_mem_nil, or_false] at hc; omega)) g), (Rx_c hx (fun c hc => e c (by simp only [List.mem_cons, List.not_mem_nil, or_false] at hc; omega)) (fun c hc => f c (by simp only [List.mem_cons, List.not_mem_nil, or_false] at hc; omega))), ?_⟩
  · rw [e 20 (by omega)] at hcc
    obtain ⟨q1, q2⟩ := hp c hcc
    refine ⟨q1, pop_pP P hi hd q2 (fun z => by have : t2 = c := by omega
                                               subst this; omega) (fun k hk z => ?_) (by rw [e 23 (by omega)]) (by rw [e 24 (by omega)]) (by rw [e 25 (by omega)]) (fun j => by rw [e 26 (by omega)]) (fun k _ => by rw [f 115 (by omega)]) (fun k _ => by rw [f 116 (by omega)]) (by rw [f 124 (by omega)]; omega)⟩
    have o := (hw.2.1 c hcc k hk (by omega)).1
    rw [z, show v 17 (emA v i) + 1 - 1 = v 17 (emA v i) by omega] at o
    have : t2 = c := by omega
    subst this
    omega
  · refine pop_Re P hi hd l24 he (fun c hc => e c (by simp only [List.mem_cons, List.not_mem_nil, or_false] at hc; omega)) (fun c hc => f c (by simp only [List.mem_cons, List.not_mem_nil, or_false] at hc; omega)) (by rw [e 3 (by omega)]; omega) (by rw [f 124 (by omega)]; omega) (fun s _ => ⟨by rw [e 36 (by omega)], by rw [e 37 (by omega)], by rw [e 38 (by omega)], by rw [e 39 (by omega)], by rw [f 121 (by omega)], by rw [f 122 (by omega)], by rw [f 123 (by omega)]⟩) (fun s h1 h2 _ => ?_)
    have : t2 = 8 + s := by omega
    subst this
    rcases he.1 s (by omega) with q | q <;> omega
  · exact pop_cP P isPop_left hi hd hl (fun c hc => e c (by simp only [List.mem_cons, List.not_mem_nil, or_false] at hc; omega)) (fun c hc => f c (by simp only [List.mem_cons, List.not_mem_nil, or_false] at hc; omega)) hc.1
  · unfold a_live5
    rw [e 20 (by omega), f 132 (by omega)]
    exact hc.2
  · rw [e 20 (by omega)] at hcc
    obtain ⟨n1, n2⟩ := hmm c hcc
    have b0 := mts_b v c 0
    have b1 := mts_b v c 1
    rw [M, M, ← n1, ← n2, ht]
    have m22 : v 22 t2 = 2 := by
      have t8 : t2 < 8 := by
        rcases Nat.lt_or_ge t2 8 with z | z
        · exact z
        · obtain ⟨s, rfl⟩ : ∃ s, t2 = 8 + s := ⟨t2 - 8, by omega⟩
          rcases he.1 s (by omega) with q | q <;> omega
      rcases hk t2 t8 with ⟨_, z | z | z, _⟩ | z
      · have := z.1; omega
      · exact z.2.2.2.2.2.2.2.1
      · have := z.1; omega
      · have := z.2.1; omega
    have a32 : emG v i o 32 c = if t2 = c then v 32 c - 1 else v 32 c := by
      rw [eG]
      unfold m_gb
      rw [cif_f (by rw [emN_c (by omega)]; omega), cif_t (by rw [emN_c (by omega)]; exact hk2)]
      by_cases z : t2 = c
      · subst z
        rw [if_pos rfl]
        unfold cif
        split
        · rw [up2_c (by omega), up2_s, emN_c (by omega), wr_s]
          constructor <;> omega
        · rw [up2_s, emN_c (by omega), wr_s]
          constructor <;> omega
      · rw [if_neg z]
        unfold cif
        split
        · rw [up2_c (by omega), up2_i (by omega), emN_c (by omega)]
        · rw [up2_i (by omega), emN_c (by omega)]
    have a33 : emG v i o 33 c = if t2 = c ∧ v 18 (emA v i) = 1 then v 33 c - 1 else v 33 c := by
      rw [eG]
      unfold m_gb
      rw [cif_f (by rw [emN_c (by omega)]; omega), cif_t (by rw [emN_c (by omega)]; exact hk2)]
      by_cases z : v 18 (emA v i) = 1
      · rw [cif_t z]
        by_cases z2 : t2 = c
        · subst z2
          rw [if_pos ⟨rfl, z⟩, up2_s, emN_c (by omega), wr_s]
          constructor <;> omega
        · rw [if_neg (by omega), up2_i (by omega), up2_c (by omega), emN_c (by omega)]
      · rw [cif_f z, if_neg (by omega), up2_c (by omega), emN_c (by omega)]
    rw [a32, a33]
    constructor
    · by_cases z : t2 = c
      · rw [if_pos z, if_pos (by omega)]
      · rw [if_neg z, if_neg (by omega)]; omega
    · by_cases z : t2 = c ∧ v 18 (emA v i) = 1
      · rw [if_pos z, if_pos (by omega)]
      · rw [if_neg z, if_neg (by omega)]; omega
  · refine ⟨?_, ?_, ?_, ?_⟩
    · rw [e 5 (by omega)]
      exact pop_own P hi hd _ hw.1
    · rw [e 20 (by omega), e 5 (by omega), f 115 (by omega)]
      exact hw.2.1
    · rw [e 35 (by omega), e 5 (by omega)]
      exact hw.2.2.1
    · rw [e 20 (by omega), e 5 (by omega), f 109 (by omega), f 110 (by omega)]
      exact hw.2.2.2
end
