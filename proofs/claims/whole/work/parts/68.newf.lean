/-! component, create, submit: the class's steps as functions, the reference's; they keep the relation. -/
section
variable {v v' w w' : SV} {L L' : SL} {own : Int → Nat}
def okCmp (v : SV) (k n t d : Int) : Prop := v 0 0 = 0 ∧ v 1 0 < 8 ∧ ((k = 2 ∧ 0 ≤ n ∧ n ≤ 3) ∨ ((k = 0 ∨ k = 1) ∧ 1 ≤ n ∧ n ≤ 4)) ∧ (-1 ≤ t ∧ t ≤ 100) ∧ 0 ≤ d ∧ (k = 1 ∧ d ≤ 100 ∨ ¬ k = 1 ∧ d ≤ 0)
def cmN (k n t d : Int) (q : Nat) : Int :=
  if k = 0 then (if q = 20 ∨ q = 22 then 1 else if q = 21 then t else if q = 23 then n else 0)
  else if k = 1 then (if q = 40 then 1 else if q = 41 then n else if q = 42 then t else if q = 43 then d else 0)
  else (if q = 20 ∨ q = 22 then 2 else if q = 21 then t else if q = 27 then (if n = 1 ∨ n = 3 then 1 else 0) else if q = 28 then (if n = 2 ∨ n = 3 then 1 else 0) else if q = 31 then -1 else 0)
def cmV (v : SV) (k n t d : Int) : SV := fun q i => if q = 1 ∧ i = 0 then v 1 0 + 1 else if q = 26 ∧ i % 32 = (v 1 0).toNat then 0 else if 20 ≤ q ∧ q ≤ 43 ∧ q ≠ 26 ∧ i = (v 1 0).toNat then cmN k n t d q else v q i
def cmL (v : SV) (L : SL) : SL := fun l => if l = 100 + (v 1 0).toNat ∨ l = 200 + (v 1 0).toNat ∨ l = 300 + (v 1 0).toNat then [] else L l
def r_cmp (w : SV) (k n t d : Int) : SV := up2 (up2 (up2 (up2 (up2 w 103 (w 102 0).toNat k) 104 (w 102 0).toNat n) 105 (w 102 0).toNat t) 106 (w 102 0).toNat d) 102 0 (w 102 0 + 1)
theorem cmV_c {k n t d : Int} {c : Nat} (h1 : c ≠ 1) (h2 : c < 20 ∨ 43 < c) : cmV v k n t d c = v c := by
  funext i
  unfold cmV
  rw [if_neg (by omega), if_neg (by omega), if_neg (by omega)]
theorem cmV_i {k n t d : Int} {c i : Nat} (h1 : c ≠ 1) (h2 : c ≠ 26) (h3 : i ≠ (v 1 0).toNat) : cmV v k n t d c i = v c i := by
  unfold cmV
  rw [if_neg (by omega), if_neg (by omega), if_neg (by omega)]
theorem cmV_n {k n t d : Int} {c : Nat} (h1 : 20 ≤ c) (h2 : c ≤ 43) (h3 : c ≠ 26) : cmV v k n t d c (v 1 0).toNat = cmN k n t d c := by
  unfold cmV
  rw [if_neg (by omega), if_neg (by omega), if_pos ⟨h1, h2, h3, rfl⟩]
theorem r_cmp_c {k n t d : Int} {c : Nat} (h : c < 102 ∨ 106 < c) : r_cmp w k n t d c = w c := by
  funext i
  unfold r_cmp
  rw [up2_c (by omega), up2_c (by omega), up2_c (by omega), up2_c (by omega), up2_c (by omega)]
theorem r_cmp_i {k n t d : Int} {c i : Nat} (h : c ≠ 102) (hi : i ≠ (w 102 0).toNat) : r_cmp w k n t d c i = w c i := by
  unfold r_cmp
  rw [up2_c h, up2_i hi, up2_i hi, up2_i hi, up2_i hi]
theorem RS_cm {k n t d : Int} (h : RS own v L w) (hok : okCmp v k n t d) (hz : w 108 (v 1 0).toNat = 0 ∧ w 109 (v 1 0).toNat = 0) : RS own (cmV v k n t d) (cmL v L) (r_cmp w k n t d) ∧ pot (cmV v k n t d) (cmL v L) (r_cmp w k n t d) ≤ pot v L w + 2 := by
  obtain ⟨o1, o2, o3, o4, o5, o6⟩ := hok
  have b0 := h.2.1.1.2.2.2.2.2.2
  have e102 : w 102 0 = v 1 0 := h.2.1.1.2.2.1
  have en : v 1 0 = ((v 1 0).toNat : Nat) := by omega
  have c103 : r_cmp w k n t d 103 (v 1 0).toNat = k := by
    unfold r_cmp; rw [e102, up2_c (by omega), up2_c (by omega), up2_c (by omega), up2_c (by omega), up2_s]
  have c104 : r_cmp w k n t d 104 (v 1 0).toNat = n := by
    unfold r_cmp; rw [e102, up2_c (by omega), up2_c (by omega), up2_c (by omega), up2_s]
  have c105 : r_cmp w k n t d 105 (v 1 0).toNat = t := by
    unfold r_cmp; rw [e102, up2_c (by omega), up2_c (by omega), up2_s]
  have c106 : r_cmp w k n t d 106 (v 1 0).toNat = d := by
    unfold r_cmp; rw [e102, up2_c (by omega), up2_s]
  have N : ∀ c, 20 ≤ c → c ≤ 43 → c ≠ 26 → cmV v k n t d c (v 1 0).toNat = cmN k n t d c := fun c a b e => cmV_n a b e
  refine RS_cmp h en (by omega) hz (by unfold cmV; rw [if_pos ⟨rfl, rfl⟩]; omega) (fun c h1 h2 => cmV_c h1 h2) (fun c i h1 h2 h3 => cmV_i h1 h2 h3) (fun c j h1 h2 => ?_) (by unfold r_cmp; rw [up2_s, e102]; omega) (fun c hc => r_cmp_c hc) (fun c i h1 h2 => r_cmp_i h1 (by rw [e102]; exact h2)) (fun l h1 h2 h3 => if_neg (by omega)) (if_pos (by omega)) (if_pos (by omega)) (if_pos (by omega)) ?_ ?_ ?_
  · unfold cmV
    rw [if_neg (by omega), if_neg (by omega), if_neg (by omega)]
  · unfold kP kS kF
    simp only [N 20 (by omega) (by omega) (by omega), N 21 (by omega) (by omega) (by omega), N 22 (by omega) (by omega) (by omega), N 23 (by omega) (by omega) (by omega), N 24 (by omega) (by omega) (by omega), N 25 (by omega) (by omega) (by omega), N 27 (by omega) (by omega) (by omega), N 28 (by omega) (by omega) (by omega), N 29 (by omega) (by omega) (by omega), N 30 (by omega) (by omega) (by omega), N 31 (by omega) (by omega) (by omega), N 32 (by omega) (by omega) (by omega), N 33 (by omega) (by omega) (by omega), N 40 (by omega) (by omega) (by omega), N 41 (by omega) (by omega) (by omega), N 42 (by omega) (by omega) (by omega), N 43 (by omega) (by omega) (by omega), c103, c104, c105, c106]
    by_cases z0 : k = 0
    · subst z0
      left
      simp [cmN]
      omega
    · by_cases z1 : k = 1
      · subst z1
        right; right
        simp [cmN]
        omega
      · have z2 : k = 2 := by omega
        subst z2
        right; left
        simp [cmN]
        refine ⟨by omega, by omega, by omega, ?_, ?_⟩
        · by_cases y : n = 1
          · simp [y]
          · simp [y]
        · constructor <;> (intro q; omega)
  · rw [N 28 (by omega) (by omega) (by omega)]
    unfold cmN
    repeat' split
    all_goals omega
  · rw [c105]; exact o4
-- create
def okCre (v : SV) (L : SL) (c : Int) : Prop := v 0 0 = 1 ∧ (0 ≤ c ∧ c < 8) ∧ (L 0).length < 24 ∧ v 40 c.toNat = 1
def csN (v : SV) (n q : Nat) : Int := if q = 20 ∨ q = 22 then 3 else if q = 21 then v 42 n else if q = 34 then n else if q = 35 then v 5 0 else if q = 36 then 1 else if q = 38 then v 3 0 + 1 else if q = 39 then v 2 0 else 0
def csV (v : SV) (s n : Nat) : SV := fun q i => if q = 3 ∧ i = 0 then v 3 0 + 1 else if 4 ≤ q ∧ q ≤ 6 then m_note (up2 v 5 0 (v 5 0 + 1)) 1 0 (v 5 0) q i else if i = 8 + s ∧ (20 ≤ q ∧ q ≤ 22 ∨ 34 ≤ q ∧ q ≤ 39) then csN v n q else v q i
def csL (L : SL) (s n : Nat) : SL := fun l => if l = 108 + s then [] else if l = 0 then L 0 ++ [8 + s] else if l = 300 + n then L (300 + n) ++ [8 + s] else L l
def r_cs (w : SV) (s n : Nat) : SV := r_use (up2 (up2 (r_fresh (up2 (up2 w 118 0 (w 118 0 + 1)) 119 s n)) 120 s (w 143 0)) 121 s 1) s
theorem csV_c {s n c : Nat} (h1 : c < 3 ∨ 6 < c) (h2 : c < 20 ∨ 22 < c) (h3 : c < 34 ∨ 39 < c) : csV v s n c = v c := by
  funext i
  unfold csV
  rw [if_neg (by omega), if_neg (by omega), if_neg (by omega)]
theorem csV_i {s n c i : Nat} (h1 : c < 3 ∨ 6 < c) (h2 : i ≠ 8 + s) : csV v s n c i = v c i := by
  unfold csV
  rw [if_neg (by omega), if_neg (by omega), if_neg (by omega)]
theorem csV_n {s n c : Nat} (h : 20 ≤ c ∧ c ≤ 22 ∨ 34 ≤ c ∧ c ≤ 39) : csV v s n c (8 + s) = csN v n c := by
  unfold csV
  rw [if_neg (by omega), if_neg (by omega), if_pos ⟨rfl, h⟩]
theorem csV_m {s n c : Nat} (h : 4 ≤ c ∧ c ≤ 6) : csV v s n c = m_note (up2 v 5 0 (v 5 0 + 1)) 1 0 (v 5 0) c := by
  funext i
  unfold csV
  rw [if_neg (by omega), if_pos h]
theorem r_cs_c {s n c : Nat} (h1 : c < 118 ∨ 124 < c) (h2 : c < 143 ∨ 145 < c) : r_cs w s n c = w c := by
  unfold r_cs
  rw [r_use_c (by omega)]
  funext i
  rw [up2_c (by omega), up2_c (by omega), congrFun (r_fresh_c (by omega)) i, up2_c (by omega), up2_c (by omega)]
theorem RS_cs (h : RS own v L w) {s n : Nat} (hs : (L 0).length = s) (s24 : s < 24) (hn : n < 8) (h40 : v 40 n = 1) (hb : v 4 0 < 3100) : (∃ own', RS own' (csV v s n) (csL L s n) (r_cs w s n)) ∧ pot (csV v s n) (csL L s n) (r_cs w s n) ≤ pot v L w + 3 := by
  obtain ⟨r1, r2, r3, r4, r5, r6, r7⟩ := h.2.2.2
  have e143 : w 143 0 = v 5 0 := h.2.1.1.2.2.2.2.2.1
  have e118 : w 118 0 = ((L 0).length : Int) := h.2.1.1.2.2.2.1
  have e101 : w 101 0 = v 2 0 := h.2.1.1.2.1
  have h40' := h.2.2.1.2.1
  have s5 : iS (v 5 0 + 1) := by constructor <;> omega
  have F : ∀ c i, c < 143 → r_fresh (up2 (up2 w 118 0 (w 118 0 + 1)) 119 s n) c i = up2 (up2 w 118 0 (w 118 0 + 1)) 119 s n c i := fun c i hc => congrFun (r_fresh_c (by omega)) i
  have hl : Rl (csV v s n) (r_cs w s n) := by
    have q1 : Rl (up2 v 5 0 (v 5 0 + 1)) (up2 (up2 (up2 w 118 0 (w 118 0 + 1)) 119 s n) 143 0 (v 5 0 + 1)) := Rl_c h.2.2.1 (fun c hc => funext fun i => by simp only [List.mem_cons, List.not_mem_nil, or_false] at hc; rw [up2_c (by omega)]) (fun c hc => funext fun i => by simp only [List.mem_cons, List.not_mem_nil, or_false] at hc; rw [up2_c (by omega), up2_c (by omega), up2_c (by omega)])
    have q2 := Rl_note q1 1 0 (v 5 0) (by rw [up2_c (by omega)]; omega)
    refine Rl_c q2 (fun c hc => ?_) (fun c hc => ?_)
    · simp only [List.mem_cons, List.not_mem_nil, or_false] at hc
      exact csV_m (by omega)
    · simp only [List.mem_cons, List.not_mem_nil, or_false] at hc
      unfold r_cs
      rw [r_use_c (by omega)]
      funext i
      rw [up2_c (by omega), up2_c (by omega)]
      unfold r_fresh
      rw [up2_c (c' := 143) (by omega), up2_c (c' := 143) (by omega), e143, wr_s s5]
  refine RS_ses h hs s24 hn h40 hb (fun k h1 h2 h3 => csV_c h1 h2 h3) (fun k i h1 h2 => csV_i h1 h2) (by unfold csV; rw [if_pos ⟨rfl, rfl⟩]) ?_ ?_ (csV_n (by omega)) (csV_n (by omega)) (csV_n (by omega)) (csV_n (by omega)) (csV_n (by omega)) (csV_n (by omega)) (csV_n (by omega)) (csV_n (by omega)) (csV_n (by omega)) (fun k h1 h2 => r_cs_c h1 h2) ?_ ?_ ?_ ?_ ?_ ?_ ?_ ?_ ?_ hl ?_ ?_ ?_ ?_
  · rw [csV_m (by omega), m_note_4 (by rw [up2_c (by omega)]; omega) (by rw [up2_c (by omega)]; omega), up2_c (by omega)]
  · rw [csV_m (by omega), m_note_c (by omega), up2_s]
  · intro k i h1 h2 h3
    unfold r_cs r_use
    rw [up2_c (by omega), up2_i h3, up2_i h3, up2_i h3, up2_i h3, F k i (by omega), up2_i h3, up2_c (by omega)]
  · unfold r_cs
    rw [r_use_c (by omega), up2_c (by omega), up2_c (by omega), F _ _ (by omega), up2_c (by omega), up2_s, e118, hs]
  · unfold r_cs
    rw [r_use_c (by omega), up2_c (by omega), up2_c (by omega), F _ _ (by omega), up2_s]
  · unfold r_cs
    rw [r_use_c (by omega), up2_c (by omega), up2_s, e143]
  · unfold r_cs
    rw [r_use_c (by omega), up2_s]
  · unfold r_cs r_use
    rw [up2_c (by omega), up2_c (by omega), up2_s, up2_c (by omega), up2_c (by omega), F _ _ (by omega), up2_c (by omega), up2_c (by omega)]
  · unfold r_cs r_use
    rw [up2_c (by omega), up2_s, up2_c (by omega), up2_c (by omega), F _ _ (by omega), up2_c (by omega), up2_c (by omega), e101]
  · unfold r_cs r_use
    rw [up2_s, up2_c (by omega), up2_c (by omega), F _ _ (by omega), up2_c (by omega), up2_c (by omega)]
  · unfold r_cs
    rw [r_use_c (by omega), up2_c (by omega), up2_c (by omega)]
    unfold r_fresh
    rw [r_note_c (by omega), up2_s, up2_c (by omega), up2_c (by omega), e143, wr_s s5]
  · intro l h1 h2 h3
    unfold csL
    rw [if_neg h2, if_neg h1, if_neg h3]
  · unfold csL
    rw [if_neg (by omega), if_pos rfl]
  · unfold csL
    rw [if_pos rfl]
  · unfold csL
    rw [if_neg (by omega), if_neg (by omega), if_pos rfl]
-- submit
def okSub (v : SV) (L : SL) (t m : Int) : Prop := v 0 0 = 1 ∧ (0 ≤ t ∧ t < 32 ∧ ¬ v 20 t.toNat = 0) ∧ (0 ≤ m ∧ m < v 22 t.toNat) ∧ (L 1).length < 24
def tsN (t : Nat) (m b : Int) (q : Nat) : Int := if q = 50 then t else if q = 51 then m else if q = 52 then b else if q = 53 then 1 else if q = 55 then -1 else 0
def tsV (v : SV) (k t : Nat) (m b : Int) : SV := fun q i => if i = k ∧ 50 ≤ q ∧ q ≤ 55 then tsN t m b q else v q i
def tsL (L : SL) (k : Nat) : SL := upL L 1 (L 1 ++ [k])
def r_ts (w : SV) (k t : Nat) (m b : Int) : SV := up2 (up2 (up2 (up2 (up2 w 135 0 (w 135 0 + 1)) 136 k 1) 137 k t) 138 k m) 140 k b
theorem RS_ts (h : RS own v L w) {k t : Nat} {m b : Int} (hk : (L 1).length = k) (k24 : k < 24) (ht : a_live5 v t) (hm : 0 ≤ m ∧ m < v 22 t) (hb : 0 ≤ b ∧ b ≤ 1) (hz : w 141 k = 0) : RS own (tsV v k t m b) (tsL L k) (r_ts w k t m b) ∧ pot (tsV v k t m b) (tsL L k) (r_ts w k t m b) ≤ pot v L w + 4 := by
  have e135 : w 135 0 = ((L 1).length : Int) := h.2.1.1.2.2.2.2.1
  have a : ∀ q, 50 ≤ q → q ≤ 55 → tsV v k t m b q k = tsN t m b q := fun q h1 h2 => if_pos ⟨rfl, h1, h2⟩
  refine RS_tsk h hk k24 ht hm hb hz (fun c hc => funext fun i => if_neg (by omega)) (fun c i hi => if_neg (by omega)) (a 50 (by omega) (by omega)) (a 51 (by omega) (by omega)) (a 52 (by omega) (by omega)) (a 53 (by omega) (by omega)) (a 54 (by omega) (by omega)) (a 55 (by omega) (by omega)) (fun c hc => funext fun i => ?_) (fun c i h1 h2 => ?_) ?_ ?_ ?_ ?_ ?_ (fun l hl => upL_n hl) upL_s
  · unfold r_ts
    rw [up2_c (by omega), up2_c (by omega), up2_c (by omega), up2_c (by omega), up2_c (by omega)]
  · unfold r_ts
    rw [up2_i h2, up2_i h2, up2_i h2, up2_i h2, up2_c h1]
  · unfold r_ts
    rw [up2_c (by omega), up2_c (by omega), up2_c (by omega), up2_c (by omega), up2_s, e135, hk]
  · unfold r_ts
    rw [up2_c (by omega), up2_c (by omega), up2_c (by omega), up2_s]
  · unfold r_ts
    rw [up2_c (by omega), up2_c (by omega), up2_s]
  · unfold r_ts
    rw [up2_c (by omega), up2_s]
  · unfold r_ts
    rw [up2_s]
end
