/-! Putting away: the reference's rounds, the class's. -/
section
variable {v v' w w' : SV} {L L' : SL} {own : Int → Nat}
/-- the sessions of c below n -/
def ssL (v : SV) (c n : Nat) : List Nat := ((List.range n).filter (fun s => decide (v 34 (8 + s) = c))).map (fun s => 8 + s)
theorem ssL_s (v : SV) (c n : Nat) : ssL v c (n + 1) = ssL v c n ++ (if v 34 (8 + n) = c then [8 + n] else []) := by
  unfold ssL
  rw [List.range_succ, List.filter_append, List.map_append]
  by_cases z : v 34 (8 + n) = c
  · simp [z]
  · simp [z]
theorem ssL_m (v : SV) (c n : Nat) : ∀ q ∈ ssL v c n, 8 ≤ q ∧ q < 8 + n ∧ v 34 q = c := by
  intro q hq
  unfold ssL at hq
  rw [List.mem_map] at hq
  obtain ⟨s, h1, rfl⟩ := hq
  rw [List.mem_filter, List.mem_range] at h1
  exact ⟨by omega, by omega, by simpa using h1.2⟩
theorem ssL_nd (v : SV) (c : Nat) : ∀ n, (ssL v c n).Nodup := by
  intro n
  induction n with
  | zero => simp [ssL]
  | succ n ih =>
    rw [ssL_s, List.nodup_append]
    refine ⟨ih, by split <;> simp, fun a ha b hb => ?_⟩
    have := ssL_m v c n a ha
    split at hb
    · rw [List.mem_singleton] at hb; omega
    · simp at hb
theorem cnt_s (h : RS own v L w) {c : Nat} : ∀ n, n ≤ (L 0).length → imN w c n = cntMem v (ssL v c n) := by
  intro n
  induction n with
  | zero => intro _; simp [imN, sm, ssL, cntMem]
  | succ n ih =>
    intro hn
    have l24 := h.1.2.2.2.2.1.2.1
    have hs : imN w c (n + 1) = imN w c n + (if w 119 n = c ∧ w 121 n = 1 then 1 else 0) := rfl
    rw [hs, ih (by omega), ssL_s]
    obtain ⟨_, _, q⟩ : n < (L 0).length ∧ v 20 (8 + n) = 3 ∧ eP v w n := by
      rcases h.2.1.2.2.2.2.2.2.1.1 n (by omega) with q | q
      · exact q
      · omega
    have e34 := q.2.2.2.1
    have e36 := q.2.2.2.2.2.1
    unfold cntMem
    rw [List.countP_append]
    by_cases z : v 34 (8 + n) = c
    · rw [if_pos z]
      by_cases y : v 36 (8 + n) = 1
      · rw [if_pos (by omega)]; simp [y]
      · rw [if_neg (by omega)]; simp [y]
    · rw [if_neg z, if_neg (by omega)]; simp
/-- the reference's choice -/
def couP (w : SV) (c k : Nat) : Prop := w 119 k = c ∧ w 121 k = 1 ∧ sm 8 (rowN w (8 + k) 0) = 0
noncomputable def oB (w : SV) (c : Nat) : Nat → Int
  | 0 => -1
  | k + 1 => cif (couP w c k ∧ (oB w c k < 0 ∨ w 122 k < w 122 (oB w c k).toNat)) (k : Int) (oB w c k)
theorem oB_b (w : SV) (c : Nat) : ∀ n, -1 ≤ oB w c n ∧ oB w c n < n := by
  intro n
  induction n with
  | zero => unfold oB; omega
  | succ n ih =>
    rw [oB]
    unfold cif
    split <;> omega
theorem oB_e (h : RS own v L w) {c : Nat} : ∀ n, n ≤ (L 0).length → (lu v (ssL v c n) = none ∧ oB w c n = -1 ∨ ∃ k : Nat, k < n ∧ lu v (ssL v c n) = some (8 + k) ∧ oB w c n = k ∧ v 36 (8 + k) = 1 ∧ v 37 (8 + k) = 0 ∧ v 34 (8 + k) = c) := by
  intro n
  induction n with
  | zero => intro _; exact Or.inl ⟨rfl, rfl⟩
  | succ n ih =>
    intro hn
    have l24 := h.1.2.2.2.2.1.2.1
    obtain ⟨_, _, q⟩ : n < (L 0).length ∧ v 20 (8 + n) = 3 ∧ eP v w n := by
      rcases h.2.1.2.2.2.2.2.2.1.1 n (by omega) with q | q
      · exact q
      · omega
    have e34 := q.2.2.2.1
    have e36 := q.2.2.2.2.2.1
    have e37 := q.2.2.2.2.2.2.2.2.2.2.2.2.1
    have hcou : couP w c n ↔ v 34 (8 + n) = c ∧ v 36 (8 + n) = 1 ∧ v 37 (8 + n) = 0 := by
      unfold couP
      rw [all_e h.2.1]
      omega
    have hord := h.2.1.2.2.2.2.2.2.1.2.1
    have hlu : lu v (ssL v c (n + 1)) = if v 34 (8 + n) = c then luStep v (lu v (ssL v c n)) (8 + n) else lu v (ssL v c n) := by
      rw [ssL_s]
      unfold lu
      rw [List.foldl_append]
      split <;> rfl
    rw [hlu, oB]
    by_cases z : v 34 (8 + n) = c
    · rw [if_pos z]
      unfold luStep
      rcases ih (by omega) with ⟨i1, i2⟩ | ⟨k, k1, k2, k3, k4, k5, k6⟩
      · rw [i1, i2]
        by_cases y : v 36 (8 + n) = 1 ∧ v 37 (8 + n) = 0
        · rw [cif_t ⟨y.1, y.2, fun q hq => by cases hq⟩, cif_t ⟨hcou.mpr ⟨z, y⟩, Or.inl (by omega)⟩]
          exact Or.inr ⟨n, by omega, rfl, rfl, y.1, y.2, z⟩
        · rw [cif_f (fun q => y ⟨q.1, q.2.1⟩), cif_f (fun q => y (hcou.mp q.1).2)]
          exact Or.inl ⟨rfl, rfl⟩
      · rw [k2, k3]
        have ho := hord n k (by omega) (by omega)
        by_cases y : v 36 (8 + n) = 1 ∧ v 37 (8 + n) = 0 ∧ v 38 (8 + n) < v 38 (8 + k)
        · rw [cif_t ⟨y.1, y.2.1, fun q hq => by cases hq; exact y.2.2⟩, cif_t ⟨hcou.mpr ⟨z, y.1, y.2.1⟩, Or.inr (by rw [Int.toNat_natCast]; exact ho.mp y.2.2)⟩]
          exact Or.inr ⟨n, by omega, rfl, rfl, y.1, y.2.1, z⟩
        · rw [cif_f (fun q => y ⟨q.1, q.2.1, q.2.2 _ rfl⟩), cif_f (fun q => y ?_)]
          · exact Or.inr ⟨k, by omega, rfl, rfl, k4, k5, k6⟩
          · have h1 := hcou.mp q.1
            refine ⟨h1.2.1, h1.2.2, ho.mpr ?_⟩
            rcases q.2 with q2 | q2
            · omega
            · rw [Int.toNat_natCast] at q2; exact q2
    · rw [if_neg z, cif_f (fun q => z (hcou.mp q.1).1)]
      rcases ih (by omega) with i1 | ⟨k, k1, k2⟩
      · exact Or.inl i1
      · exact Or.inr ⟨k, by omega, k2⟩
/-- a round, on the class's side -/
noncomputable def prV (l : List Nat) (c : Nat) (v : SV) : SV := cif (v 41 c < cntMem v l) (match lu v l with | none => v | some q => m_putAway v q) v
noncomputable def prN (l : List Nat) (c : Nat) : Nat → SV → SV
  | 0, v => v
  | n + 1, v => prN l c n (prV l c v)
theorem lu_mem {l : List Nat} {q : Nat} (h : lu v l = some q) : q ∈ l ∧ v 36 q = 1 := by
  have : ∀ (l : List Nat) (acc : Option Nat), l.foldl (luStep v) acc = some q → acc = some q ∨ q ∈ l ∧ v 36 q = 1 := by
    intro l
    induction l with
    | nil => exact fun acc h => Or.inl h
    | cons a l ih =>
      intro acc h
      rw [List.foldl_cons] at h
      rcases ih _ h with h1 | h1
      · unfold luStep cif at h1
        split at h1
        · rename_i y
          cases h1
          exact Or.inr ⟨by simp, y.1⟩
        · exact Or.inl h1
      · exact Or.inr ⟨by simp [h1.1], h1.2⟩
  rcases this l none h with h1 | h1
  · cases h1
  · exact h1
theorem cnt_put : ∀ (l : List Nat) (q : Nat), l.Nodup → q ∈ l → v 36 q = 1 → cntMem (m_putAway v q) l = cntMem v l - 1 := by
  intro l q
  have e36 : ∀ j, m_putAway v q 36 j = if j = q then 3 else v 36 j := by
    intro j
    unfold m_putAway
    rw [m_note_c (by omega)]
    unfold up2; simp
  have out : ∀ l : List Nat, q ∉ l → cntMem (m_putAway v q) l = cntMem v l := by
    intro l
    induction l with
    | nil => exact fun _ => rfl
    | cons a l ih =>
      intro h
      rw [cntMem_cons, cntMem_cons, ih (fun z => h (by simp [z])), e36, if_neg (show ¬ a = q from fun z => h (by simp [z]))]
  induction l with
  | nil => intro _ h; simp at h
  | cons a l ih =>
    intro hn hm h1
    rw [List.nodup_cons] at hn
    rw [cntMem_cons, cntMem_cons, e36]
    by_cases z : a = q
    · subst z
      rw [out l hn.1, if_pos rfl, if_neg (by omega), if_pos h1]
      omega
    · rw [ih hn.2 (by rcases List.mem_cons.mp hm with y | y; exact absurd y.symm z; exact y) h1, if_neg z]
      omega
theorem paN_none {l : List Nat} (h : lu v l = none) : ∀ n, paN l n v = v := by
  intro n
  induction n with
  | zero => rfl
  | succ n ih => rw [paN, h]; exact ih
theorem prN_e {l : List Nat} {c : Nat} (hl : l.Nodup) : ∀ (k : Nat) (v : SV), (cntMem v l - v 41 c).toNat ≤ k → prN l c k v = m_pabs v l c := by
  intro k
  induction k with
  | zero =>
    intro v h
    unfold m_pabs
    rw [show (cntMem v l - v 41 c).toNat = 0 by omega]
    rfl
  | succ k ih =>
    intro v h
    rw [prN]
    by_cases z : v 41 c < cntMem v l
    · have e : prV l c v = (match lu v l with | none => v | some q => m_putAway v q) := cif_t z
      rw [e]
      cases e2 : lu v l with
      | none =>
        show prN l c k v = _
        have : ∀ k, prN l c k v = v := by
          intro k
          induction k with
          | zero => rfl
          | succ k ih2 =>
            rw [prN, show prV l c v = v by rw [e, e2]]
            exact ih2
        rw [this]
        unfold m_pabs
        rw [paN_none e2]
      | some q =>
        show prN l c k (m_putAway v q) = _
        obtain ⟨m1, m2⟩ := lu_mem e2
        have hc := cnt_put l q hl m1 m2
        have e41 : m_putAway v q 41 c = v 41 c := m_putAway_c (by omega)
        rw [ih (m_putAway v q) (by rw [hc, e41]; omega)]
        unfold m_pabs
        rw [hc, e41]
        obtain ⟨n, en⟩ : ∃ n, (cntMem v l - v 41 c).toNat = n + 1 := ⟨(cntMem v l - v 41 c).toNat - 1, by omega⟩
        rw [en, paN, e2, show (cntMem v l - 1 - v 41 c).toNat = n by omega]
    · rw [show prV l c v = v from cif_f z]
      exact ih v (by omega)
theorem prV_c {l : List Nat} {c d i : Nat} (h : d ≠ 4 ∧ d ≠ 6 ∧ d ≠ 36) : prV l c v d i = v d i := by
  unfold prV
  by_cases z : v 41 c < cntMem v l
  · rw [cif_t z]
    cases e : lu v l with
    | none => rfl
    | some q => exact m_putAway_c h
  · rw [cif_f z]
end
section
variable {X : XC} {L : SL}
theorem d_putAway {own : Int → Nat} {s : SV} {M : SL} {w : SV} {c : Nat} (h60 : w 60 0 = 1) (hR : RS own s M w) (hc8 : c < 8) (h40 : s 40 c = 1) (hp : pot s M w ≤ 2100) : AHolds X y_R_putAway [aR 20 0, aI c] w L 20 800 0 0 (fun r w' L' => (r = none ∧ L = L') ∧ same w w' ∧ (∃ own', RS own' (m_pabs s (M (300 + c)) c) M w') ∧ pot (m_pabs s (M (300 + c)) c) M w' ≤ pot s M w) := by
  have eL : M (300 + c) = ssL s c (M 0).length := hR.2.1.2.2.2.2.2.2.1.2.2 c h40
  have nd : (M (300 + c)).Nodup := by rw [eL]; exact ssL_nd _ _ _
  have l24 := hR.1.2.2.2.2.1.2.1
  have cm := cntMem_le s (M (300 + c))
  have ll : (M (300 + c)).length ≤ 24 := by
    rw [eL]
    unfold ssL
    rw [List.length_map]
    refine Nat.le_trans (List.length_filter_le _ _) ?_
    rw [List.length_range]; exact l24
  have e41 : 0 ≤ s 41 c := by
    rcases hR.1.2.2.2.2.1.1 c hc8 with q | q
    · omega
    · exact q.2
  have fin := prN_e (c := c) nd 24 s (by omega)
  have i0 : iS (0 : Int) := by constructor <;> decide
  have i2 : iS (2 : Int) := by constructor <;> decide
  refine a_sm fun hS => ?_
  refine a_met ok_R_putAway (by decide +kernel) (Nat.le_of_ble_eq_true rfl) fun go st => ?_
  -- the choice of one round
  have inner : ∀ (own : Int → Nat) (s1 w1 : SV), RS own s1 M w1 → w1 60 0 = 1 → (∀ c i, iS (w1 c i)) → ∀ (m n : Nat) (j : Int) (ls : ALc), n + m = (M 0).length → ls 0 = some (aR 20 0) → ls 1 = some (aI c) → ls 2 = some (aI j) → ls 3 = some (aI (oB w1 c n)) → ls 4 = some (aI n) → (∀ ls' : ALc, ls' 0 = some (aR 20 0) → ls' 1 = some (aI c) → ls' 2 = some (aI j) → ls' 3 = some (aI (oB w1 c (M 0).length)) → go 101 ls' [] w1 L 0 0) → go 13 ls [] w1 L 0 0 := by
    intro own s1 w1 hR1 w60 hS m
    have e118 : w1 118 0 = ((M 0).length : Int) := hR1.2.1.1.2.2.2.1
    obtain ⟨o1, o2, o3, o4⟩ := ref_ok hR1
    induction m with
    | zero =>
      intro n j ls hn l0 l1 l2 l3 l4 K
      have en : n = (M 0).length := by omega
      subst en
      refine st 13 _ _ _ _ _ _ _ rfl ?_
      repeat' first | (refine a_si ?sd ?_; case sd => (first | (first | assumption | exact hS _ _ | omega | (constructor <;> omega) | (show _ = (1 : Int) ∨ _ = (2 : Int) ∨ _ = (3 : Int); omega)) | (refine ⟨?_, ?_⟩ <;> (first | assumption | exact hS _ _ | omega | (constructor <;> omega) | (show _ = (1 : Int) ∨ _ = (2 : Int) ∨ _ = (3 : Int); omega))) | (refine ⟨?_, ?_, ?_⟩ <;> (first | assumption | exact hS _ _ | omega | (constructor <;> omega) | (show _ = (1 : Int) ∨ _ = (2 : Int) ∨ _ = (3 : Int); omega))) | (refine ⟨?_, ?_, ?_, ?_⟩ <;> (first | assumption | exact hS _ _ | omega | (constructor <;> omega) | (show _ = (1 : Int) ∨ _ = (2 : Int) ∨ _ = (3 : Int); omega))) | (refine ⟨⟨?_, ?_⟩, ?_, ?_⟩ <;> (first | assumption | exact hS _ _ | omega | (constructor <;> omega) | (show _ = (1 : Int) ∨ _ = (2 : Int) ∨ _ = (3 : Int); omega))) | decide | (simp only [r_note, up2, Int.toNat_natCast, a_live5, not_true_eq_false, not_false_eq_true, Nat.reduceEqDiff, false_and, true_and, and_true, and_false, and_self, if_true, if_false, ↓reduceIte, reduceCtorEq]; first | (first | assumption | exact hS _ _ | omega | (constructor <;> omega) | (show _ = (1 : Int) ∨ _ = (2 : Int) ∨ _ = (3 : Int); omega)) | (refine ⟨?_, ?_⟩ <;> (first | assumption | exact hS _ _ | omega | (constructor <;> omega) | (show _ = (1 : Int) ∨ _ = (2 : Int) ∨ _ = (3 : Int); omega))) | (refine ⟨?_, ?_, ?_⟩ <;> (first | assumption | exact hS _ _ | omega | (constructor <;> omega) | (show _ = (1 : Int) ∨ _ = (2 : Int) ∨ _ = (3 : Int); omega))) | (refine ⟨?_, ?_, ?_, ?_⟩ <;> (first | assumption | exact hS _ _ | omega | (constructor <;> omega) | (show _ = (1 : Int) ∨ _ = (2 : Int) ∨ _ = (3 : Int); omega))) | (refine ⟨⟨?_, ?_⟩, ?_, ?_⟩ <;> (first | assumption | exact hS _ _ | omega | (constructor <;> omega) | (show _ = (1 : Int) ∨ _ = (2 : Int) ∨ _ = (3 : Int); omega))) | decide))) | (refine And.intro ?_ ?_ <;> (intro hc; (try simp only [r_note, up2, Int.toNat_natCast, a_live5, not_true_eq_false, not_false_eq_true, Nat.reduceEqDiff, false_and, true_and, and_true, and_false, and_self, if_true, if_false, ↓reduceIte, reduceCtorEq] at hc); try (exfalso; first | assumption | omega))) | (refine x_som_i l0 ?_) | (refine x_som_i l1 ?_) | (refine x_som_i l2 ?_) | (refine x_som_i l3 ?_) | (refine x_som_i l4 ?_) | (refine x_som_i l5 ?_) | (refine x_som_i l6 ?_) | (refine x_som_i l7 ?_) | (refine x_som_i l8 ?_) | (refine x_som_i l9 ?_) | (refine a_wo ?sd ?_; case sd => (first | exact hS _ _ | assumption | (constructor <;> omega) | (simp only [r_note, up2, Int.toNat_natCast, a_live5, not_true_eq_false, not_false_eq_true, Nat.reduceEqDiff, false_and, true_and, and_true, and_false, and_self, if_true, if_false, ↓reduceIte, reduceCtorEq]; first | exact hS _ _ | assumption | (constructor <;> omega)))) | (refine st 0 _ _ _ _ _ _ _ rfl ?_) | (refine st 64 _ _ _ _ _ _ _ rfl ?_) | (refine st 65 _ _ _ _ _ _ _ rfl ?_) | (refine st 92 _ _ _ _ _ _ _ rfl ?_) | (refine st 95 _ _ _ _ _ _ _ rfl ?_) | (refine st 138 _ _ _ _ _ _ _ rfl ?_) | (refine st 144 _ _ _ _ _ _ _ rfl ?_)
      exact K _ l0 l1 l2 l3
    | succ m ih =>
      intro n j ls hn l0 l1 l2 l3 l4 K
      have ob := oB_b w1 c n
      have eo : oB w1 c (n + 1) = cif (couP w1 c n ∧ (oB w1 c n < 0 ∨ w1 122 n < w1 122 (oB w1 c n).toNat)) (n : Int) (oB w1 c n) := rfl
      have ecp : couP w1 c n = (w1 119 n = c ∧ w1 121 n = 1 ∧ sm 8 (rowN w1 (8 + n) 0) = 0) := rfl
      have e8 : (8 : Int) + (n : Int) = ((8 + n : Nat) : Int) := by omega
      have rb := row_b w1 (8 + n) 0
      have m0 : AHolds X y_R_methodsIn [aR 20 0, aI (8 + (n : Int)), aI 0, aI 8, aI 0] w1 L 0 0 0 0 (fun r v' L' => r = some (aI (sm 8 (rowN w1 (8 + n) 0))) ∧ w1 = v' ∧ L = L') := by
        have := d_methodsIn (X := X) (L := L) (v := w1) (t := 8 + n) (a := 0) (b := 8) 0 w60 o1 (by omega) (by omega) i0
        rw [rgN_8, ← e8] at this
        exact this
      have no : ¬ couP w1 c n → ∀ ls : ALc, ls 0 = some (aR 20 0) → ls 1 = some (aI c) → ls 2 = some (aI j) → ls 3 = some (aI (oB w1 c n)) → ls 4 = some (aI n) → go 64 ls [] w1 L 0 0 := by
        intro hno ls l0 l1 l2 l3 l4
        rw [cif_f (fun q => hno q.1)] at eo
        refine st 64 _ _ _ _ _ _ _ rfl ?_
        repeat' first | (refine a_si ?sd ?_; case sd => (first | (first | assumption | exact hS _ _ | omega | (constructor <;> omega) | (show _ = (1 : Int) ∨ _ = (2 : Int) ∨ _ = (3 : Int); omega)) | (refine ⟨?_, ?_⟩ <;> (first | assumption | exact hS _ _ | omega | (constructor <;> omega) | (show _ = (1 : Int) ∨ _ = (2 : Int) ∨ _ = (3 : Int); omega))) | (refine ⟨?_, ?_, ?_⟩ <;> (first | assumption | exact hS _ _ | omega | (constructor <;> omega) | (show _ = (1 : Int) ∨ _ = (2 : Int) ∨ _ = (3 : Int); omega))) | (refine ⟨?_, ?_, ?_, ?_⟩ <;> (first | assumption | exact hS _ _ | omega | (constructor <;> omega) | (show _ = (1 : Int) ∨ _ = (2 : Int) ∨ _ = (3 : Int); omega))) | (refine ⟨⟨?_, ?_⟩, ?_, ?_⟩ <;> (first | assumption | exact hS _ _ | omega | (constructor <;> omega) | (show _ = (1 : Int) ∨ _ = (2 : Int) ∨ _ = (3 : Int); omega))) | decide | (simp only [r_note, up2, Int.toNat_natCast, a_live5, not_true_eq_false, not_false_eq_true, Nat.reduceEqDiff, false_and, true_and, and_true, and_false, and_self, if_true, if_false, ↓reduceIte, reduceCtorEq]; first | (first | assumption | exact hS _ _ | omega | (constructor <;> omega) | (show _ = (1 : Int) ∨ _ = (2 : Int) ∨ _ = (3 : Int); omega)) | (refine ⟨?_, ?_⟩ <;> (first | assumption | exact hS _ _ | omega | (constructor <;> omega) | (show _ = (1 : Int) ∨ _ = (2 : Int) ∨ _ = (3 : Int); omega))) | (refine ⟨?_, ?_, ?_⟩ <;> (first | assumption | exact hS _ _ | omega | (constructor <;> omega) | (show _ = (1 : Int) ∨ _ = (2 : Int) ∨ _ = (3 : Int); omega))) | (refine ⟨?_, ?_, ?_, ?_⟩ <;> (first | assumption | exact hS _ _ | omega | (constructor <;> omega) | (show _ = (1 : Int) ∨ _ = (2 : Int) ∨ _ = (3 : Int); omega))) | (refine ⟨⟨?_, ?_⟩, ?_, ?_⟩ <;> (first | assumption | exact hS _ _ | omega | (constructor <;> omega) | (show _ = (1 : Int) ∨ _ = (2 : Int) ∨ _ = (3 : Int); omega))) | decide))) | (refine And.intro ?_ ?_ <;> (intro hc; (try simp only [r_note, up2, Int.toNat_natCast, a_live5, not_true_eq_false, not_false_eq_true, Nat.reduceEqDiff, false_and, true_and, and_true, and_false, and_self, if_true, if_false, ↓reduceIte, reduceCtorEq] at hc); try (exfalso; first | assumption | omega))) | (refine x_som_i l0 ?_) | (refine x_som_i l1 ?_) | (refine x_som_i l2 ?_) | (refine x_som_i l3 ?_) | (refine x_som_i l4 ?_) | (refine x_som_i l5 ?_) | (refine x_som_i l6 ?_) | (refine x_som_i l7 ?_) | (refine x_som_i l8 ?_) | (refine x_som_i l9 ?_) | (refine a_wo ?sd ?_; case sd => (first | exact hS _ _ | assumption | (constructor <;> omega) | (simp only [r_note, up2, Int.toNat_natCast, a_live5, not_true_eq_false, not_false_eq_true, Nat.reduceEqDiff, false_and, true_and, and_true, and_false, and_self, if_true, if_false, ↓reduceIte, reduceCtorEq]; first | exact hS _ _ | assumption | (constructor <;> omega)))) | (refine st 0 _ _ _ _ _ _ _ rfl ?_) | (refine st 64 _ _ _ _ _ _ _ rfl ?_) | (refine st 65 _ _ _ _ _ _ _ rfl ?_) | (refine st 92 _ _ _ _ _ _ _ rfl ?_) | (refine st 95 _ _ _ _ _ _ _ rfl ?_) | (refine st 138 _ _ _ _ _ _ _ rfl ?_) | (refine st 144 _ _ _ _ _ _ _ rfl ?_)
        exact ih (n + 1) j _ (by omega) l0 l1 l2 (by rw [eo]; exact l3) rfl K
      refine st 13 _ _ _ _ _ _ _ rfl ?_
      repeat' first | (refine a_si ?sd ?_; case sd => (first | (first | assumption | exact hS _ _ | omega | (constructor <;> omega) | (show _ = (1 : Int) ∨ _ = (2 : Int) ∨ _ = (3 : Int); omega)) | (refine ⟨?_, ?_⟩ <;> (first | assumption | exact hS _ _ | omega | (constructor <;> omega) | (show _ = (1 : Int) ∨ _ = (2 : Int) ∨ _ = (3 : Int); omega))) | (refine ⟨?_, ?_, ?_⟩ <;> (first | assumption | exact hS _ _ | omega | (constructor <;> omega) | (show _ = (1 : Int) ∨ _ = (2 : Int) ∨ _ = (3 : Int); omega))) | (refine ⟨?_, ?_, ?_, ?_⟩ <;> (first | assumption | exact hS _ _ | omega | (constructor <;> omega) | (show _ = (1 : Int) ∨ _ = (2 : Int) ∨ _ = (3 : Int); omega))) | (refine ⟨⟨?_, ?_⟩, ?_, ?_⟩ <;> (first | assumption | exact hS _ _ | omega | (constructor <;> omega) | (show _ = (1 : Int) ∨ _ = (2 : Int) ∨ _ = (3 : Int); omega))) | decide | (simp only [r_note, up2, Int.toNat_natCast, a_live5, not_true_eq_false, not_false_eq_true, Nat.reduceEqDiff, false_and, true_and, and_true, and_false, and_self, if_true, if_false, ↓reduceIte, reduceCtorEq]; first | (first | assumption | exact hS _ _ | omega | (constructor <;> omega) | (show _ = (1 : Int) ∨ _ = (2 : Int) ∨ _ = (3 : Int); omega)) | (refine ⟨?_, ?_⟩ <;> (first | assumption | exact hS _ _ | omega | (constructor <;> omega) | (show _ = (1 : Int) ∨ _ = (2 : Int) ∨ _ = (3 : Int); omega))) | (refine ⟨?_, ?_, ?_⟩ <;> (first | assumption | exact hS _ _ | omega | (constructor <;> omega) | (show _ = (1 : Int) ∨ _ = (2 : Int) ∨ _ = (3 : Int); omega))) | (refine ⟨?_, ?_, ?_, ?_⟩ <;> (first | assumption | exact hS _ _ | omega | (constructor <;> omega) | (show _ = (1 : Int) ∨ _ = (2 : Int) ∨ _ = (3 : Int); omega))) | (refine ⟨⟨?_, ?_⟩, ?_, ?_⟩ <;> (first | assumption | exact hS _ _ | omega | (constructor <;> omega) | (show _ = (1 : Int) ∨ _ = (2 : Int) ∨ _ = (3 : Int); omega))) | decide))) | (refine And.intro ?_ ?_ <;> (intro hc; (try simp only [r_note, up2, Int.toNat_natCast, a_live5, not_true_eq_false, not_false_eq_true, Nat.reduceEqDiff, false_and, true_and, and_true, and_false, and_self, if_true, if_false, ↓reduceIte, reduceCtorEq] at hc); try (exfalso; first | assumption | omega))) | (refine x_som_i l0 ?_) | (refine x_som_i l1 ?_) | (refine x_som_i l2 ?_) | (refine x_som_i l3 ?_) | (refine x_som_i l4 ?_) | (refine x_som_i l5 ?_) | (refine x_som_i l6 ?_) | (refine x_som_i l7 ?_) | (refine x_som_i l8 ?_) | (refine x_som_i l9 ?_) | (refine a_wo ?sd ?_; case sd => (first | exact hS _ _ | assumption | (constructor <;> omega) | (simp only [r_note, up2, Int.toNat_natCast, a_live5, not_true_eq_false, not_false_eq_true, Nat.reduceEqDiff, false_and, true_and, and_true, and_false, and_self, if_true, if_false, ↓reduceIte, reduceCtorEq]; first | exact hS _ _ | assumption | (constructor <;> omega)))) | (refine st 0 _ _ _ _ _ _ _ rfl ?_) | (refine st 65 _ _ _ _ _ _ _ rfl ?_) | (refine st 92 _ _ _ _ _ _ _ rfl ?_) | (refine st 95 _ _ _ _ _ _ _ rfl ?_) | (refine st 138 _ _ _ _ _ _ _ rfl ?_) | (refine st 144 _ _ _ _ _ _ _ rfl ?_)
      · exact no (by rw [ecp]; omega) _ l0 l1 l2 l3 l4
      · exact no (by rw [ecp]; omega) _ l0 l1 l2 l3 l4
      · refine a_ci (m0) ?room ?_
        case room => first | decide | exact ⟨by decide, by decide, by omega, by omega⟩ | exact ⟨by omega, Nat.le_trans (m := 200) (by decide) (by omega), by omega, by omega⟩
        rintro _ _ _ ⟨rfl, rfl, rfl⟩
        repeat' first | (refine a_si ?sd ?_; case sd => (first | (first | assumption | exact hS _ _ | omega | (constructor <;> omega) | (show _ = (1 : Int) ∨ _ = (2 : Int) ∨ _ = (3 : Int); omega)) | (refine ⟨?_, ?_⟩ <;> (first | assumption | exact hS _ _ | omega | (constructor <;> omega) | (show _ = (1 : Int) ∨ _ = (2 : Int) ∨ _ = (3 : Int); omega))) | (refine ⟨?_, ?_, ?_⟩ <;> (first | assumption | exact hS _ _ | omega | (constructor <;> omega) | (show _ = (1 : Int) ∨ _ = (2 : Int) ∨ _ = (3 : Int); omega))) | (refine ⟨?_, ?_, ?_, ?_⟩ <;> (first | assumption | exact hS _ _ | omega | (constructor <;> omega) | (show _ = (1 : Int) ∨ _ = (2 : Int) ∨ _ = (3 : Int); omega))) | (refine ⟨⟨?_, ?_⟩, ?_, ?_⟩ <;> (first | assumption | exact hS _ _ | omega | (constructor <;> omega) | (show _ = (1 : Int) ∨ _ = (2 : Int) ∨ _ = (3 : Int); omega))) | decide | (simp only [r_note, up2, Int.toNat_natCast, a_live5, not_true_eq_false, not_false_eq_true, Nat.reduceEqDiff, false_and, true_and, and_true, and_false, and_self, if_true, if_false, ↓reduceIte, reduceCtorEq]; first | (first | assumption | exact hS _ _ | omega | (constructor <;> omega) | (show _ = (1 : Int) ∨ _ = (2 : Int) ∨ _ = (3 : Int); omega)) | (refine ⟨?_, ?_⟩ <;> (first | assumption | exact hS _ _ | omega | (constructor <;> omega) | (show _ = (1 : Int) ∨ _ = (2 : Int) ∨ _ = (3 : Int); omega))) | (refine ⟨?_, ?_, ?_⟩ <;> (first | assumption | exact hS _ _ | omega | (constructor <;> omega) | (show _ = (1 : Int) ∨ _ = (2 : Int) ∨ _ = (3 : Int); omega))) | (refine ⟨?_, ?_, ?_, ?_⟩ <;> (first | assumption | exact hS _ _ | omega | (constructor <;> omega) | (show _ = (1 : Int) ∨ _ = (2 : Int) ∨ _ = (3 : Int); omega))) | (refine ⟨⟨?_, ?_⟩, ?_, ?_⟩ <;> (first | assumption | exact hS _ _ | omega | (constructor <;> omega) | (show _ = (1 : Int) ∨ _ = (2 : Int) ∨ _ = (3 : Int); omega))) | decide))) | (refine And.intro ?_ ?_ <;> (intro hc; (try simp only [r_note, up2, Int.toNat_natCast, a_live5, not_true_eq_false, not_false_eq_true, Nat.reduceEqDiff, false_and, true_and, and_true, and_false, and_self, if_true, if_false, ↓reduceIte, reduceCtorEq] at hc); try (exfalso; first | assumption | omega))) | (refine x_som_i l0 ?_) | (refine x_som_i l1 ?_) | (refine x_som_i l2 ?_) | (refine x_som_i l3 ?_) | (refine x_som_i l4 ?_) | (refine x_som_i l5 ?_) | (refine x_som_i l6 ?_) | (refine x_som_i l7 ?_) | (refine x_som_i l8 ?_) | (refine x_som_i l9 ?_) | (refine a_wo ?sd ?_; case sd => (first | exact hS _ _ | assumption | (constructor <;> omega) | (simp only [r_note, up2, Int.toNat_natCast, a_live5, not_true_eq_false, not_false_eq_true, Nat.reduceEqDiff, false_and, true_and, and_true, and_false, and_self, if_true, if_false, ↓reduceIte, reduceCtorEq]; first | exact hS _ _ | assumption | (constructor <;> omega)))) | (refine st 0 _ _ _ _ _ _ _ rfl ?_) | (refine st 65 _ _ _ _ _ _ _ rfl ?_) | (refine st 92 _ _ _ _ _ _ _ rfl ?_) | (refine st 95 _ _ _ _ _ _ _ rfl ?_) | (refine st 138 _ _ _ _ _ _ _ rfl ?_) | (refine st 144 _ _ _ _ _ _ _ rfl ?_)
        · exact no (by rw [ecp]; omega) _ l0 l1 l2 l3 l4
        · have hy : couP w1 c n := by rw [ecp]; omega
          rw [cif_t ⟨hy, Or.inl (by assumption)⟩] at eo
          exact ih (n + 1) j _ (by omega) l0 l1 l2 (by rw [eo]; rfl) rfl K
        · rw [cif_f (fun q => by have := q.2; omega)] at eo
          exact ih (n + 1) j _ (by omega) l0 l1 l2 (by rw [eo]; exact l3) rfl K
        · have hy : couP w1 c n := by rw [ecp]; omega
          rw [cif_t ⟨hy, Or.inr (by omega)⟩] at eo
          exact ih (n + 1) j _ (by omega) l0 l1 l2 (by rw [eo]; rfl) rfl K
  have outer : ∀ (n j : Nat) (own : Int → Nat) (s1 w1 : SV) (ls : ALc), j + n = 24 → RS own s1 M w1 → w1 60 0 = 1 → s1 40 c = 1 → s1 41 c = s 41 c → pot s1 M w1 ≤ pot s M w → same w w1 → prN (M (300 + c)) c n s1 = m_pabs s (M (300 + c)) c → (∀ c i, iS (w1 c i)) → ls 0 = some (aR 20 0) → ls 1 = some (aI c) → ls 2 = some (aI j) → go 2 ls [] w1 L 0 0 := by
    intro n
    induction n with
    | zero =>
      intro j own s1 w1 ls hj hR1 w60 h401 h411 hp1 hs1 he hS l0 l1 l2
      have he : s1 = m_pabs s (M (300 + c)) c := he
      refine st 2 _ _ _ _ _ _ _ rfl ?_
      repeat' first | (refine a_si ?sd ?_; case sd => (first | (first | assumption | exact hS _ _ | omega | (constructor <;> omega) | (show _ = (1 : Int) ∨ _ = (2 : Int) ∨ _ = (3 : Int); omega)) | (refine ⟨?_, ?_⟩ <;> (first | assumption | exact hS _ _ | omega | (constructor <;> omega) | (show _ = (1 : Int) ∨ _ = (2 : Int) ∨ _ = (3 : Int); omega))) | (refine ⟨?_, ?_, ?_⟩ <;> (first | assumption | exact hS _ _ | omega | (constructor <;> omega) | (show _ = (1 : Int) ∨ _ = (2 : Int) ∨ _ = (3 : Int); omega))) | (refine ⟨?_, ?_, ?_, ?_⟩ <;> (first | assumption | exact hS _ _ | omega | (constructor <;> omega) | (show _ = (1 : Int) ∨ _ = (2 : Int) ∨ _ = (3 : Int); omega))) | (refine ⟨⟨?_, ?_⟩, ?_, ?_⟩ <;> (first | assumption | exact hS _ _ | omega | (constructor <;> omega) | (show _ = (1 : Int) ∨ _ = (2 : Int) ∨ _ = (3 : Int); omega))) | decide | (simp only [r_note, up2, Int.toNat_natCast, a_live5, not_true_eq_false, not_false_eq_true, Nat.reduceEqDiff, false_and, true_and, and_true, and_false, and_self, if_true, if_false, ↓reduceIte, reduceCtorEq]; first | (first | assumption | exact hS _ _ | omega | (constructor <;> omega) | (show _ = (1 : Int) ∨ _ = (2 : Int) ∨ _ = (3 : Int); omega)) | (refine ⟨?_, ?_⟩ <;> (first | assumption | exact hS _ _ | omega | (constructor <;> omega) | (show _ = (1 : Int) ∨ _ = (2 : Int) ∨ _ = (3 : Int); omega))) | (refine ⟨?_, ?_, ?_⟩ <;> (first | assumption | exact hS _ _ | omega | (constructor <;> omega) | (show _ = (1 : Int) ∨ _ = (2 : Int) ∨ _ = (3 : Int); omega))) | (refine ⟨?_, ?_, ?_, ?_⟩ <;> (first | assumption | exact hS _ _ | omega | (constructor <;> omega) | (show _ = (1 : Int) ∨ _ = (2 : Int) ∨ _ = (3 : Int); omega))) | (refine ⟨⟨?_, ?_⟩, ?_, ?_⟩ <;> (first | assumption | exact hS _ _ | omega | (constructor <;> omega) | (show _ = (1 : Int) ∨ _ = (2 : Int) ∨ _ = (3 : Int); omega))) | decide))) | (refine And.intro ?_ ?_ <;> (intro hc; (try simp only [r_note, up2, Int.toNat_natCast, a_live5, not_true_eq_false, not_false_eq_true, Nat.reduceEqDiff, false_and, true_and, and_true, and_false, and_self, if_true, if_false, ↓reduceIte, reduceCtorEq] at hc); try (exfalso; first | assumption | omega))) | (refine x_som_i l0 ?_) | (refine x_som_i l1 ?_) | (refine x_som_i l2 ?_) | (refine x_som_i l3 ?_) | (refine x_som_i l4 ?_) | (refine x_som_i l5 ?_) | (refine x_som_i l6 ?_) | (refine x_som_i l7 ?_) | (refine x_som_i l8 ?_) | (refine x_som_i l9 ?_) | (refine a_wo ?sd ?_; case sd => (first | exact hS _ _ | assumption | (constructor <;> omega) | (simp only [r_note, up2, Int.toNat_natCast, a_live5, not_true_eq_false, not_false_eq_true, Nat.reduceEqDiff, false_and, true_and, and_true, and_false, and_self, if_true, if_false, ↓reduceIte, reduceCtorEq]; first | exact hS _ _ | assumption | (constructor <;> omega)))) | (refine st 0 _ _ _ _ _ _ _ rfl ?_) | (refine st 64 _ _ _ _ _ _ _ rfl ?_) | (refine st 65 _ _ _ _ _ _ _ rfl ?_) | (refine st 92 _ _ _ _ _ _ _ rfl ?_) | (refine st 95 _ _ _ _ _ _ _ rfl ?_) | (refine st 101 _ _ _ _ _ _ _ rfl ?_) | (refine st 138 _ _ _ _ _ _ _ rfl ?_) | (refine st 144 _ _ _ _ _ _ _ rfl ?_)
      rw [← he]
      exact ⟨⟨rfl, rfl⟩, hs1, ⟨own, hR1⟩, hp1⟩
    | succ n ih =>
      intro j own s1 w1 ls hj hR1 w60 h401 h411 hp1 hs1 he hS l0 l1 l2
      have he : prN (M (300 + c)) c n (prV (M (300 + c)) c s1) = m_pabs s (M (300 + c)) c := he
      have eL1 : M (300 + c) = ssL s1 c (M 0).length := hR1.2.1.2.2.2.2.2.2.1.2.2 c h401
      have e118 : w1 118 0 = ((M 0).length : Int) := hR1.2.1.1.2.2.2.1
      have e104 : w1 104 c = s1 41 c := by
        rcases hR1.2.1.2.1 c hc8 with ⟨_, z | z | z, _⟩ | z
        · have := z.2.1; omega
        · have := z.2.1; omega
        · exact z.2.2.2.1
        · have := z.2.2; omega
      have im := cnt_s hR1 (c := c) (M 0).length (Nat.le_refl _)
      rw [← eL1] at im
      have imb : 0 ≤ imN w1 c (M 0).length ∧ imN w1 c (M 0).length ≤ 24 := by
        have := cntMem_le s1 (M (300 + c)); omega
      have ob := oB_b w1 c (M 0).length
      have oe := oB_e hR1 (c := c) (M 0).length (Nat.le_refl _)
      rw [← eL1] at oe
      have eP' : prV (M (300 + c)) c s1 = cif (s1 41 c < cntMem s1 (M (300 + c))) (match lu s1 (M (300 + c)) with | none => s1 | some q => m_putAway s1 q) s1 := rfl
      have pb := pot_b hR1
      obtain ⟨o1, o2, o3, o4⟩ := ref_ok hR1
      have stay : prV (M (300 + c)) c s1 = s1 → ∀ ls : ALc, ls 0 = some (aR 20 0) → ls 1 = some (aI c) → ls 2 = some (aI j) → go 138 ls [] w1 L 0 0 := by
        intro hst ls l0 l1 l2
        rw [hst] at he
        refine st 138 _ _ _ _ _ _ _ rfl ?_
        repeat' first | (refine a_si ?sd ?_; case sd => (first | (first | assumption | exact hS _ _ | omega | (constructor <;> omega) | (show _ = (1 : Int) ∨ _ = (2 : Int) ∨ _ = (3 : Int); omega)) | (refine ⟨?_, ?_⟩ <;> (first | assumption | exact hS _ _ | omega | (constructor <;> omega) | (show _ = (1 : Int) ∨ _ = (2 : Int) ∨ _ = (3 : Int); omega))) | (refine ⟨?_, ?_, ?_⟩ <;> (first | assumption | exact hS _ _ | omega | (constructor <;> omega) | (show _ = (1 : Int) ∨ _ = (2 : Int) ∨ _ = (3 : Int); omega))) | (refine ⟨?_, ?_, ?_, ?_⟩ <;> (first | assumption | exact hS _ _ | omega | (constructor <;> omega) | (show _ = (1 : Int) ∨ _ = (2 : Int) ∨ _ = (3 : Int); omega))) | (refine ⟨⟨?_, ?_⟩, ?_, ?_⟩ <;> (first | assumption | exact hS _ _ | omega | (constructor <;> omega) | (show _ = (1 : Int) ∨ _ = (2 : Int) ∨ _ = (3 : Int); omega))) | decide | (simp only [r_note, up2, Int.toNat_natCast, a_live5, not_true_eq_false, not_false_eq_true, Nat.reduceEqDiff, false_and, true_and, and_true, and_false, and_self, if_true, if_false, ↓reduceIte, reduceCtorEq]; first | (first | assumption | exact hS _ _ | omega | (constructor <;> omega) | (show _ = (1 : Int) ∨ _ = (2 : Int) ∨ _ = (3 : Int); omega)) | (refine ⟨?_, ?_⟩ <;> (first | assumption | exact hS _ _ | omega | (constructor <;> omega) | (show _ = (1 : Int) ∨ _ = (2 : Int) ∨ _ = (3 : Int); omega))) | (refine ⟨?_, ?_, ?_⟩ <;> (first | assumption | exact hS _ _ | omega | (constructor <;> omega) | (show _ = (1 : Int) ∨ _ = (2 : Int) ∨ _ = (3 : Int); omega))) | (refine ⟨?_, ?_, ?_, ?_⟩ <;> (first | assumption | exact hS _ _ | omega | (constructor <;> omega) | (show _ = (1 : Int) ∨ _ = (2 : Int) ∨ _ = (3 : Int); omega))) | (refine ⟨⟨?_, ?_⟩, ?_, ?_⟩ <;> (first | assumption | exact hS _ _ | omega | (constructor <;> omega) | (show _ = (1 : Int) ∨ _ = (2 : Int) ∨ _ = (3 : Int); omega))) | decide))) | (refine And.intro ?_ ?_ <;> (intro hc; (try simp only [r_note, up2, Int.toNat_natCast, a_live5, not_true_eq_false, not_false_eq_true, Nat.reduceEqDiff, false_and, true_and, and_true, and_false, and_self, if_true, if_false, ↓reduceIte, reduceCtorEq] at hc); try (exfalso; first | assumption | omega))) | (refine x_som_i l0 ?_) | (refine x_som_i l1 ?_) | (refine x_som_i l2 ?_) | (refine x_som_i l3 ?_) | (refine x_som_i l4 ?_) | (refine x_som_i l5 ?_) | (refine x_som_i l6 ?_) | (refine x_som_i l7 ?_) | (refine x_som_i l8 ?_) | (refine x_som_i l9 ?_) | (refine a_wo ?sd ?_; case sd => (first | exact hS _ _ | assumption | (constructor <;> omega) | (simp only [r_note, up2, Int.toNat_natCast, a_live5, not_true_eq_false, not_false_eq_true, Nat.reduceEqDiff, false_and, true_and, and_true, and_false, and_self, if_true, if_false, ↓reduceIte, reduceCtorEq]; first | exact hS _ _ | assumption | (constructor <;> omega)))) | (refine st 0 _ _ _ _ _ _ _ rfl ?_) | (refine st 64 _ _ _ _ _ _ _ rfl ?_) | (refine st 65 _ _ _ _ _ _ _ rfl ?_) | (refine st 92 _ _ _ _ _ _ _ rfl ?_) | (refine st 95 _ _ _ _ _ _ _ rfl ?_) | (refine st 101 _ _ _ _ _ _ _ rfl ?_) | (refine st 138 _ _ _ _ _ _ _ rfl ?_) | (refine st 144 _ _ _ _ _ _ _ rfl ?_)
        exact ih (j + 1) own s1 w1 _ (by omega) hR1 w60 h401 h411 hp1 hs1 he hS l0 l1 rfl
      refine st 2 _ _ _ _ _ _ _ rfl ?_
      repeat' first | (refine a_si ?sd ?_; case sd => (first | (first | assumption | exact hS _ _ | omega | (constructor <;> omega) | (show _ = (1 : Int) ∨ _ = (2 : Int) ∨ _ = (3 : Int); omega)) | (refine ⟨?_, ?_⟩ <;> (first | assumption | exact hS _ _ | omega | (constructor <;> omega) | (show _ = (1 : Int) ∨ _ = (2 : Int) ∨ _ = (3 : Int); omega))) | (refine ⟨?_, ?_, ?_⟩ <;> (first | assumption | exact hS _ _ | omega | (constructor <;> omega) | (show _ = (1 : Int) ∨ _ = (2 : Int) ∨ _ = (3 : Int); omega))) | (refine ⟨?_, ?_, ?_, ?_⟩ <;> (first | assumption | exact hS _ _ | omega | (constructor <;> omega) | (show _ = (1 : Int) ∨ _ = (2 : Int) ∨ _ = (3 : Int); omega))) | (refine ⟨⟨?_, ?_⟩, ?_, ?_⟩ <;> (first | assumption | exact hS _ _ | omega | (constructor <;> omega) | (show _ = (1 : Int) ∨ _ = (2 : Int) ∨ _ = (3 : Int); omega))) | decide | (simp only [r_note, up2, Int.toNat_natCast, a_live5, not_true_eq_false, not_false_eq_true, Nat.reduceEqDiff, false_and, true_and, and_true, and_false, and_self, if_true, if_false, ↓reduceIte, reduceCtorEq]; first | (first | assumption | exact hS _ _ | omega | (constructor <;> omega) | (show _ = (1 : Int) ∨ _ = (2 : Int) ∨ _ = (3 : Int); omega)) | (refine ⟨?_, ?_⟩ <;> (first | assumption | exact hS _ _ | omega | (constructor <;> omega) | (show _ = (1 : Int) ∨ _ = (2 : Int) ∨ _ = (3 : Int); omega))) | (refine ⟨?_, ?_, ?_⟩ <;> (first | assumption | exact hS _ _ | omega | (constructor <;> omega) | (show _ = (1 : Int) ∨ _ = (2 : Int) ∨ _ = (3 : Int); omega))) | (refine ⟨?_, ?_, ?_, ?_⟩ <;> (first | assumption | exact hS _ _ | omega | (constructor <;> omega) | (show _ = (1 : Int) ∨ _ = (2 : Int) ∨ _ = (3 : Int); omega))) | (refine ⟨⟨?_, ?_⟩, ?_, ?_⟩ <;> (first | assumption | exact hS _ _ | omega | (constructor <;> omega) | (show _ = (1 : Int) ∨ _ = (2 : Int) ∨ _ = (3 : Int); omega))) | decide))) | (refine And.intro ?_ ?_ <;> (intro hc; (try simp only [r_note, up2, Int.toNat_natCast, a_live5, not_true_eq_false, not_false_eq_true, Nat.reduceEqDiff, false_and, true_and, and_true, and_false, and_self, if_true, if_false, ↓reduceIte, reduceCtorEq] at hc); try (exfalso; first | assumption | omega))) | (refine x_som_i l0 ?_) | (refine x_som_i l1 ?_) | (refine x_som_i l2 ?_) | (refine x_som_i l3 ?_) | (refine x_som_i l4 ?_) | (refine x_som_i l5 ?_) | (refine x_som_i l6 ?_) | (refine x_som_i l7 ?_) | (refine x_som_i l8 ?_) | (refine x_som_i l9 ?_) | (refine a_wo ?sd ?_; case sd => (first | exact hS _ _ | assumption | (constructor <;> omega) | (simp only [r_note, up2, Int.toNat_natCast, a_live5, not_true_eq_false, not_false_eq_true, Nat.reduceEqDiff, false_and, true_and, and_true, and_false, and_self, if_true, if_false, ↓reduceIte, reduceCtorEq]; first | exact hS _ _ | assumption | (constructor <;> omega)))) | (refine st 0 _ _ _ _ _ _ _ rfl ?_) | (refine st 64 _ _ _ _ _ _ _ rfl ?_) | (refine st 65 _ _ _ _ _ _ _ rfl ?_) | (refine st 92 _ _ _ _ _ _ _ rfl ?_) | (refine st 95 _ _ _ _ _ _ _ rfl ?_) | (refine st 138 _ _ _ _ _ _ _ rfl ?_) | (refine st 144 _ _ _ _ _ _ _ rfl ?_)
      refine inner own s1 w1 hR1 w60 hS (M 0).length 0 j _ (by omega) l0 l1 l2 rfl rfl ?_
      intro ls l0 l1 l2 l3
      refine st 101 _ _ _ _ _ _ _ rfl ?_
      repeat' first | (refine a_si ?sd ?_; case sd => (first | (first | assumption | exact hS _ _ | omega | (constructor <;> omega) | (show _ = (1 : Int) ∨ _ = (2 : Int) ∨ _ = (3 : Int); omega)) | (refine ⟨?_, ?_⟩ <;> (first | assumption | exact hS _ _ | omega | (constructor <;> omega) | (show _ = (1 : Int) ∨ _ = (2 : Int) ∨ _ = (3 : Int); omega))) | (refine ⟨?_, ?_, ?_⟩ <;> (first | assumption | exact hS _ _ | omega | (constructor <;> omega) | (show _ = (1 : Int) ∨ _ = (2 : Int) ∨ _ = (3 : Int); omega))) | (refine ⟨?_, ?_, ?_, ?_⟩ <;> (first | assumption | exact hS _ _ | omega | (constructor <;> omega) | (show _ = (1 : Int) ∨ _ = (2 : Int) ∨ _ = (3 : Int); omega))) | (refine ⟨⟨?_, ?_⟩, ?_, ?_⟩ <;> (first | assumption | exact hS _ _ | omega | (constructor <;> omega) | (show _ = (1 : Int) ∨ _ = (2 : Int) ∨ _ = (3 : Int); omega))) | decide | (simp only [r_note, up2, Int.toNat_natCast, a_live5, not_true_eq_false, not_false_eq_true, Nat.reduceEqDiff, false_and, true_and, and_true, and_false, and_self, if_true, if_false, ↓reduceIte, reduceCtorEq]; first | (first | assumption | exact hS _ _ | omega | (constructor <;> omega) | (show _ = (1 : Int) ∨ _ = (2 : Int) ∨ _ = (3 : Int); omega)) | (refine ⟨?_, ?_⟩ <;> (first | assumption | exact hS _ _ | omega | (constructor <;> omega) | (show _ = (1 : Int) ∨ _ = (2 : Int) ∨ _ = (3 : Int); omega))) | (refine ⟨?_, ?_, ?_⟩ <;> (first | assumption | exact hS _ _ | omega | (constructor <;> omega) | (show _ = (1 : Int) ∨ _ = (2 : Int) ∨ _ = (3 : Int); omega))) | (refine ⟨?_, ?_, ?_, ?_⟩ <;> (first | assumption | exact hS _ _ | omega | (constructor <;> omega) | (show _ = (1 : Int) ∨ _ = (2 : Int) ∨ _ = (3 : Int); omega))) | (refine ⟨⟨?_, ?_⟩, ?_, ?_⟩ <;> (first | assumption | exact hS _ _ | omega | (constructor <;> omega) | (show _ = (1 : Int) ∨ _ = (2 : Int) ∨ _ = (3 : Int); omega))) | decide))) | (refine And.intro ?_ ?_ <;> (intro hc; (try simp only [r_note, up2, Int.toNat_natCast, a_live5, not_true_eq_false, not_false_eq_true, Nat.reduceEqDiff, false_and, true_and, and_true, and_false, and_self, if_true, if_false, ↓reduceIte, reduceCtorEq] at hc); try (exfalso; first | assumption | omega))) | (refine x_som_i l0 ?_) | (refine x_som_i l1 ?_) | (refine x_som_i l2 ?_) | (refine x_som_i l3 ?_) | (refine x_som_i l4 ?_) | (refine x_som_i l5 ?_) | (refine x_som_i l6 ?_) | (refine x_som_i l7 ?_) | (refine x_som_i l8 ?_) | (refine x_som_i l9 ?_) | (refine a_wo ?sd ?_; case sd => (first | exact hS _ _ | assumption | (constructor <;> omega) | (simp only [r_note, up2, Int.toNat_natCast, a_live5, not_true_eq_false, not_false_eq_true, Nat.reduceEqDiff, false_and, true_and, and_true, and_false, and_self, if_true, if_false, ↓reduceIte, reduceCtorEq]; first | exact hS _ _ | assumption | (constructor <;> omega)))) | (refine st 0 _ _ _ _ _ _ _ rfl ?_) | (refine st 64 _ _ _ _ _ _ _ rfl ?_) | (refine st 65 _ _ _ _ _ _ _ rfl ?_) | (refine st 92 _ _ _ _ _ _ _ rfl ?_) | (refine st 95 _ _ _ _ _ _ _ rfl ?_) | (refine st 101 _ _ _ _ _ _ _ rfl ?_) | (refine st 144 _ _ _ _ _ _ _ rfl ?_)
      · refine stay ?_ _ l0 l1 l2
        rcases oe with ⟨i1, i2⟩ | ⟨k, k1, k2, k3, k4⟩
        · rw [eP']
          unfold cif
          split
          · rw [i1]
          · rfl
        · omega
      · refine a_ci (d_inMemory w60 hc8 e118 l24) ?room ?_
        case room => first | decide | exact ⟨by decide, by decide, by omega, by omega⟩ | exact ⟨by omega, Nat.le_trans (m := 200) (by decide) (by omega), by omega, by omega⟩
        rintro _ _ _ ⟨rfl, rfl, rfl⟩
        repeat' first | (refine a_si ?sd ?_; case sd => (first | (first | assumption | exact hS _ _ | omega | (constructor <;> omega) | (show _ = (1 : Int) ∨ _ = (2 : Int) ∨ _ = (3 : Int); omega)) | (refine ⟨?_, ?_⟩ <;> (first | assumption | exact hS _ _ | omega | (constructor <;> omega) | (show _ = (1 : Int) ∨ _ = (2 : Int) ∨ _ = (3 : Int); omega))) | (refine ⟨?_, ?_, ?_⟩ <;> (first | assumption | exact hS _ _ | omega | (constructor <;> omega) | (show _ = (1 : Int) ∨ _ = (2 : Int) ∨ _ = (3 : Int); omega))) | (refine ⟨?_, ?_, ?_, ?_⟩ <;> (first | assumption | exact hS _ _ | omega | (constructor <;> omega) | (show _ = (1 : Int) ∨ _ = (2 : Int) ∨ _ = (3 : Int); omega))) | (refine ⟨⟨?_, ?_⟩, ?_, ?_⟩ <;> (first | assumption | exact hS _ _ | omega | (constructor <;> omega) | (show _ = (1 : Int) ∨ _ = (2 : Int) ∨ _ = (3 : Int); omega))) | decide | (simp only [r_note, up2, Int.toNat_natCast, a_live5, not_true_eq_false, not_false_eq_true, Nat.reduceEqDiff, false_and, true_and, and_true, and_false, and_self, if_true, if_false, ↓reduceIte, reduceCtorEq]; first | (first | assumption | exact hS _ _ | omega | (constructor <;> omega) | (show _ = (1 : Int) ∨ _ = (2 : Int) ∨ _ = (3 : Int); omega)) | (refine ⟨?_, ?_⟩ <;> (first | assumption | exact hS _ _ | omega | (constructor <;> omega) | (show _ = (1 : Int) ∨ _ = (2 : Int) ∨ _ = (3 : Int); omega))) | (refine ⟨?_, ?_, ?_⟩ <;> (first | assumption | exact hS _ _ | omega | (constructor <;> omega) | (show _ = (1 : Int) ∨ _ = (2 : Int) ∨ _ = (3 : Int); omega))) | (refine ⟨?_, ?_, ?_, ?_⟩ <;> (first | assumption | exact hS _ _ | omega | (constructor <;> omega) | (show _ = (1 : Int) ∨ _ = (2 : Int) ∨ _ = (3 : Int); omega))) | (refine ⟨⟨?_, ?_⟩, ?_, ?_⟩ <;> (first | assumption | exact hS _ _ | omega | (constructor <;> omega) | (show _ = (1 : Int) ∨ _ = (2 : Int) ∨ _ = (3 : Int); omega))) | decide))) | (refine And.intro ?_ ?_ <;> (intro hc; (try simp only [r_note, up2, Int.toNat_natCast, a_live5, not_true_eq_false, not_false_eq_true, Nat.reduceEqDiff, false_and, true_and, and_true, and_false, and_self, if_true, if_false, ↓reduceIte, reduceCtorEq] at hc); try (exfalso; first | assumption | omega))) | (refine x_som_i l0 ?_) | (refine x_som_i l1 ?_) | (refine x_som_i l2 ?_) | (refine x_som_i l3 ?_) | (refine x_som_i l4 ?_) | (refine x_som_i l5 ?_) | (refine x_som_i l6 ?_) | (refine x_som_i l7 ?_) | (refine x_som_i l8 ?_) | (refine x_som_i l9 ?_) | (refine a_wo ?sd ?_; case sd => (first | exact hS _ _ | assumption | (constructor <;> omega) | (simp only [r_note, up2, Int.toNat_natCast, a_live5, not_true_eq_false, not_false_eq_true, Nat.reduceEqDiff, false_and, true_and, and_true, and_false, and_self, if_true, if_false, ↓reduceIte, reduceCtorEq]; first | exact hS _ _ | assumption | (constructor <;> omega)))) | (refine st 0 _ _ _ _ _ _ _ rfl ?_) | (refine st 64 _ _ _ _ _ _ _ rfl ?_) | (refine st 65 _ _ _ _ _ _ _ rfl ?_) | (refine st 92 _ _ _ _ _ _ _ rfl ?_) | (refine st 95 _ _ _ _ _ _ _ rfl ?_) | (refine st 101 _ _ _ _ _ _ _ rfl ?_) | (refine st 144 _ _ _ _ _ _ _ rfl ?_)
        · refine stay ?_ _ l0 l1 l2
          rw [eP', cif_f (by omega)]
        · rcases oe with ⟨i1, i2⟩ | ⟨k, k1, k2, k3, k4, k5, k6⟩
          · omega
          · have hk20 : s1 20 (8 + k) = 3 := by
              rcases hR1.2.1.2.2.2.2.2.2.1.1 k (by omega) with ⟨_, q, _⟩ | q
              · exact q
              · omega
            have e1 : prV (M (300 + c)) c s1 = plV s1 (8 + k) 3 4 := by
              rw [eP', cif_t (by omega), k2]; rfl
            obtain ⟨g1, g2⟩ := RS_pl hR1 hk20 k5 (p := 3) (p' := 2) (k := 4) (Or.inr (Or.inr ⟨rfl, rfl⟩)) (by omega)
            rw [k4] at g2
            simp at g2
            rw [← e1] at g1 g2
            have er : r_pl w1 k 2 4 = r_note (up2 w1 121 k 2) 4 0 (w1 120 k) := rfl
            have ek : (oB w1 c (M 0).length).toNat = k := by rw [k3, Int.toNat_natCast]
            have u60 : up2 w1 121 k 2 60 0 = 1 := (up2_c (by omega)).trans w60
            have u144 : 0 ≤ up2 w1 121 k 2 144 0 ∧ up2 w1 121 k 2 144 0 < 3200 := by rw [up2_c (by omega)]; omega
            have u120 : up2 w1 121 k 2 120 k = w1 120 k := up2_c (by omega)
            simp only [ek]
            rw [u120]
            refine a_cs (d_note 4 0 (w1 120 k) u60 u144) ?room ?_
            case room => decide
            rintro _ _ _ ⟨rfl, rfl, rfl⟩ hS2
            rw [← er] at hS2 ⊢
            have ss : same w1 (r_pl w1 k 2 4) := fun q hq => (r_note_c (by omega)).trans (funext fun j => up2_c (by omega))
            refine st 138 _ _ _ _ _ _ _ rfl ?_
            repeat' first | (refine a_si ?sd ?_; case sd => (first | (first | assumption | exact hS _ _ | omega | (constructor <;> omega) | (show _ = (1 : Int) ∨ _ = (2 : Int) ∨ _ = (3 : Int); omega)) | (refine ⟨?_, ?_⟩ <;> (first | assumption | exact hS _ _ | omega | (constructor <;> omega) | (show _ = (1 : Int) ∨ _ = (2 : Int) ∨ _ = (3 : Int); omega))) | (refine ⟨?_, ?_, ?_⟩ <;> (first | assumption | exact hS _ _ | omega | (constructor <;> omega) | (show _ = (1 : Int) ∨ _ = (2 : Int) ∨ _ = (3 : Int); omega))) | (refine ⟨?_, ?_, ?_, ?_⟩ <;> (first | assumption | exact hS _ _ | omega | (constructor <;> omega) | (show _ = (1 : Int) ∨ _ = (2 : Int) ∨ _ = (3 : Int); omega))) | (refine ⟨⟨?_, ?_⟩, ?_, ?_⟩ <;> (first | assumption | exact hS _ _ | omega | (constructor <;> omega) | (show _ = (1 : Int) ∨ _ = (2 : Int) ∨ _ = (3 : Int); omega))) | decide | (simp only [r_note, up2, Int.toNat_natCast, a_live5, not_true_eq_false, not_false_eq_true, Nat.reduceEqDiff, false_and, true_and, and_true, and_false, and_self, if_true, if_false, ↓reduceIte, reduceCtorEq]; first | (first | assumption | exact hS _ _ | omega | (constructor <;> omega) | (show _ = (1 : Int) ∨ _ = (2 : Int) ∨ _ = (3 : Int); omega)) | (refine ⟨?_, ?_⟩ <;> (first | assumption | exact hS _ _ | omega | (constructor <;> omega) | (show _ = (1 : Int) ∨ _ = (2 : Int) ∨ _ = (3 : Int); omega))) | (refine ⟨?_, ?_, ?_⟩ <;> (first | assumption | exact hS _ _ | omega | (constructor <;> omega) | (show _ = (1 : Int) ∨ _ = (2 : Int) ∨ _ = (3 : Int); omega))) | (refine ⟨?_, ?_, ?_, ?_⟩ <;> (first | assumption | exact hS _ _ | omega | (constructor <;> omega) | (show _ = (1 : Int) ∨ _ = (2 : Int) ∨ _ = (3 : Int); omega))) | (refine ⟨⟨?_, ?_⟩, ?_, ?_⟩ <;> (first | assumption | exact hS _ _ | omega | (constructor <;> omega) | (show _ = (1 : Int) ∨ _ = (2 : Int) ∨ _ = (3 : Int); omega))) | decide))) | (refine And.intro ?_ ?_ <;> (intro hc; (try simp only [r_note, up2, Int.toNat_natCast, a_live5, not_true_eq_false, not_false_eq_true, Nat.reduceEqDiff, false_and, true_and, and_true, and_false, and_self, if_true, if_false, ↓reduceIte, reduceCtorEq] at hc); try (exfalso; first | assumption | omega))) | (refine x_som_i l0 ?_) | (refine x_som_i l1 ?_) | (refine x_som_i l2 ?_) | (refine x_som_i l3 ?_) | (refine x_som_i l4 ?_) | (refine x_som_i l5 ?_) | (refine x_som_i l6 ?_) | (refine x_som_i l7 ?_) | (refine x_som_i l8 ?_) | (refine x_som_i l9 ?_) | (refine a_wo ?sd ?_; case sd => (first | exact hS _ _ | assumption | (constructor <;> omega) | (simp only [r_note, up2, Int.toNat_natCast, a_live5, not_true_eq_false, not_false_eq_true, Nat.reduceEqDiff, false_and, true_and, and_true, and_false, and_self, if_true, if_false, ↓reduceIte, reduceCtorEq]; first | exact hS _ _ | assumption | (constructor <;> omega)))) | (refine st 0 _ _ _ _ _ _ _ rfl ?_) | (refine st 64 _ _ _ _ _ _ _ rfl ?_) | (refine st 65 _ _ _ _ _ _ _ rfl ?_) | (refine st 92 _ _ _ _ _ _ _ rfl ?_) | (refine st 95 _ _ _ _ _ _ _ rfl ?_) | (refine st 101 _ _ _ _ _ _ _ rfl ?_) | (refine st 138 _ _ _ _ _ _ _ rfl ?_) | (refine st 144 _ _ _ _ _ _ _ rfl ?_)
            exact ih (j + 1) own _ _ _ (by omega) g1 (by rw [ss 60 (by omega)]; exact w60) (by rw [prV_c (by omega)]; exact h401) (by rw [prV_c (by omega)]; exact h411) (by omega) (same_t hs1 ss) he hS2 l0 l1 rfl
  repeat' first | (refine a_si ?sd ?_; case sd => (first | (first | assumption | exact hS _ _ | omega | (constructor <;> omega) | (show _ = (1 : Int) ∨ _ = (2 : Int) ∨ _ = (3 : Int); omega)) | (refine ⟨?_, ?_⟩ <;> (first | assumption | exact hS _ _ | omega | (constructor <;> omega) | (show _ = (1 : Int) ∨ _ = (2 : Int) ∨ _ = (3 : Int); omega))) | (refine ⟨?_, ?_, ?_⟩ <;> (first | assumption | exact hS _ _ | omega | (constructor <;> omega) | (show _ = (1 : Int) ∨ _ = (2 : Int) ∨ _ = (3 : Int); omega))) | (refine ⟨?_, ?_, ?_, ?_⟩ <;> (first | assumption | exact hS _ _ | omega | (constructor <;> omega) | (show _ = (1 : Int) ∨ _ = (2 : Int) ∨ _ = (3 : Int); omega))) | (refine ⟨⟨?_, ?_⟩, ?_, ?_⟩ <;> (first | assumption | exact hS _ _ | omega | (constructor <;> omega) | (show _ = (1 : Int) ∨ _ = (2 : Int) ∨ _ = (3 : Int); omega))) | decide | (simp only [r_note, up2, Int.toNat_natCast, a_live5, not_true_eq_false, not_false_eq_true, Nat.reduceEqDiff, false_and, true_and, and_true, and_false, and_self, if_true, if_false, ↓reduceIte, reduceCtorEq]; first | (first | assumption | exact hS _ _ | omega | (constructor <;> omega) | (show _ = (1 : Int) ∨ _ = (2 : Int) ∨ _ = (3 : Int); omega)) | (refine ⟨?_, ?_⟩ <;> (first | assumption | exact hS _ _ | omega | (constructor <;> omega) | (show _ = (1 : Int) ∨ _ = (2 : Int) ∨ _ = (3 : Int); omega))) | (refine ⟨?_, ?_, ?_⟩ <;> (first | assumption | exact hS _ _ | omega | (constructor <;> omega) | (show _ = (1 : Int) ∨ _ = (2 : Int) ∨ _ = (3 : Int); omega))) | (refine ⟨?_, ?_, ?_, ?_⟩ <;> (first | assumption | exact hS _ _ | omega | (constructor <;> omega) | (show _ = (1 : Int) ∨ _ = (2 : Int) ∨ _ = (3 : Int); omega))) | (refine ⟨⟨?_, ?_⟩, ?_, ?_⟩ <;> (first | assumption | exact hS _ _ | omega | (constructor <;> omega) | (show _ = (1 : Int) ∨ _ = (2 : Int) ∨ _ = (3 : Int); omega))) | decide))) | (refine And.intro ?_ ?_ <;> (intro hc; (try simp only [r_note, up2, Int.toNat_natCast, a_live5, not_true_eq_false, not_false_eq_true, Nat.reduceEqDiff, false_and, true_and, and_true, and_false, and_self, if_true, if_false, ↓reduceIte, reduceCtorEq] at hc); try (exfalso; first | assumption | omega))) | (refine x_som_i l0 ?_) | (refine x_som_i l1 ?_) | (refine x_som_i l2 ?_) | (refine x_som_i l3 ?_) | (refine x_som_i l4 ?_) | (refine x_som_i l5 ?_) | (refine x_som_i l6 ?_) | (refine x_som_i l7 ?_) | (refine x_som_i l8 ?_) | (refine x_som_i l9 ?_) | (refine a_wo ?sd ?_; case sd => (first | exact hS _ _ | assumption | (constructor <;> omega) | (simp only [r_note, up2, Int.toNat_natCast, a_live5, not_true_eq_false, not_false_eq_true, Nat.reduceEqDiff, false_and, true_and, and_true, and_false, and_self, if_true, if_false, ↓reduceIte, reduceCtorEq]; first | exact hS _ _ | assumption | (constructor <;> omega)))) | (refine st 0 _ _ _ _ _ _ _ rfl ?_) | (refine st 64 _ _ _ _ _ _ _ rfl ?_) | (refine st 65 _ _ _ _ _ _ _ rfl ?_) | (refine st 92 _ _ _ _ _ _ _ rfl ?_) | (refine st 95 _ _ _ _ _ _ _ rfl ?_) | (refine st 101 _ _ _ _ _ _ _ rfl ?_) | (refine st 138 _ _ _ _ _ _ _ rfl ?_) | (refine st 144 _ _ _ _ _ _ _ rfl ?_)
  exact outer 24 0 own s w _ rfl hR h60 h40 rfl (Int.le_refl _) (fun _ _ => rfl) fin hS rfl rfl rfl
end
