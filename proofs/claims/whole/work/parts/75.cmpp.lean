/-! The class's component: the picture after a new object of each kind. -/
section
variable {v v' w w' : SV} {L L' : SL} {own : Int → Nat}
theorem WF_el (hW : WF v L) : ∀ l, cl_live v L l → ∀ e ∈ L l, cc_live v L (cl_el l) e := by
  intro l hl e he
  have hok := hl.1
  unfold cl_ok at hok
  rcases hok with rfl | rfl | h | h | h
  · obtain ⟨j, hj, e1⟩ := List.getElem_of_mem he
    have q := hW.2.2.2.2.1.2.2 j hj
    rw [List.getD_eq_getElem?_getD, List.getElem?_eq_getElem hj, Option.getD_some, e1] at q
    show v 20 e = 1 ∨ v 20 e = 2 ∨ v 20 e = 3
    rw [q.1]
    exact Or.inr (Or.inr q.2.1)
  · obtain ⟨j, hj, e1⟩ := List.getElem_of_mem he
    have q := (hW.2.2.2.2.2.1.2 j hj).1
    rw [List.getD_eq_getElem?_getD, List.getElem?_eq_getElem hj, Option.getD_some, e1] at q
    show e < (L 1).length
    rw [q]; exact hj
  · obtain ⟨t, rfl⟩ : ∃ t, l = 100 + t := ⟨l - 100, by omega⟩
    have ht : t < 32 := by omega
    have lt : a_live5 v t := by have := hl.2; rw [(cl6 ht).1] at this; exact this
    rw [(cl6 ht).2]
    exact (((hW.2.1 t lt).2 e).mp he).1
  · obtain ⟨t, rfl⟩ : ∃ t, l = 200 + t := ⟨l - 200, by omega⟩
    have ht : t < 32 := by omega
    have lt : v 20 t = 2 := by have := hl.2; rw [(cl8 ht).1] at this; exact this
    rw [(cl8 ht).2]
    exact Or.inr (Or.inl ((hW.2.2.2.1 t lt).2.2.2.2 e he))
  · obtain ⟨t, rfl⟩ : ∃ t, l = 300 + t := ⟨l - 300, by omega⟩
    have ht : t < 8 := by omega
    have lt : v 40 t = 1 := by have := hl.2; rw [(cl10 ht).1] at this; exact this
    rw [(cl10 ht).2]
    rcases hW.2.2.2.2.1.1 t ht with q | q
    · omega
    · exact Or.inr (Or.inr (q.1.2.2.2 e he))
theorem WF_ptr (hW : WF v L) {n : Nat} (h : v 20 n = 0) : (∀ i, i < 8 → v 11 i ≠ n) ∧ (∀ i j, i < 8 → v 16 (i + 8 * j) ≠ n) ∧ ∀ k, k < (L 1).length → (v 50 k).toNat ≠ n := by
  have nl : ¬ a_live5 v n := by unfold a_live5; omega
  refine ⟨fun i hi z => ?_, fun i j hi z => ?_, fun k hk z => ?_⟩
  · have q := ((hW.1 i hi).2.2.1 (by omega)).2.1
    rw [z, Int.toNat_natCast] at q
    exact nl q
  · have q := ((hW.1 i hi).1.2 j (Nat.zero_le j)).2 (by omega)
    rw [z, Int.toNat_natCast] at q
    exact nl q
  · have q := (hW.2.2.2.2.2.1.2 k hk).2.2
    rw [z] at q
    exact nl q
theorem RS_34 (hR : RS own v L w) {p : Nat} (h : v 20 p = 3) : ∃ s, p = 8 + s ∧ s < (L 0).length ∧ (0 ≤ v 34 p ∧ v 34 p < 8) ∧ v 40 (v 34 p).toNat = 1 := by
  have p32 := (hR.1.2.2.1 p (by omega)).1.1
  have p8 : 8 ≤ p := by
    rcases Nat.lt_or_ge p 8 with q | q
    · rcases hR.2.1.2.1 p q with ⟨_, y | y | y, _⟩ | ⟨_, y, _⟩
      · have := y.1; omega
      · have := y.1; omega
      · have := y.1; omega
      · omega
    · exact q
  obtain ⟨s, rfl⟩ : ∃ s, p = 8 + s := ⟨p - 8, by omega⟩
  rcases hR.2.1.2.2.2.2.2.2.1.1 s (by omega) with ⟨a, b, c⟩ | ⟨_, c⟩
  · exact ⟨s, rfl, a, ⟨c.1, c.2.1⟩, c.2.2.1⟩
  · omega
theorem cmV_i' {k n t d : Int} (c i : Nat) (h1 : c ≠ 1) (h : c < 20 ∨ 43 < c ∨ (c ≠ 26 ∧ i ≠ (v 1 0).toNat) ∨ (c = 26 ∧ i % 32 ≠ (v 1 0).toNat)) : cmV v k n t d c i = v c i := by
  unfold cmV
  rw [if_neg (by omega), if_neg (by omega), if_neg (by omega)]
theorem cmN_s {k n t d : Int} (hk : okCmp v k n t d) (q : Nat) : iS (cmN k n t d q) := by
  obtain ⟨-, -, o3, o4, o5, o6⟩ := hk
  unfold cmN
  repeat' split
  all_goals constructor <;> omega
theorem cmV_s {k n t d : Int} (hS : ∀ c i, iS (v c i)) (hk : okCmp v k n t d) (h0 : 0 ≤ v 1 0) : ∀ c i, iS (cmV v k n t d c i) := by
  intro c i
  unfold cmV
  split
  · have := hk.2.1; constructor <;> omega
  · split
    · constructor <;> decide
    · split
      · exact cmN_s hk c
      · exact hS c i
end
section
variable {X : XC} {f f' : XH} {A : Nat → Nat → Nat} {DA : Nat → Nat} {v w : SV} {L : SL} {own : Int → Nat} {n t d : Int} {a q e : Nat}
theorem cl_obj_6 {l m : Nat} (h : cl_ok l) (h6 : (cl_obj l).1 = 6) (hm : (cl_obj l).2 = m) : l = 100 + m := by
  unfold cl_ok at h
  unfold cl_obj at h6 hm
  repeat' split at h6
  all_goals first | (simp only at h6 hm; done) | skip
  all_goals (repeat' split at hm) <;> (simp only at h6 hm; omega)
theorem cl_obj_8 {l m : Nat} (h : cl_ok l) (h6 : (cl_obj l).1 = 8) (hm : (cl_obj l).2 = m) : l = 200 + m := by
  unfold cl_ok at h
  unfold cl_obj at h6 hm
  repeat' split at h6
  all_goals first | (simp only at h6 hm; done) | skip
  all_goals (repeat' split at hm) <;> (simp only at h6 hm; omega)
theorem cl_obj_10 {l m : Nat} (h : cl_ok l) (h6 : (cl_obj l).1 = 10) (hm : (cl_obj l).2 = m) : l = 300 + m := by
  unfold cl_ok at h
  unfold cl_obj at h6 hm
  repeat' split at h6
  all_goals first | (simp only at h6 hm; done) | skip
  all_goals (repeat' split at hm) <;> (simp only at h6 hm; omega)
theorem cl_dead {l m : Nat} (hm : m < 8) (h20 : v 20 m = 0) (h40 : v 40 m = 0) (hl : cl_live v L l) : l ≠ 100 + m ∧ l ≠ 200 + m ∧ l ≠ 300 + m := by
  refine ⟨fun z => ?_, fun z => ?_, fun z => ?_⟩
  · have := hl.2; rw [z, (cl6 (by omega)).1] at this
    have this : v 20 m = 1 ∨ v 20 m = 2 ∨ v 20 m = 3 := this
    omega
  · have := hl.2; rw [z, (cl8 (by omega)).1] at this
    have this : v 20 m = 2 := this
    omega
  · have := hl.2; rw [z, (cl10 (by omega)).1] at this
    have this : v 40 m = 1 := this
    omega
theorem PS_cm0 (hP : PS X f A DA v L) (hR : RS own v L w) (hok : okCmp v 0 n t d) (fa : f a = none) (fq : f q = none) (fe : f e = none) (haq : a ≠ q) (hae : a ≠ e) (hqe : q ≠ e) (ga : f' a = some (.inl (6, [.ref q, .ref (A 0 1), .int (iI t), .int 1, .int (iI n), .ref e, .int 0, .int 0]))) (gq : f' q = e_al X) (ge : f' e = some (.inr (0, 4, fun _ => .int 0))) (g0 : f' (A 0 0) = some (.inl (10, [.ref (A 0 1), .ref (A 0 3), .ref (A 0 4), .ref (A 0 6), .ref (A 0 7), .ref (A 0 8), .ref (A 0 9), .ref (A 0 10), .int (iI (v 1 0 + 1)), .int (iI (v 0 0))]))) (g7 : f' (A 0 7) = some (.inr (3, 32, va_up (fun j => if v 20 j = 0 then .null else .ref (A 5 j)) (v 1 0).toNat (.ref a)))) (fr : ∀ b, b ≠ a → b ≠ q → b ≠ e → b ≠ A 0 0 → b ≠ A 0 7 → f' b = f b) : ∃ (A' : Nat → Nat → Nat) (DA' : Nat → Nat), (A' 0 0 = A 0 0 ∧ A' 20 0 = A 20 0) ∧ PS X f' A' DA' (cmV v 0 n t d) (cmL v L) := by
  have b0 := hR.2.1.1.2.2.2.2.2.2
  have hok' := id hok
  obtain ⟨o1, o2, o3, o4, o5, o6⟩ := hok
  obtain ⟨m, em⟩ : ∃ m, (v 1 0).toNat = m := ⟨_, rfl⟩
  have hm8 : m < 8 := by omega
  have hd : v 20 m = 0 ∧ v 40 m = 0 := by
    rcases hR.2.1.2.1 m hm8 with ⟨z, _⟩ | ⟨_, z⟩
    · omega
    · exact z
  obtain ⟨q11, q16, q50⟩ := WF_ptr hR.1 hd.1
  have N : ∀ c, 20 ≤ c → c ≤ 43 → c ≠ 26 → cmV v 0 n t d c m = cmN 0 n t d c := fun c x y z => by rw [← em]; exact cmV_n x y z
  have n20 : cmV v 0 n t d 20 m = 1 := N 20 (by omega) (by omega) (by omega)
  have n40 : cmV v 0 n t d 40 m = 0 := N 40 (by omega) (by omega) (by omega)
  have lm : ∀ l, l ≠ 100 + m → l ≠ 200 + m → l ≠ 300 + m → cmL v L l = L l := fun l x y z => if_neg (by rw [em]; omega)
  have lo : cmL v L (100 + m) = [] := if_pos (by omega)
  have hv := fun c i (x : c ≠ 1) (y : c < 20 ∨ 43 < c ∨ (c ≠ 26 ∧ i ≠ m) ∨ (c = 26 ∧ i % 32 ≠ m)) => cmV_i' (v := v) (k := 0) (n := n) (t := t) (d := d) c i x (by rw [em]; exact y)
  have z0 : ∀ i, i ≤ 10 → cc_live v L 0 i := fun i hi => hi
  have u7 := hP.1.2.2.2.2.2.2
  have nn : ∀ i b, i ≤ 10 → f b = none → A 0 i ≠ b := fun i b hi hb z => u7 0 i (z0 i hi) (z ▸ hb)
  have w' : ∀ i, i ≤ 10 → i ≠ 0 → i ≠ 7 → f' (A 0 i) = f (A 0 i) := fun i h1 h2 h3 => fr _ (nn i a h1 fa) (nn i q h1 fq) (nn i e h1 fe) (fun z => h2 (hP.1.2.2.1 _ _ _ _ (z0 i h1) (z0 0 (by omega)) z).2) (fun z => h3 (hP.1.2.2.1 _ _ _ _ (z0 i h1) (z0 7 (by omega)) z).2)
  refine ⟨fun k i => if i = m ∧ k = 5 then a else if i = m ∧ k = 6 then q else if i = m ∧ k = 7 then e else A k i, fun l => if l = 100 + m then x_k X 0 else DA l, ⟨by simp, by simp⟩, ?_, cmV_s hP.2 hok' b0.1⟩
  refine PC_new hP.1 (n := m) (fun k => k = 5 ∨ k = 6 ∨ k = 7) (fun k hk => by omega) (fun k i hk => ?_) (fun k hk => ?_) hv (fun k h5 h10 hk => ?_) (lm 1 (by omega) (by omega) (by omega)) q11 q16 q50 (fun p hp z => ?_) (fun k hk => ?_) (fun k k' hk hk' z => ?_) (fun b hb h1 h2 h3 => ?_) (fun i hi => ?_) (fun k x h5 h10 hx => ?_) (fun l hl => ?_) (WF_el hR.1) (fun l h1 h2 h3 => ?_) (fun l h => ?_)
  · rw [if_neg (by omega), if_neg (by omega), if_neg (by omega)]
  · rcases hk with rfl | rfl | rfl <;> (unfold cc_live; simp only; omega)
  · have : k = 5 ∨ k = 6 ∨ k = 7 ∨ k = 8 ∨ k = 9 ∨ k = 10 := by omega
    rcases this with rfl | rfl | rfl | rfl | rfl | rfl <;> (unfold cc_live at hk; simp only [n20, n40] at hk; first | (right; decide) | omega)
  · obtain ⟨s, -, -, -, y⟩ := RS_34 hR hp
    rw [z] at y
    omega
  · rcases hk with rfl | rfl | rfl
    · simp only [true_and, ↓reduceIte]; exact ⟨fa, by rw [ga]; exact fun z => nomatch z⟩
    · simp only [true_and, ↓reduceIte, Nat.reduceEqDiff]; exact ⟨fq, by rw [gq]; exact fun z => nomatch z⟩
    · simp only [true_and, ↓reduceIte, Nat.reduceEqDiff]; exact ⟨fe, by rw [ge]; exact fun z => nomatch z⟩
  · have h5 := hk; have h6 := hk'
    rcases hk with rfl | rfl | rfl <;> rcases hk' with rfl | rfl | rfl <;> simp only [true_and, ↓reduceIte, Nat.reduceEqDiff] at z <;> first | rfl | exact absurd z haq | exact absurd z.symm haq | exact absurd z hae | exact absurd z.symm hae | exact absurd z hqe | exact absurd z.symm hqe
  · exact fr b (fun z => hb (z ▸ fa)) (fun z => hb (z ▸ fq)) (fun z => hb (z ▸ fe)) h1 h2
  · rcases hi with rfl | rfl | rfl
    · refine ⟨_, rfl, ?_⟩
      rw [g0]
      have e1 : cmV v 0 n t d 1 0 = v 1 0 + 1 := by unfold cmV; rw [if_pos ⟨rfl, rfl⟩]
      have e0 : cmV v 0 n t d 0 0 = v 0 0 := hv 0 0 (by omega) (by omega)
      rw [e1, e0]
      simp
    · refine ⟨_, rfl, ?_⟩
      rw [g7, em]
      congr 4
      funext j
      by_cases z : j = m
      · rw [z, va_up_self, n20, if_neg (by decide)]; simp
      · rw [va_up_ne _ _ z, hv 20 j (by omega) (by omega)]
        simp [z]
    · refine ⟨_, rfl, ?_⟩
      rw [w' 8 (by omega) (by omega) (by omega), hP.1.c 0 8 rfl]
      congr 4
      funext j
      by_cases z : j = m
      · rw [z, n40, hd.2, if_pos rfl, if_pos rfl]
      · rw [hv 40 j (by omega) (by omega)]
        simp [z]
  · have : k = 5 ∨ k = 6 ∨ k = 7 ∨ k = 8 ∨ k = 9 ∨ k = 10 := by omega
    rcases this with rfl | rfl | rfl | rfl | rfl | rfl
    · have y : cc_cell (fun k i => if i = m ∧ k = 5 then a else if i = m ∧ k = 6 then q else if i = m ∧ k = 7 then e else A k i) (cmV v 0 n t d) (cmL v L) 5 m = some (.inl (6, [.ref q, .ref (A 0 1), .int (iI t), .int 1, .int (iI n), .ref e, .int 0, .int 0])) := by
        unfold cc_cell cc_tgt
        simp only [N 20 (by omega) (by omega) (by omega), N 21 (by omega) (by omega) (by omega), N 22 (by omega) (by omega) (by omega), N 23 (by omega) (by omega) (by omega), N 24 (by omega) (by omega) (by omega), N 25 (by omega) (by omega) (by omega)]
        simp [cmN]
        (repeat' apply And.intro) <;> rfl
      rw [y] at hx
      cases hx
      simpa using ga
    · cases hx
    · have y : cc_cell (fun k i => if i = m ∧ k = 5 then a else if i = m ∧ k = 6 then q else if i = m ∧ k = 7 then e else A k i) (cmV v 0 n t d) (cmL v L) 7 m = some (.inr (0, 4, fun _ => .int 0)) := by
        unfold cc_cell
        simp only
        rw [if_pos ⟨n20, by omega⟩]
        congr 4
        funext j
        have z26 : cmV v 0 n t d 26 (m + 32 * j) = 0 := by
          unfold cmV
          rw [if_neg (by omega), if_pos ⟨rfl, by omega⟩]
        rw [z26]; rfl
      rw [y] at hx
      cases hx
      simpa using ge
    · cases hx
    · have y : ¬ cmV v 0 n t d 40 m = 1 := by rw [n40]; decide
      unfold cc_cell at hx
      simp only [if_neg y] at hx
      cases hx
    · cases hx
  · obtain ⟨x, y, z⟩ := cl_dead hm8 hd.1 hd.2 hl
    exact lm l x y z
  · have y : (cl_obj l).1 = 6 := by have := cl_obj_k h1; omega
    have z := cl_obj_6 h1 y h3
    subst z
    refine ⟨lo, ?_, if_pos rfl⟩
    rw [y]
    simpa using gq
  · refine if_neg (fun z => h ?_)
    rw [z, (cl6 (by omega)).1]
    exact ⟨Or.inr (Or.inl rfl), rfl⟩
theorem PS_cm2 (hP : PS X f A DA v L) (hR : RS own v L w) (hok : okCmp v 2 n t d) (fa : f a = none) (fq : f q = none) (fe : f e = none) (haq : a ≠ q) (hae : a ≠ e) (hqe : q ≠ e) (ga : f' a = some (.inl (7, [.ref q, .ref (A 0 1), .int (iI t), .int 2, .ref e, .int (if iI n = 1 ∨ iI n = 3 then 1 else 0), .int (if iI n = 2 ∨ iI n = 3 then 1 else 0), .int 0, .int 0, .int (-1), .int 0, .int 0]))) (gq : f' q = e_al X) (ge : f' e = e_al X) (g0 : f' (A 0 0) = some (.inl (10, [.ref (A 0 1), .ref (A 0 3), .ref (A 0 4), .ref (A 0 6), .ref (A 0 7), .ref (A 0 8), .ref (A 0 9), .ref (A 0 10), .int (iI (v 1 0 + 1)), .int (iI (v 0 0))]))) (g7 : f' (A 0 7) = some (.inr (3, 32, va_up (fun j => if v 20 j = 0 then .null else .ref (A 5 j)) (v 1 0).toNat (.ref a)))) (fr : ∀ b, b ≠ a → b ≠ q → b ≠ e → b ≠ A 0 0 → b ≠ A 0 7 → f' b = f b) : ∃ (A' : Nat → Nat → Nat) (DA' : Nat → Nat), (A' 0 0 = A 0 0 ∧ A' 20 0 = A 20 0) ∧ PS X f' A' DA' (cmV v 2 n t d) (cmL v L) := by
  have b0 := hR.2.1.1.2.2.2.2.2.2
  have hok' := id hok
  obtain ⟨o1, o2, o3, o4, o5, o6⟩ := hok
  obtain ⟨m, em⟩ : ∃ m, (v 1 0).toNat = m := ⟨_, rfl⟩
  have hm8 : m < 8 := by omega
  have hd : v 20 m = 0 ∧ v 40 m = 0 := by
    rcases hR.2.1.2.1 m hm8 with ⟨z, _⟩ | ⟨_, z⟩
    · omega
    · exact z
  obtain ⟨q11, q16, q50⟩ := WF_ptr hR.1 hd.1
  have N : ∀ c, 20 ≤ c → c ≤ 43 → c ≠ 26 → cmV v 2 n t d c m = cmN 2 n t d c := fun c x y z => by rw [← em]; exact cmV_n x y z
  have n20 : cmV v 2 n t d 20 m = 2 := N 20 (by omega) (by omega) (by omega)
  have n40 : cmV v 2 n t d 40 m = 0 := N 40 (by omega) (by omega) (by omega)
  have lm : ∀ l, l ≠ 100 + m → l ≠ 200 + m → l ≠ 300 + m → cmL v L l = L l := fun l x y z => if_neg (by rw [em]; omega)
  have lo : cmL v L (100 + m) = [] ∧ cmL v L (200 + m) = [] := ⟨if_pos (by omega), if_pos (by omega)⟩
  have hv := fun c i (x : c ≠ 1) (y : c < 20 ∨ 43 < c ∨ (c ≠ 26 ∧ i ≠ m) ∨ (c = 26 ∧ i % 32 ≠ m)) => cmV_i' (v := v) (k := 2) (n := n) (t := t) (d := d) c i x (by rw [em]; exact y)
  have z0 : ∀ i, i ≤ 10 → cc_live v L 0 i := fun i hi => hi
  have u7 := hP.1.2.2.2.2.2.2
  have nn : ∀ i b, i ≤ 10 → f b = none → A 0 i ≠ b := fun i b hi hb z => u7 0 i (z0 i hi) (z ▸ hb)
  have w' : ∀ i, i ≤ 10 → i ≠ 0 → i ≠ 7 → f' (A 0 i) = f (A 0 i) := fun i h1 h2 h3 => fr _ (nn i a h1 fa) (nn i q h1 fq) (nn i e h1 fe) (fun z => h2 (hP.1.2.2.1 _ _ _ _ (z0 i h1) (z0 0 (by omega)) z).2) (fun z => h3 (hP.1.2.2.1 _ _ _ _ (z0 i h1) (z0 7 (by omega)) z).2)
  refine ⟨fun k i => if i = m ∧ k = 5 then a else if i = m ∧ k = 6 then q else if i = m ∧ k = 8 then e else A k i, fun l => if l = 100 + m ∨ l = 200 + m then x_k X 0 else DA l, ⟨by simp, by simp⟩, ?_, cmV_s hP.2 hok' b0.1⟩
  refine PC_new hP.1 (n := m) (fun k => k = 5 ∨ k = 6 ∨ k = 8) (fun k hk => by omega) (fun k i hk => ?_) (fun k hk => ?_) hv (fun k h5 h10 hk => ?_) (lm 1 (by omega) (by omega) (by omega)) q11 q16 q50 (fun p hp z => ?_) (fun k hk => ?_) (fun k k' hk hk' z => ?_) (fun b hb h1 h2 h3 => ?_) (fun i hi => ?_) (fun k x h5 h10 hx => ?_) (fun l hl => ?_) (WF_el hR.1) (fun l h1 h2 h3 => ?_) (fun l h => ?_)
  · rw [if_neg (by omega), if_neg (by omega), if_neg (by omega)]
  · rcases hk with rfl | rfl | rfl <;> (unfold cc_live; simp only; omega)
  · have : k = 5 ∨ k = 6 ∨ k = 7 ∨ k = 8 ∨ k = 9 ∨ k = 10 := by omega
    rcases this with rfl | rfl | rfl | rfl | rfl | rfl <;> (unfold cc_live at hk; simp only [n20, n40] at hk; first | (right; decide) | omega)
  · obtain ⟨s, -, -, -, y⟩ := RS_34 hR hp
    rw [z] at y
    omega
  · rcases hk with rfl | rfl | rfl
    · simp only [true_and, ↓reduceIte]; exact ⟨fa, by rw [ga]; exact fun z => nomatch z⟩
    · simp only [true_and, ↓reduceIte, Nat.reduceEqDiff]; exact ⟨fq, by rw [gq]; exact fun z => nomatch z⟩
    · simp only [true_and, ↓reduceIte, Nat.reduceEqDiff]; exact ⟨fe, by rw [ge]; exact fun z => nomatch z⟩
  · have h5 := hk; have h6 := hk'
    rcases hk with rfl | rfl | rfl <;> rcases hk' with rfl | rfl | rfl <;> simp only [true_and, ↓reduceIte, Nat.reduceEqDiff] at z <;> first | rfl | exact absurd z haq | exact absurd z.symm haq | exact absurd z hae | exact absurd z.symm hae | exact absurd z hqe | exact absurd z.symm hqe
  · exact fr b (fun z => hb (z ▸ fa)) (fun z => hb (z ▸ fq)) (fun z => hb (z ▸ fe)) h1 h2
  · rcases hi with rfl | rfl | rfl
    · refine ⟨_, rfl, ?_⟩
      rw [g0]
      have e1 : cmV v 2 n t d 1 0 = v 1 0 + 1 := by unfold cmV; rw [if_pos ⟨rfl, rfl⟩]
      have e0 : cmV v 2 n t d 0 0 = v 0 0 := hv 0 0 (by omega) (by omega)
      rw [e1, e0]
      simp
    · refine ⟨_, rfl, ?_⟩
      rw [g7, em]
      congr 4
      funext j
      by_cases z : j = m
      · rw [z, va_up_self, n20, if_neg (by decide)]; simp
      · rw [va_up_ne _ _ z, hv 20 j (by omega) (by omega)]
        simp [z]
    · refine ⟨_, rfl, ?_⟩
      rw [w' 8 (by omega) (by omega) (by omega), hP.1.c 0 8 rfl]
      congr 4
      funext j
      by_cases z : j = m
      · rw [z, n40, hd.2, if_pos rfl, if_pos rfl]
      · rw [hv 40 j (by omega) (by omega)]
        simp [z]
  · have : k = 5 ∨ k = 6 ∨ k = 7 ∨ k = 8 ∨ k = 9 ∨ k = 10 := by omega
    rcases this with rfl | rfl | rfl | rfl | rfl | rfl
    · have i1 : (iI n = 1 ∨ iI n = 3) ↔ (n = 1 ∨ n = 3) := by
        have s : iS n := by constructor <;> omega
        rw [show (1 : Int32) = iI 1 from rfl, show (3 : Int32) = iI 3 from rfl, iI_eq s (by constructor <;> decide), iI_eq s (by constructor <;> decide)]
      have i2 : (iI n = 2 ∨ iI n = 3) ↔ (n = 2 ∨ n = 3) := by
        have s : iS n := by constructor <;> omega
        rw [show (2 : Int32) = iI 2 from rfl, show (3 : Int32) = iI 3 from rfl, iI_eq s (by constructor <;> decide), iI_eq s (by constructor <;> decide)]
      have j1 : cmN 2 n t d 27 = if n = 1 ∨ n = 3 then 1 else 0 := by simp [cmN]
      have j2 : cmN 2 n t d 28 = if n = 2 ∨ n = 3 then 1 else 0 := by simp [cmN]
      have k1 : iI (if n = 1 ∨ n = 3 then 1 else 0) = if iI n = 1 ∨ iI n = 3 then (1 : Int32) else 0 := by
        by_cases z : n = 1 ∨ n = 3
        · rw [if_pos z, if_pos (i1.mpr z)]; rfl
        · rw [if_neg z, if_neg (fun y => z (i1.mp y))]; rfl
      have k2 : iI (if n = 2 ∨ n = 3 then 1 else 0) = if iI n = 2 ∨ iI n = 3 then (1 : Int32) else 0 := by
        by_cases z : n = 2 ∨ n = 3
        · rw [if_pos z, if_pos (i2.mpr z)]; rfl
        · rw [if_neg z, if_neg (fun y => z (i2.mp y))]; rfl
      have y : cc_cell (fun k i => if i = m ∧ k = 5 then a else if i = m ∧ k = 6 then q else if i = m ∧ k = 8 then e else A k i) (cmV v 2 n t d) (cmL v L) 5 m = some (.inl (7, [.ref q, .ref (A 0 1), .int (iI t), .int 2, .ref e, .int (if iI n = 1 ∨ iI n = 3 then 1 else 0), .int (if iI n = 2 ∨ iI n = 3 then 1 else 0), .int 0, .int 0, .int (-1), .int 0, .int 0])) := by
        rw [← k1, ← k2]
        unfold cc_cell cc_tgt
        simp only [N 20 (by omega) (by omega) (by omega), N 21 (by omega) (by omega) (by omega), N 22 (by omega) (by omega) (by omega), N 27 (by omega) (by omega) (by omega), N 28 (by omega) (by omega) (by omega), N 29 (by omega) (by omega) (by omega), N 30 (by omega) (by omega) (by omega), N 31 (by omega) (by omega) (by omega), N 32 (by omega) (by omega) (by omega), N 33 (by omega) (by omega) (by omega), j1, j2]
        simp [cmN]
        (repeat' apply And.intro) <;> rfl
      rw [y] at hx
      cases hx
      simpa using ga
    · cases hx
    · have y : ¬ cmV v 2 n t d 20 m = 1 := by rw [n20]; decide
      unfold cc_cell at hx
      simp only [y, false_and, if_false] at hx
      cases hx
    · cases hx
    · have y : ¬ cmV v 2 n t d 40 m = 1 := by rw [n40]; decide
      unfold cc_cell at hx
      simp only [if_neg y] at hx
      cases hx
    · cases hx
  · obtain ⟨x, y, z⟩ := cl_dead hm8 hd.1 hd.2 hl
    exact lm l x y z
  · have y : (cl_obj l).1 = 6 ∨ (cl_obj l).1 = 8 := by have := cl_obj_k h1; omega
    rcases y with y | y
    · have z := cl_obj_6 h1 y h3
      subst z
      refine ⟨lo.1, ?_, if_pos (Or.inl rfl)⟩
      rw [y]
      simpa using gq
    · have z := cl_obj_8 h1 y h3
      subst z
      refine ⟨lo.2, ?_, if_pos (Or.inr rfl)⟩
      rw [y]
      simpa using ge
  · refine if_neg (fun z => h ?_)
    rcases z with z | z
    · rw [z, (cl6 (by omega)).1]
      exact ⟨Or.inr (Or.inl rfl), rfl⟩
    · rw [z, (cl8 (by omega)).1]
      exact ⟨Or.inr (Or.inr rfl), rfl⟩
theorem PS_cm1 (hP : PS X f A DA v L) (hR : RS own v L w) (hok : okCmp v 1 n t d) (fa : f a = none) (fq : f q = none) (haq : a ≠ q) (ga : f' a = some (.inl (5, [.ref q, .int (iI n), .int (iI t), .int (iI d)]))) (gq : f' q = e_al X) (g0 : f' (A 0 0) = some (.inl (10, [.ref (A 0 1), .ref (A 0 3), .ref (A 0 4), .ref (A 0 6), .ref (A 0 7), .ref (A 0 8), .ref (A 0 9), .ref (A 0 10), .int (iI (v 1 0 + 1)), .int (iI (v 0 0))]))) (g7 : f' (A 0 8) = some (.inr (4, 8, va_up (fun j => if v 40 j = 0 then .null else .ref (A 9 j)) (v 1 0).toNat (.ref a)))) (fr : ∀ b, b ≠ a → b ≠ q → b ≠ A 0 0 → b ≠ A 0 8 → f' b = f b) : ∃ (A' : Nat → Nat → Nat) (DA' : Nat → Nat), (A' 0 0 = A 0 0 ∧ A' 20 0 = A 20 0) ∧ PS X f' A' DA' (cmV v 1 n t d) (cmL v L) := by
  have b0 := hR.2.1.1.2.2.2.2.2.2
  have hok' := id hok
  obtain ⟨o1, o2, o3, o4, o5, o6⟩ := hok
  obtain ⟨m, em⟩ : ∃ m, (v 1 0).toNat = m := ⟨_, rfl⟩
  have hm8 : m < 8 := by omega
  have hd : v 20 m = 0 ∧ v 40 m = 0 := by
    rcases hR.2.1.2.1 m hm8 with ⟨z, _⟩ | ⟨_, z⟩
    · omega
    · exact z
  obtain ⟨q11, q16, q50⟩ := WF_ptr hR.1 hd.1
  have N : ∀ c, 20 ≤ c → c ≤ 43 → c ≠ 26 → cmV v 1 n t d c m = cmN 1 n t d c := fun c x y z => by rw [← em]; exact cmV_n x y z
  have n20 : cmV v 1 n t d 20 m = 0 := N 20 (by omega) (by omega) (by omega)
  have n40 : cmV v 1 n t d 40 m = 1 := N 40 (by omega) (by omega) (by omega)
  have lm : ∀ l, l ≠ 100 + m → l ≠ 200 + m → l ≠ 300 + m → cmL v L l = L l := fun l x y z => if_neg (by rw [em]; omega)
  have lo : cmL v L (300 + m) = [] := if_pos (by omega)
  have hv := fun c i (x : c ≠ 1) (y : c < 20 ∨ 43 < c ∨ (c ≠ 26 ∧ i ≠ m) ∨ (c = 26 ∧ i % 32 ≠ m)) => cmV_i' (v := v) (k := 1) (n := n) (t := t) (d := d) c i x (by rw [em]; exact y)
  have z0 : ∀ i, i ≤ 10 → cc_live v L 0 i := fun i hi => hi
  have u7 := hP.1.2.2.2.2.2.2
  have nn : ∀ i b, i ≤ 10 → f b = none → A 0 i ≠ b := fun i b hi hb z => u7 0 i (z0 i hi) (z ▸ hb)
  have w' : ∀ i, i ≤ 10 → i ≠ 0 → i ≠ 8 → f' (A 0 i) = f (A 0 i) := fun i h1 h2 h3 => fr _ (nn i a h1 fa) (nn i q h1 fq) (fun z => h2 (hP.1.2.2.1 _ _ _ _ (z0 i h1) (z0 0 (by omega)) z).2) (fun z => h3 (hP.1.2.2.1 _ _ _ _ (z0 i h1) (z0 8 (by omega)) z).2)
  refine ⟨fun k i => if i = m ∧ k = 9 then a else if i = m ∧ k = 10 then q else A k i, fun l => if l = 300 + m then x_k X 0 else DA l, ⟨by simp, by simp⟩, ?_, cmV_s hP.2 hok' b0.1⟩
  refine PC_new hP.1 (n := m) (fun k => k = 9 ∨ k = 10) (fun k hk => by omega) (fun k i hk => ?_) (fun k hk => ?_) hv (fun k h5 h10 hk => ?_) (lm 1 (by omega) (by omega) (by omega)) q11 q16 q50 (fun p hp z => ?_) (fun k hk => ?_) (fun k k' hk hk' z => ?_) (fun b hb h1 h2 h3 => ?_) (fun i hi => ?_) (fun k x h5 h10 hx => ?_) (fun l hl => ?_) (WF_el hR.1) (fun l h1 h2 h3 => ?_) (fun l h => ?_)
  · rw [if_neg (by omega), if_neg (by omega)]
  · rcases hk with rfl | rfl <;> (unfold cc_live; simp only; omega)
  · have : k = 5 ∨ k = 6 ∨ k = 7 ∨ k = 8 ∨ k = 9 ∨ k = 10 := by omega
    rcases this with rfl | rfl | rfl | rfl | rfl | rfl <;> (unfold cc_live at hk; simp only [n20, n40] at hk; first | (right; decide) | omega)
  · obtain ⟨s, -, -, -, y⟩ := RS_34 hR hp
    rw [z] at y
    omega
  · rcases hk with rfl | rfl
    · simp only [true_and, ↓reduceIte]; exact ⟨fa, by rw [ga]; exact fun z => nomatch z⟩
    · simp only [true_and, ↓reduceIte, Nat.reduceEqDiff]; exact ⟨fq, by rw [gq]; exact fun z => nomatch z⟩
  · have h5 := hk; have h6 := hk'
    rcases hk with rfl | rfl <;> rcases hk' with rfl | rfl <;> simp only [true_and, ↓reduceIte, Nat.reduceEqDiff] at z <;> first | rfl | exact absurd z haq | exact absurd z.symm haq 
  · exact fr b (fun z => hb (z ▸ fa)) (fun z => hb (z ▸ fq)) h1 h3
  · rcases hi with rfl | rfl | rfl
    · refine ⟨_, rfl, ?_⟩
      rw [g0]
      have e1 : cmV v 1 n t d 1 0 = v 1 0 + 1 := by unfold cmV; rw [if_pos ⟨rfl, rfl⟩]
      have e0 : cmV v 1 n t d 0 0 = v 0 0 := hv 0 0 (by omega) (by omega)
      rw [e1, e0]
      simp
    · refine ⟨_, rfl, ?_⟩
      rw [w' 7 (by omega) (by omega) (by omega), hP.1.c 0 7 rfl]
      congr 4
      funext j
      by_cases z : j = m
      · rw [z, n20, hd.1, if_pos rfl, if_pos rfl]
      · rw [hv 20 j (by omega) (by omega)]
        simp [z]
    · refine ⟨_, rfl, ?_⟩
      rw [g7, em]
      congr 4
      funext j
      by_cases z : j = m
      · rw [z, va_up_self, n40, if_neg (by decide)]; simp
      · rw [va_up_ne _ _ z, hv 40 j (by omega) (by omega)]
        simp [z]
  · have : k = 5 ∨ k = 6 ∨ k = 7 ∨ k = 8 ∨ k = 9 ∨ k = 10 := by omega
    rcases this with rfl | rfl | rfl | rfl | rfl | rfl
    · have y : cc_cell (fun k i => if i = m ∧ k = 9 then a else if i = m ∧ k = 10 then q else A k i) (cmV v 1 n t d) (cmL v L) 5 m = none := by
        unfold cc_cell cc_tgt
        simp only [n20]
        rfl
      rw [y] at hx
      cases hx
    · cases hx
    · have y : ¬ cmV v 1 n t d 20 m = 1 := by rw [n20]; decide
      unfold cc_cell at hx
      simp only [y, false_and, if_false] at hx
      cases hx
    · cases hx
    · have y : cc_cell (fun k i => if i = m ∧ k = 9 then a else if i = m ∧ k = 10 then q else A k i) (cmV v 1 n t d) (cmL v L) 9 m = some (.inl (5, [.ref q, .int (iI n), .int (iI t), .int (iI d)])) := by
        unfold cc_cell
        simp only [N 40 (by omega) (by omega) (by omega), N 41 (by omega) (by omega) (by omega), N 42 (by omega) (by omega) (by omega), N 43 (by omega) (by omega) (by omega)]
        simp [cmN]
      rw [y] at hx
      cases hx
      simpa using ga
    · cases hx
  · obtain ⟨x, y, z⟩ := cl_dead hm8 hd.1 hd.2 hl
    exact lm l x y z
  · have y : (cl_obj l).1 = 10 := by have := cl_obj_k h1; omega
    have z := cl_obj_10 h1 y h3
    subst z
    refine ⟨lo, ?_, if_pos rfl⟩
    rw [y]
    simpa using gq
  · refine if_neg (fun z => h ?_)
    rw [z, (cl10 (by omega)).1]
    exact ⟨Or.inr rfl, rfl⟩
end
