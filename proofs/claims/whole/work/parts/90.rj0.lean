/-! At the start all is as it should be. -/
section
theorem RJ_0 : RJ (fun _ => 0) 0 (rvk v0 8) L0 := by
  obtain ⟨V, eV⟩ : ∃ V, rvk v0 8 = V := ⟨_, rfl⟩
  have z : ∀ c i, c < 100 → c ≠ 60 → c ≠ 11 → c ≠ 14 → c ≠ 15 → c ≠ 16 → V c i = 0 := by
    intro c i h1 h2 h3 h4 h5 h6
    rw [← eV, congrFun (rvk_c h1 h2) i]
    unfold v0
    rw [if_neg (by omega)]
  have m : ∀ c i, c = 11 ∨ c = 14 ∨ c = 15 ∨ c = 16 → V c i = -1 := by
    intro c i h
    rw [← eV, congrFun (rvk_c (by omega) (by omega)) i]
    unfold v0
    rw [if_pos h]
  have h : ∀ c i, 100 ≤ c → c ≠ 129 → c ≠ 134 → c ≠ 142 → V c i = 0 := by
    intro c i h1 h2 h3 h4
    rw [← eV]
    unfold rvk
    rw [if_neg (by omega), if_neg (by omega), if_pos h1]
  have h8 : ∀ c i, c = 129 ∨ c = 134 ∨ c = 142 → i < 8 → V c i = -1 := by
    intro c i h1 h2
    rw [← eV]
    unfold rvk
    rw [if_neg (by omega), if_pos h1, if_pos h2]
  have h60 : V 60 0 = 1 := by
    rw [← eV]
    unfold rvk
    rw [if_pos ⟨rfl, rfl⟩]
  rw [eV]
  have q : ∀ c, (c < 100 ∧ c ≠ 60 ∧ c ≠ 11 ∧ c ≠ 14 ∧ c ≠ 15 ∧ c ≠ 16) ∨ (100 ≤ c ∧ c ≠ 129 ∧ c ≠ 134 ∧ c ≠ 142) → ∀ i, V c i = 0 := by
    intro c hc i
    rcases hc with ⟨a, b, c1, d, e, f⟩ | ⟨a, b, c1, d⟩
    · exact z c i a b c1 d e f
    · exact h c i a b c1 d
  have z20 := q 20 (by omega)
  have z40 := q 40 (by omega)
  have z10 := q 10 (by omega)
  have l5 : ∀ t, ¬ a_live5 V t := fun t ht => by
    unfold a_live5 at ht
    rw [z20 t] at ht
    omega
  have l0 : ∀ l, L0 l = [] := fun l => rfl
  have nC : ∀ k, ¬ inC V k := fun k hk => by
    have := hk.2
    rw [z10] at this
    omega
  have smz : ∀ (n : Nat) (f : Nat → Int), (∀ k, f k = 0) → sm n f = 0 := by
    intro n f hf
    have := sm_eq (f := f) (g := fun _ => 0) n (fun k _ => hf k)
    rw [this]
    clear this
    induction n with
    | zero => rfl
    | succ n ih => rw [sm, ih]; rfl
  have hR : RS (fun _ => 0) V L0 V := by
    refine ⟨⟨?_, ?_, ?_, ?_, ⟨?_, ?_, ?_⟩, ⟨?_, ?_⟩, ?_⟩, ⟨?_, ?_, ⟨?_, ?_⟩, ⟨?_, ?_, ?_⟩, ?_, ?_, ⟨?_, ?_, ?_⟩, ⟨?_, ?_⟩, ?_, ?_, ⟨?_, ?_⟩, ⟨?_, ?_, ?_, ?_⟩⟩, ⟨?_, ?_, ?_⟩, ?_⟩
    · intro i hi
      refine ⟨⟨by rw [z10]; omega, fun j _ => by rw [m 16 _ (by omega)]; exact ⟨by omega, fun y => by omega⟩⟩, by rw [m 15 i (by omega), l0]; simp, fun y => by rw [m 11 i (by omega)] at y; omega, fun _ _ => ⟨z10 i, by rw [m 11 i (by omega)]; omega⟩⟩
    · exact fun t ht => absurd ht (l5 t)
    · exact fun t ht => absurd (z20 t) ht
    · intro t ht; rw [z20] at ht; omega
    · exact fun c _ => Or.inl (z40 c)
    · rw [l0]; simp
    · intro j hj; rw [l0] at hj; simp at hj
    · rw [l0]; simp
    · intro j hj; rw [l0] at hj; simp at hj
    · rw [q 2 (by omega)]; omega
    · unfold R0
      rw [l0, l0, q 100 (by omega), q 101 (by omega), q 102 (by omega), q 118 (by omega), q 135 (by omega), q 143 (by omega), q 0 (by omega), q 1 (by omega), q 2 (by omega), q 5 (by omega)]
      simp
    · intro c hc
      exact Or.inr ⟨by rw [q 1 (by omega)]; omega, z20 c, z40 c⟩
    · intro c hc; rw [z20] at hc; omega
    · exact ⟨fun _ => 0, fun _ => Nat.succ_pos 7, fun c hc => by rw [z20] at hc; omega⟩
    · intro c hc; rw [z20] at hc; omega
    · intro _ c hc; rw [z20] at hc; omega
    · intro _ c hc; rw [z20] at hc; omega
    · refine ⟨[], by rw [q 112 (by omega)]; rfl, fun k hk => by simp at hk, List.nodup_nil, fun c => ⟨fun hc => by simp at hc, fun hc => by rw [z20] at hc; omega⟩, List.Pairwise.nil⟩
    · intro c hc; rw [z20] at hc; omega
    · intro s _
      exact Or.inr ⟨by rw [l0]; simp, z20 _⟩
    · intro s s' hs; rw [l0] at hs; simp at hs
    · intro c hc; rw [z40] at hc; omega
    · intro i hi
      refine ⟨by rw [q 125 (by omega), z10], fun j _ hj => by rw [z10] at hj; omega, by rw [h8 129 i (by omega) hi, m 11 i (by omega)], by rw [m 11 i (by omega)]; omega, fun y => by rw [m 11 i (by omega)] at y; omega, by rw [h8 134 i (by omega) hi, m 14 i (by omega)], by rw [h8 142 i (by omega) hi, m 15 i (by omega)], by rw [m 15 i (by omega)]; omega⟩
    · exact fun t ht => absurd ht (l5 t)
    · intro c hc; rw [z20] at hc; omega
    · intro k hk; rw [l0] at hk; simp at hk
    · intro e _
      rw [q 117 (by omega), q 7 (by omega)]; omega
    · intro c k _ _ _
      exact q 115 (by omega) _
    · exact fun k hk => absurd hk (nC k)
    · intro c hc; rw [z20] at hc; omega
    · intro s hs; rw [l0] at hs; simp at hs
    · intro c hc; rw [z20] at hc; omega
    · rw [q 144 (by omega), q 4 (by omega)]
    · rw [q 4 (by omega)]; omega
    · intro n hn; rw [q 4 (by omega)] at hn; omega
    · unfold Rd
      rw [q 5 (by omega), q 4 (by omega), q 3 (by omega), q 124 (by omega), q 133 (by omega)]
      omega
  have hp : pot V L0 V = 0 := by
    unfold pot
    rw [q 133 (by omega), q 4 (by omega), smz 32 _ (fun k => ?_), smz 8 _ (fun k => ?_), smz 24 _ (fun k => ?_)]
    · rfl
    · unfold pt3
      rw [if_neg (by rw [l0]; simp)]
    · unfold pt2
      rw [m 11 k (by omega), if_neg (by omega)]
    · unfold pt1
      rw [z20, if_neg (by omega), if_neg (by omega), if_neg (by omega)]
  refine ⟨⟨hR, h60, by rw [hp]; omega, by rw [q 2 (by omega)]; omega, fun y => by rw [q 0 (by omega)] at y; omega⟩, fun _ => ⟨fun i _ => z10 i, rfl, fun c _ _ => ⟨q 108 (by omega) c, q 109 (by omega) c⟩⟩, fun k _ => q 141 (by omega) k⟩
end
