/-! where both begin -/
set_option maxRecDepth 100000 in
theorem init_C (n : Nat) : ∃ c1, D_H_init 2147483648 2 (cx_mk (c00 n) (0, 0) 7) = some (0, c1) ∧ cN c1 = 52 ∧ cZ c1 = n + 1873 ∧ (fixR.all (fun q => decide (cR c1 q.1 q.2.1 q.2.2.1 = some q.2.2.2))) = true ∧ (fixH.all (fun q => decide (cH c1 q.1 = some q.2))) = true ∧
    ((List.range 6).all (fun u => decide (cI c1 160 (22 + 3 * u) 0 = nI 0) && (decide (cI c1 161 (22 + 3 * u) 0 = -1) && decide (cI c1 162 (22 + 3 * u) 0 = nI 0)))) = true ∧ ((List.range 4).all (fun r => decide (cI c1 96 (40 + 3 * r) 0 = nI 0) && (decide (cI c1 97 (40 + 3 * r) 0 = nI 0) && (List.range 3).all (fun k => decide (cI c1 400 (41 + 3 * r) k = nI 3))))) = true ∧ cI c1 2 2 0 = nI 0 ∧ cI c1 64 14 0 = nI 0 ∧ cI c1 36 12 0 = nI 0 := ⟨_, rfl, rfl, rfl, rfl, rfl, rfl, rfl, rfl, rfl, rfl⟩
set_option maxRecDepth 100000 in
theorem init_M : ∃ s1, D_M_init 2147483648 (fun _ _ => 0) = some (0, s1) ∧ ((List.range 6).all (fun u => decide (s1 2 u = -1))) = true ∧ ((List.range 12).all (fun u => decide (s1 6 u = nI 3))) = true ∧ ((List.range 48).all (fun u => decide (s1 22 u = -1))) = true ∧
    s1 1 = (fun _ => nI 0) ∧ s1 3 = (fun _ => nI 0) ∧ s1 7 = (fun _ => nI 0) ∧ s1 8 = (fun _ => nI 0) ∧ s1 15 = (fun _ => nI 0) ∧ s1 18 = (fun _ => nI 0) ∧ s1 19 = (fun _ => nI 0) ∧ s1 20 = (fun _ => nI 0) ∧ s1 21 = (fun _ => nI 0) ∧ s1 27 = (fun _ => nI 0) ∧ s1 28 = (fun _ => nI 0) ∧ s1 30 = (fun _ => nI 0) ∧ s1 31 = (fun _ => nI 0) ∧ s1 32 = (fun _ => nI 0) ∧ s1 35 = (fun _ => nI 0) := ⟨_, rfl, rfl, rfl, rfl, rfl, rfl, rfl, rfl, rfl, rfl, rfl, rfl, rfl, rfl, rfl, rfl, rfl, rfl, rfl⟩
theorem all_of {n : Nat} {p : Nat → Bool} (h : (List.range n).all p = true) {i : Nat} (hi : i < n) : p i = true := List.all_eq_true.mp h i (List.mem_range.mpr hi)
def K00 : kx := (fun _ _ => 0, fun _ => 0, fun _ _ => 0, fun _ => 0, fun _ => 0, fun _ => 0, fun _ => 0, 0)
theorem nt0 : nt (nI 0) = 0 := rfl
theorem init_B (n : Nat) : ∃ c1 s1, D_H_init 2147483648 2 (cx_mk (c00 n) (0, 0) 7) = some (0, c1) ∧ cN c1 = 52 ∧ cZ c1 = n + 1873 ∧ D_M_init 2147483648 (fun _ _ => 0) = some (0, s1) ∧ St K00 (fun _ _ => 0) 0 (c01 c1) s1 ∧ s1 30 0 = nI 0 ∧ s1 31 0 = nI 0 := by
  obtain ⟨c1, a1, a2, a3, a4, a5, a6, a7, a8, a9, a10⟩ := init_C n
  obtain ⟨s1, m1, m2, m6, m22, z1, z3, z7, z8, z15, z18, z19, z20, z21, z27, z28, z30, z31, z32, z35⟩ := init_M
  have b6 := fun u (hu : u < 6) => all_of a6 hu
  have b7 := fun u (hu : u < 4) => all_of a7 hu
  have c2 := fun u (hu : u < 6) => of_decide_eq_true (all_of m2 hu)
  have c6 := fun u (hu : u < 12) => of_decide_eq_true (all_of m6 hu)
  have c22 := fun u (hu : u < 48) => of_decide_eq_true (all_of m22 hu)
  have r0 : ∀ m, 0 < m → m < 2 ^ 31 → rg (nI 0) m := fun m h1 h2 => rg_of h1 h2
  refine ⟨c1, s1, a1, a2, a3, m1, ⟨?_, ?_⟩, by rw [z30], by rw [z31]⟩
  · have fx : CFix (c01 c1) := ⟨fun q hq => of_decide_eq_true (List.all_eq_true.mp a4 q hq), fun q hq => of_decide_eq_true (List.all_eq_true.mp a5 q hq), Nat.le_refl _⟩
    have I : cI (c01 c1) = cI c1 := rfl
    unfold CRep
    rw [z1, z3, z7, z8, z15, z31, I]
    dsimp only
    rw [nt0]
    refine ⟨fx, fun u hu => ?_, fun u hu => ?_, fun u hu => ?_, fun u hu j hj => absurd hj (Nat.not_lt_zero _), fun u hu j hj => absurd hj (Nat.not_lt_zero _), fun r hr => ?_, fun r hr => ?_, fun r hr k hk => ?_, ?_⟩
    · have := b6 u hu
      simp only [Bool.and_eq_true, decide_eq_true_eq] at this
      exact this.1
    · have := b6 u hu
      simp only [Bool.and_eq_true, decide_eq_true_eq] at this
      rw [c2 u hu]; exact this.2.1
    · have := b6 u hu
      simp only [Bool.and_eq_true, decide_eq_true_eq] at this
      exact this.2.2
    · have := b7 r hr
      simp only [Bool.and_eq_true, decide_eq_true_eq] at this
      exact this.1
    · have := b7 r hr
      simp only [Bool.and_eq_true, decide_eq_true_eq] at this
      exact this.2.1
    · have := b7 r hr
      simp only [Bool.and_eq_true, decide_eq_true_eq] at this
      rw [c6 _ (by omega)]
      exact of_decide_eq_true (all_of this.2.2 hk)
    · refine ⟨fun r hr i hi => absurd hi (Nat.not_lt_zero _), ⟨fun r hr i hi => absurd hi (Nat.not_lt_zero _), fun r hr i hi => absurd hi (Nat.not_lt_zero _)⟩, fun r hr i hi => absurd hi (Nat.not_lt_zero _), fun r hr i hi => absurd hi (Nat.not_lt_zero _), fun r hr i hi => absurd hi (Nat.not_lt_zero _), fun r hr i hi => absurd hi (Nat.not_lt_zero _), fun r hr i hi => absurd hi (Nat.not_lt_zero _), fun r hr i hi => absurd hi (Nat.not_lt_zero _), a8, ?_⟩
      refine ⟨fun t ht => absurd ht (Nat.not_lt_zero _), ⟨fun t ht => absurd ht (Nat.not_lt_zero _), fun t ht => absurd ht (Nat.not_lt_zero _)⟩, fun t ht => absurd ht (Nat.not_lt_zero _), fun t ht => absurd ht (Nat.not_lt_zero _), fun t ht => absurd ht (Nat.not_lt_zero _), fun t ht => absurd ht (Nat.not_lt_zero _), fun t ht => absurd ht (Nat.not_lt_zero _), fun t ht => absurd ht (Nat.not_lt_zero _), fun t ht => absurd ht (Nat.not_lt_zero _), fun t ht => absurd ht (Nat.not_lt_zero _), fun t ht => absurd ht (Nat.not_lt_zero _), ⟨fun t ht => absurd ht (Nat.not_lt_zero _), fun t ht => absurd ht (Nat.not_lt_zero _)⟩, fun t ht => absurd ht (Nat.not_lt_zero _), fun t ht => absurd ht (Nat.not_lt_zero _), fun t ht => absurd ht (Nat.not_lt_zero _), fun t ht => absurd ht (Nat.not_lt_zero _), fun t ht => absurd ht (Nat.not_lt_zero _), a9, ?_⟩
      exact ⟨fun t ht => absurd ht (Nat.not_lt_zero _), ⟨fun t ht => absurd ht (Nat.not_lt_zero _), fun t ht => absurd ht (Nat.not_lt_zero _), fun t ht => absurd ht (Nat.not_lt_zero _)⟩, fun t ht => absurd ht (Nat.not_lt_zero _), fun t ht => absurd ht (Nat.not_lt_zero _), fun t ht => absurd ht (Nat.not_lt_zero _), fun t ht => absurd ht (Nat.not_lt_zero _), fun t ht => absurd ht (Nat.not_lt_zero _), a10, fun i hi => absurd hi (Nat.not_lt_zero _)⟩
  · refine ⟨⟨fun u hu => by rw [z3]; exact r0 _ (by decide) (by decide), fun j hj => by rw [c6 j hj]; exact rg_of (by decide) (by decide), fun r hr => by rw [z7]; exact r0 _ (by decide) (by decide), fun r hr => by rw [z8]; exact r0 _ (by decide) (by decide), fun r hr i hi => ?_, by rw [z15]; exact r0 _ (by decide) (by decide), by rw [z31]; exact r0 _ (by decide) (by decide), by rw [z32]; exact r0 _ (by decide) (by decide), fun j hj => by rw [z27]; exact Or.inl rfl⟩, fun r hr h8 => ?_, fun t ht1 ht2 => ?_, fun t ht => ?_, fun t ht => ?_, fun u hu => ?_, ?_, ?_, ?_⟩
    · rw [z7] at hi; exact absurd hi (Nat.not_lt_zero _)
    · rw [z8] at h8; exact absurd h8 (show ¬ nI 0 = nI 1 by decide)
    · refine ⟨by rw [z18], by rw [z19], fun j _ => by rw [z20], fun j _ => by rw [z21], fun j hj => c22 _ (by omega)⟩
    · rw [z15] at ht; exact absurd ht (Nat.not_lt_zero _)
    · rw [z15] at ht; exact absurd ht (Nat.not_lt_zero _)
    · unfold IU
      rw [z3]
      exact ⟨fun j hj => absurd hj (Nat.not_lt_zero _), fun j hj => absurd hj (Nat.not_lt_zero _), fun j hj => absurd hj (Nat.not_lt_zero _)⟩
    · unfold tU
      rw [z3]
      exact Nat.le_refl _
    · unfold IL
      rw [z31, z32, z35]
      exact ⟨rfl, fun l _ => r0 _ (by decide) (by decide), fun l hl => absurd hl (Nat.not_lt_zero _), rfl, Nat.le_refl _, fun l hl => absurd hl (Nat.not_lt_zero _)⟩
    · rw [z15, z18, z28]
      exact ⟨Nat.zero_le _, fun i hi => absurd hi (Nat.not_lt_zero _), fun i hi => absurd hi (Nat.not_lt_zero _), fun t ht => absurd ht (Nat.not_lt_zero _), rfl, fun i hi => absurd hi (Nat.not_lt_zero _)⟩
