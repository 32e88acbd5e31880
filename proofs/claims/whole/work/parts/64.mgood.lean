/-! the reference's way -/
section MG
variable {n : Nat} {kd nx ot be J Fj rk : Nat → Nat}
def mI (n : Nat) (kd : Nat → Nat) (A : A3) : Prop := A.1 0 = 1 ∧ (∀ i, 2 ≤ A.1 i → (A.1 i - 2) / 2 < n ∧ kd ((A.1 i - 2) / 2) = 5 ∧ A.1 ((A.1 i - 2) / 2) ≠ 0) ∧ (∀ j, kd j = 6 → A.1 j ≠ 0 → A.2.2 j ≠ 0) ∧
  (∀ j, A.2.2 j ≠ 0 → A.2.1 j ≠ 0 ∧ 2 ≤ A.2.2 j ∧ (A.2.1 j - 2) / 2 = (A.2.2 j - 2) / 2 ∧ A.2.1 j ≠ A.2.2 j ∧ A.1 j ≠ 0 ∧ A.1 j = A.1 ((A.2.2 j - 2) / 2)) ∧ ∀ j, A.2.1 j ≠ 0 → kd j = 6 ∧ 2 ≤ A.2.1 j ∧ (A.2.1 j - 2) / 2 < n ∧ kd ((A.2.1 j - 2) / 2) = 5 ∧ A.1 ((A.2.1 j - 2) / 2) ≠ 0
def mC1 (kd : Nat → Nat) (A : A3) (b j : Nat) : Prop := (kd j ≠ 6 → A.1 j = b + 1) ∧ (kd j = 6 → b ≠ 0 ∧ (A.2.1 j = b + 1 ∨ A.2.2 j = b + 1))
theorem mEnt_ok {A : A3} {j b : Nat} (hI : mI n kd A) (hf : Fk n kd A b) (h : (mEnt kd A j b).1 = true) : mI n kd (mEnt kd A j b).2 ∧ Ext A (mEnt kd A j b).2 ∧ mC1 kd (mEnt kd A j b).2 b j := by
  unfold mEnt at h ⊢
  by_cases h6 : kd j = 6
  · rw [if_pos h6] at h ⊢
    by_cases q : b = 0 ∨ A.2.1 j = b + 1 ∨ A.2.2 j = b + 1
    · rw [if_pos q] at h ⊢
      have hb : b ≠ 0 := of_decide_eq_true h
      exact ⟨hI, Ext.rfl, fun w => absurd h6 w, fun _ => ⟨hb, q.resolve_left hb⟩⟩
    · rw [if_neg q] at h ⊢
      have hb : b ≠ 0 := fun w => q (Or.inl w)
      obtain ⟨f1, f2, f3⟩ := hf hb
      obtain ⟨i1, i2, i3, i4, i5⟩ := hI
      by_cases q1 : A.2.1 j = 0
      · rw [if_pos q1]
        have ne : ∀ k, A.2.1 k ≠ 0 → up A.2.1 j (b + 1) k = A.2.1 k := fun k hk => up_ne (fun e => hk (by rw [e]; exact q1))
        refine ⟨⟨i1, i2, i3, fun k hk => ?_, fun k hk => ?_⟩, ⟨fun _ _ => rfl, ne, fun _ _ => rfl⟩, fun w => absurd h6 w, fun _ => ⟨hb, Or.inl up_eq⟩⟩
        · have := i4 k hk
          show up A.2.1 j (b + 1) k ≠ 0 ∧ 2 ≤ A.2.2 k ∧ (up A.2.1 j (b + 1) k - 2) / 2 = (A.2.2 k - 2) / 2 ∧ up A.2.1 j (b + 1) k ≠ A.2.2 k ∧ A.1 k ≠ 0 ∧ A.1 k = A.1 ((A.2.2 k - 2) / 2)
          rw [ne k this.1]; exact this
        · show kd k = 6 ∧ 2 ≤ up A.2.1 j (b + 1) k ∧ (up A.2.1 j (b + 1) k - 2) / 2 < n ∧ kd ((up A.2.1 j (b + 1) k - 2) / 2) = 5 ∧ A.1 ((up A.2.1 j (b + 1) k - 2) / 2) ≠ 0
          by_cases e : k = j
          · subst e
            rw [up_eq, show (b + 1 - 2) / 2 = (b - 1) / 2 by omega]
            exact ⟨h6, by omega, f1, f2, f3⟩
          · rw [up_ne e]
            have hk : up A.2.1 j (b + 1) k ≠ 0 := hk
            rw [up_ne e] at hk
            exact i5 k hk
      · rw [if_neg q1] at h ⊢
        obtain ⟨t0, hp⟩ := of_decide_eq_true h
        have b0 : A.1 j = 0 := Decidable.byContradiction (fun w => i3 j h6 w t0)
        have nb : ∀ k, A.1 k ≠ 0 → up A.1 j (A.1 ((b - 1) / 2)) k = A.1 k := fun k hk => up_ne (fun e => hk (by rw [e]; exact b0))
        have nt : ∀ k, A.2.2 k ≠ 0 → up A.2.2 j (b + 1) k = A.2.2 k := fun k hk => up_ne (fun e => hk (by rw [e]; exact t0))
        refine ⟨⟨?_, fun k hk => ?_, fun k hk6 hk => ?_, fun k hk => ?_, fun k hk => ?_⟩, ⟨nb, fun _ _ => rfl, nt⟩, fun w => absurd h6 w, fun _ => ⟨hb, Or.inr up_eq⟩⟩
        · show up A.1 j _ 0 = 1
          rw [nb 0 (by omega)]; exact i1
        · show (up A.1 j (A.1 ((b - 1) / 2)) k - 2) / 2 < n ∧ kd ((up A.1 j (A.1 ((b - 1) / 2)) k - 2) / 2) = 5 ∧ up A.1 j (A.1 ((b - 1) / 2)) ((up A.1 j (A.1 ((b - 1) / 2)) k - 2) / 2) ≠ 0
          have hk : 2 ≤ up A.1 j (A.1 ((b - 1) / 2)) k := hk
          by_cases e : k = j
          · subst e
            rw [up_eq] at hk ⊢
            have := i2 _ hk
            rw [nb _ this.2.2]; exact this
          · rw [up_ne e] at hk ⊢
            have := i2 _ hk
            rw [nb _ this.2.2]; exact this
        · show up A.2.2 j (b + 1) k ≠ 0
          by_cases e : k = j
          · subst e; rw [up_eq]; omega
          · have hk : up A.1 j (A.1 ((b - 1) / 2)) k ≠ 0 := hk
            rw [up_ne e] at hk ⊢
            exact i3 k hk6 hk
        · show A.2.1 k ≠ 0 ∧ 2 ≤ up A.2.2 j (b + 1) k ∧ (A.2.1 k - 2) / 2 = (up A.2.2 j (b + 1) k - 2) / 2 ∧ A.2.1 k ≠ up A.2.2 j (b + 1) k ∧ up A.1 j (A.1 ((b - 1) / 2)) k ≠ 0 ∧ up A.1 j (A.1 ((b - 1) / 2)) k = up A.1 j (A.1 ((b - 1) / 2)) ((up A.2.2 j (b + 1) k - 2) / 2)
          by_cases e : k = j
          · subst e
            rw [up_eq, up_eq, show (b + 1 - 2) / 2 = (b - 1) / 2 by omega, nb _ f3]
            exact ⟨q1, by omega, hp, fun w => q (Or.inr (Or.inl w)), f3, rfl⟩
          · have hk : up A.2.2 j (b + 1) k ≠ 0 := hk
            rw [up_ne e] at hk
            have := i4 k hk
            rw [up_ne e, up_ne e, nb _ (by rw [← this.2.2.2.2.2]; exact this.2.2.2.2.1)]
            exact this
        · have := i5 k hk
          show kd k = 6 ∧ 2 ≤ A.2.1 k ∧ (A.2.1 k - 2) / 2 < n ∧ kd ((A.2.1 k - 2) / 2) = 5 ∧ up A.1 j (A.1 ((b - 1) / 2)) ((A.2.1 k - 2) / 2) ≠ 0
          rw [nb _ this.2.2.2.2]; exact this
  · rw [if_neg h6] at h ⊢
    have h := of_decide_eq_true h
    by_cases b0 : A.1 j = b + 1
    · rw [up_same b0]
      exact ⟨hI, Ext.rfl, fun _ => b0, fun w => absurd w h6⟩
    · have b0 := h.resolve_right b0
      obtain ⟨i1, i2, i3, i4, i5⟩ := hI
      have nb : ∀ k, A.1 k ≠ 0 → up A.1 j (b + 1) k = A.1 k := fun k hk => up_ne (fun e => hk (by rw [e]; exact b0))
      refine ⟨⟨?_, fun k hk => ?_, fun k hk6 hk => ?_, fun k hk => ?_, fun k hk => ?_⟩, ⟨nb, fun _ _ => rfl, fun _ _ => rfl⟩, fun _ => up_eq, fun w => absurd w h6⟩
      · show up A.1 j _ 0 = 1
        rw [nb 0 (by omega)]; exact i1
      · show (up A.1 j (b + 1) k - 2) / 2 < n ∧ kd ((up A.1 j (b + 1) k - 2) / 2) = 5 ∧ up A.1 j (b + 1) ((up A.1 j (b + 1) k - 2) / 2) ≠ 0
        have hk : 2 ≤ up A.1 j (b + 1) k := hk
        by_cases e : k = j
        · subst e
          rw [up_eq] at hk ⊢
          obtain ⟨f1, f2, f3⟩ := hf (by omega)
          rw [show (b + 1 - 2) / 2 = (b - 1) / 2 by omega, nb _ f3]; exact ⟨f1, f2, f3⟩
        · rw [up_ne e] at hk ⊢
          have := i2 _ hk
          rw [nb _ this.2.2]; exact this
      · have hk : up A.1 j (b + 1) k ≠ 0 := hk
        rw [up_ne (fun e => h6 (by rw [← e]; exact hk6))] at hk
        exact i3 k hk6 hk
      · have := i4 k hk
        show A.2.1 k ≠ 0 ∧ 2 ≤ A.2.2 k ∧ (A.2.1 k - 2) / 2 = (A.2.2 k - 2) / 2 ∧ A.2.1 k ≠ A.2.2 k ∧ up A.1 j (b + 1) k ≠ 0 ∧ up A.1 j (b + 1) k = up A.1 j (b + 1) ((A.2.2 k - 2) / 2)
        rw [nb k this.2.2.2.2.1, nb _ (by rw [← this.2.2.2.2.2]; exact this.2.2.2.2.1)]; exact this
      · have := i5 k hk
        show kd k = 6 ∧ 2 ≤ A.2.1 k ∧ (A.2.1 k - 2) / 2 < n ∧ kd ((A.2.1 k - 2) / 2) = 5 ∧ up A.1 j (b + 1) ((A.2.1 k - 2) / 2) ≠ 0
        rw [nb _ this.2.2.2.2]; exact this
theorem mEnt_stay {A : A3} {j b : Nat} (hc : mC1 kd A b j) : mEnt kd A j b = (true, A) := by
  unfold mEnt
  by_cases h6 : kd j = 6
  · obtain ⟨a, b1⟩ := hc.2 h6
    rw [if_pos h6, if_pos (Or.inr b1)]
    simp only [ne_eq, a, not_false_eq_true, decide_true]
  · rw [if_neg h6]
    have q := hc.1 h6
    rw [up_same q]
    simp only [q, or_true, decide_true]
theorem mC1_ext {A B : A3} {j b : Nat} (h : Ext A B) (hc : mC1 kd A b j) : mC1 kd B b j :=
  ⟨fun q => by rw [h.1 j (by have := hc.1 q; omega)]; exact hc.1 q, fun q => by
    obtain ⟨a, b1⟩ := hc.2 q
    refine ⟨a, ?_⟩
    rcases b1 with c | c
    · exact Or.inl (by rw [h.2.1 j (by omega)]; exact c)
    · exact Or.inr (by rw [h.2.2 j (by omega)]; exact c)⟩
def mC (kd nx ot : Nat → Nat) (A : A3) (i : Nat) : Prop := (kd i = 9 → A.1 i = 1) ∧ (kd i = 5 → kd (nx i) ≠ 6 ∧ kd (ot i) ≠ 6) ∧ (kd i ≠ 9 → mC1 kd A (if kd i = 5 then 2 * i + 1 else A.1 i - 1) (nx i)) ∧ (kd i = 5 ∨ kd i = 7 ∨ kd i = 8 → mC1 kd A (if kd i = 5 then 2 * i + 2 else A.1 i - 1) (ot i))
theorem mFk_of {A : A3} {i b : Nat} (hI : mI n kd A) (hi : i < n) (hA : A.1 i ≠ 0) (hb : kd i = 5 ∧ (b = 2 * i + 1 ∨ b = 2 * i + 2) ∨ b = A.1 i - 1) : Fk n kd A b := by
  intro h
  rcases hb with ⟨h5, hb⟩ | hb
  · rw [show (b - 1) / 2 = i by omega]; exact ⟨hi, h5, hA⟩
  · have := hI.2.1 i (by omega)
    rw [hb, show (A.1 i - 1 - 1) / 2 = (A.1 i - 2) / 2 by omega]; exact this
theorem mLead_ok : ∀ A i, i < n → mI n kd A → A.1 i ≠ 0 → (mLead kd nx ot A i).1 = true → mI n kd (mLead kd nx ot A i).2 ∧ Ext A (mLead kd nx ot A i).2 ∧ mC kd nx ot (mLead kd nx ot A i).2 i := by
  intro A i hi hI hA h
  unfold mLead at h ⊢
  by_cases h9 : kd i = 9
  · rw [if_pos h9] at h ⊢
    exact ⟨hI, Ext.rfl, fun _ => of_decide_eq_true h, fun w => by omega, fun w => absurd h9 w, fun w => by omega⟩
  rw [if_neg h9] at h ⊢
  by_cases h5 : kd i = 5
  · rw [if_pos h5] at h ⊢
    by_cases hj : kd (nx i) = 6 ∨ kd (ot i) = 6
    · rw [if_pos hj] at h; simp at h
    rw [if_neg hj] at h ⊢
    by_cases q : (mEnt kd A (nx i) (2 * i + 1)).1 = true
    · simp only [if_pos q] at h ⊢
      obtain ⟨a, b, c⟩ := mEnt_ok hI (mFk_of hI hi hA (Or.inl ⟨h5, Or.inl rfl⟩)) q
      have ei := b.1 i hA
      obtain ⟨a2, b2, c2⟩ := mEnt_ok a (mFk_of a hi (by rw [ei]; exact hA) (Or.inl ⟨h5, Or.inr rfl⟩)) h
      refine ⟨a2, b.tr b2, fun w => absurd w h9, fun _ => ⟨fun w => hj (Or.inl w), fun w => hj (Or.inr w)⟩, fun _ => ?_, fun _ => ?_⟩
      · rw [if_pos h5]; exact mC1_ext b2 c
      · rw [if_pos h5]; exact c2
    · simp only [if_neg q] at h; simp at h
  · rw [if_neg h5] at h ⊢
    by_cases q : (mEnt kd A (nx i) (A.1 i - 1)).1 = true
    · simp only [if_pos q] at h ⊢
      obtain ⟨a, b, c⟩ := mEnt_ok hI (mFk_of hI hi hA (Or.inr rfl)) q
      have ei := b.1 i hA
      by_cases ho : kd i = 7 ∨ kd i = 8
      · rw [if_pos ho] at h ⊢
        obtain ⟨a2, b2, c2⟩ := mEnt_ok a (mFk_of a hi (by rw [ei]; exact hA) (Or.inr rfl)) h
        have ei2 := b2.1 i (by rw [ei]; exact hA)
        refine ⟨a2, b.tr b2, fun w => absurd w h9, fun w => absurd w h5, fun _ => ?_, fun _ => ?_⟩
        · rw [if_neg h5, ei2]
          refine mC1_ext b2 ?_
          rw [ei]; exact c
        · rw [if_neg h5, ei2]; exact c2
      · rw [if_neg ho] at h ⊢
        refine ⟨a, b, fun w => absurd w h9, fun w => absurd w h5, fun _ => ?_, fun w => by omega⟩
        rw [if_neg h5]
        show mC1 kd (mEnt kd A (nx i) (A.1 i - 1)).2 ((mEnt kd A (nx i) (A.1 i - 1)).2.1 i - 1) (nx i)
        rw [ei]; exact c
    · simp only [if_neg q] at h; simp at h
theorem mLead_stay : ∀ A i, i < n → mI n kd A → A.1 i ≠ 0 → mC kd nx ot A i → (mLead kd nx ot A i).1 = true → (mLead kd nx ot A i).2 = A := by
  intro A i hi hI hA hC _
  unfold mLead
  by_cases h9 : kd i = 9
  · rw [if_pos h9]
  rw [if_neg h9]
  have c1 := hC.2.2.1 h9
  by_cases h5 : kd i = 5
  · have c2 := hC.2.2.2 (Or.inl h5)
    have hj := hC.2.1 h5
    rw [if_pos h5] at c1 c2 ⊢
    rw [if_neg (fun w => w.elim hj.1 hj.2)]
    simp only [mEnt_stay c1, mEnt_stay c2, if_true]
  · rw [if_neg h5] at c1 ⊢
    simp only [mEnt_stay c1, if_true]
    by_cases ho : kd i = 7 ∨ kd i = 8
    · have c2 := hC.2.2.2 (Or.inr ho)
      rw [if_neg h5] at c2
      rw [if_pos ho, mEnt_stay c2]
    · rw [if_neg ho]
theorem mC_ext : ∀ A B i, i < n → mI n kd A → mI n kd B → Ext A B → A.1 i ≠ 0 → mC kd nx ot A i → mC kd nx ot B i := by
  intro A B i _ _ _ h hA hC
  unfold mC
  rw [h.1 i hA]
  exact ⟨hC.1, hC.2.1, fun q => mC1_ext h (hC.2.2.1 q), fun q => mC1_ext h (hC.2.2.2 q)⟩
theorem mI_A0 (h0 : kd 0 ≠ 6) : mI n kd A0 := by
  refine ⟨rfl, fun i hi => ?_, fun j hj6 hj => ?_, fun j hj => absurd rfl hj, fun j hj => absurd rfl hj⟩
  · have hi : 2 ≤ (if i = 0 then 1 else 0) := hi
    split at hi <;> omega
  · by_cases e : j = 0
    · subst e; exact absurd hj6 h0
    · exact absurd (if_neg e) hj
def mGood (n : Nat) (kd nx ot : Nat → Nat) : Prop := kd 0 ≠ 6 ∧ (aRnds (mLead kd nx ot) n (n + 1) A0).1 = true ∧ ∀ i, i < n → (aRnds (mLead kd nx ot) n (n + 1) A0).2.1 i ≠ 0 ∧ (kd i = 6 → (aRnds (mLead kd nx ot) n (n + 1) A0).2.2.2 i ≠ 0) ∧
  ∀ k, k < i → (aRnds (mLead kd nx ot) n (n + 1) A0).2.2.1 i = 0 ∨ (aRnds (mLead kd nx ot) n (n + 1) A0).2.2.1 k = 0 ∨ ((aRnds (mLead kd nx ot) n (n + 1) A0).2.2.1 i - 2) / 2 ≠ ((aRnds (mLead kd nx ot) n (n + 1) A0).2.2.1 k - 2) / 2
theorem mGood_gl (hn : 0 < n) (hs : Snd n kd nx ot) (h : mGood n kd nx ot) : ∃ A J, A = (aRnds (mLead kd nx ot) n (n + 1) A0).2 ∧ mI n kd A ∧ (∀ i, i < n → A.1 i ≠ 0) ∧ (∀ i, i < n → kd i = 6 → A.2.2 i ≠ 0) ∧ GL n kd nx ot (fun i => A.1 i - 1) J (fun j => (A.2.1 j - 2) / 2) := by
  obtain ⟨h0, h1, h2⟩ := h
  obtain ⟨a, b, c⟩ := aRnds_ok mLead_ok mC_ext mLead_stay (n + 1) A0 1 (mI_A0 h0) (Or.inr (cnt_A0 hn)) (by omega) h1
  generalize (aRnds (mLead kd nx ot) n (n + 1) A0).2 = A at *
  have inj : ∀ i, i < n → ∀ j, j < n → kd i = 6 → kd j = 6 → (A.2.1 i - 2) / 2 = (A.2.1 j - 2) / 2 → i = j := by
    intro i hi j hj hi6 hj6 e
    have i0 := (a.2.2.2.1 i ((h2 i hi).2.1 hi6)).1
    have j0 := (a.2.2.2.1 j ((h2 j hj).2.1 hj6)).1
    rcases Nat.lt_trichotomy i j with q | q | q
    · exact absurd e.symm (((h2 j hj).2.2 i q).resolve_left j0 |>.resolve_left i0)
    · exact q
    · exact absurd e (((h2 i hi).2.2 j q).resolve_left i0 |>.resolve_left j0)
  have uni : ∀ b, ∃ v, ∀ j, j < n → kd j = 6 → A.2.1 j = b + 1 ∨ A.2.2 j = b + 1 → v = j := by
    intro b
    by_cases q : ∃ j, j < n ∧ kd j = 6 ∧ (A.2.1 j = b + 1 ∨ A.2.2 j = b + 1)
    · obtain ⟨j, hj, hj6, hq⟩ := q
      refine ⟨j, fun k hk hk6 hkq => inj j hj k hk hj6 hk6 ?_⟩
      have := (a.2.2.2.1 j ((h2 j hj).2.1 hj6)).2.2.1
      have := (a.2.2.2.1 k ((h2 k hk).2.1 hk6)).2.2.1
      rcases hq with w | w <;> rcases hkq with w2 | w2 <;> omega
    · exact ⟨0, fun j hj hj6 hq => absurd ⟨j, hj, hj6, hq⟩ q⟩
  obtain ⟨J, hJ⟩ := Classical.skolem.mp uni
  refine ⟨A, J, rfl, a, fun i hi => (h2 i hi).1, fun i hi => (h2 i hi).2.1, by show A.1 0 - 1 = 0; have := a.1; omega, h0, fun i hi h9 => ?_, fun i hi h5 => ?_, fun i hi h5 j hw => ?_, inj⟩
  · have := (c i hi (h2 i hi).1).1 h9
    show A.1 i - 1 = 0; omega
  · have ci := c i hi (h2 i hi).1
    have q := ci.2.1 h5
    have c1 := (ci.2.2.1 (by omega)).1 q.1
    have c2 := (ci.2.2.2 (Or.inl h5)).1 q.2
    rw [if_pos h5] at c1 c2
    exact ⟨q.1, q.2, by show A.1 (nx i) - 1 = _; omega, by show A.1 (ot i) - 1 = _; omega⟩
  · have ci := c i hi (h2 i hi).1
    have c1 : mC1 kd A (A.1 i - 1) j ∧ j < n := by
      rcases hw with ⟨w1, w2⟩ | ⟨w1, w2⟩
      · have := ci.2.2.1 w1
        rw [if_neg h5] at this
        rw [w2]; exact ⟨this, ((hs i hi).1 w1).2⟩
      · have := ci.2.2.2 w1
        rw [if_neg h5] at this
        rw [w2]
        refine ⟨this, ?_⟩
        by_cases w3 : kd i = 8
        · have := (hs i hi).2.2 w3; omega
        · exact ((hs i hi).2.1 (by omega)).2
    obtain ⟨c1, hj⟩ := c1
    refine ⟨fun q => ?_, fun q => ?_⟩
    · have := c1.1 q
      show A.1 j - 1 = A.1 i - 1; omega
    · obtain ⟨u1, u2⟩ := c1.2 q
      have t := a.2.2.2.1 j ((h2 j hj).2.1 q)
      have e : (A.2.1 j - 2) / 2 = (A.1 i - 1 - 1) / 2 := by
        rcases u2 with u2 | u2
        · omega
        · have := t.2.2.1; omega
      refine ⟨u1, hJ _ j hj q u2, e, ?_⟩
      show A.1 j - 1 = A.1 ((A.1 i - 1 - 1) / 2) - 1
      rw [t.2.2.2.2.2, ← t.2.2.1, e]
def HM (n : Nat) (kd be Fj : Nat → Nat) (A : A3) : Prop := mI n kd A ∧ (∀ i, i < n → A.1 i = 0 ∨ A.1 i = be i + 1) ∧ ∀ j, j < n → A.2.1 j ≠ 0 → (A.2.1 j - 2) / 2 = Fj j
theorem mEnt_go {A : A3} {j b : Nat} (h : HM n kd be Fj A) (hj : j < n) (hf : Fk n kd A b) (he : Ent kd be J Fj b j) : (mEnt kd A j b).1 = true ∧ HM n kd be Fj (mEnt kd A j b).2 := by
  obtain ⟨hI, h1, h2⟩ := h
  have key : (mEnt kd A j b).1 = true ∧ (mI n kd (mEnt kd A j b).2 → HM n kd be Fj (mEnt kd A j b).2) := by
    unfold mEnt
    by_cases h6 : kd j = 6
    · rw [if_pos h6]
      have e := he.2 h6
      obtain ⟨f1, f2, f3⟩ := hf e.1
      by_cases q : b = 0 ∨ A.2.1 j = b + 1 ∨ A.2.2 j = b + 1
      · rw [if_pos q]
        exact ⟨decide_eq_true e.1, fun _ => ⟨hI, h1, h2⟩⟩
      · rw [if_neg q]
        by_cases q1 : A.2.1 j = 0
        · rw [if_pos q1]
          refine ⟨rfl, fun hK => ⟨hK, h1, fun k hk hk1 => ?_⟩⟩
          show (up A.2.1 j (b + 1) k - 2) / 2 = Fj k
          by_cases w : k = j
          · subst w; rw [up_eq, e.2.2.1]; omega
          · have hk1 : up A.2.1 j (b + 1) k ≠ 0 := hk1
            rw [up_ne w] at hk1 ⊢
            exact h2 k hk hk1
        · rw [if_neg q1]
          have o := h2 j hj q1
          have o2 := (hI.2.2.2.2 j q1).2.1
          have t0 : A.2.2 j = 0 := Decidable.byContradiction (fun w => by
            have t := hI.2.2.2.1 j w
            have e3 := e.2.2.1
            have := e.1
            apply q
            omega)
          refine ⟨decide_eq_true ⟨t0, by rw [o, e.2.2.1]⟩, fun hK => ⟨hK, fun i hi => ?_, h2⟩⟩
          show up A.1 j _ i = 0 ∨ up A.1 j _ i = _
          by_cases w : i = j
          · subst w; right; rw [up_eq, e.2.2.2]; exact (h1 _ f1).resolve_left f3
          · rw [up_ne w]; exact h1 i hi
    · rw [if_neg h6]
      have e := he.1 h6
      refine ⟨decide_eq_true (by rw [← e]; exact h1 j hj), fun hK => ⟨hK, fun i hi => ?_, h2⟩⟩
      show up A.1 j _ i = 0 ∨ up A.1 j _ i = _
      by_cases w : i = j
      · subst w; right; rw [up_eq, e]
      · rw [up_ne w]; exact h1 i hi
  exact ⟨key.1, key.2 (mEnt_ok hI hf key.1).1⟩
theorem mLead_go (hs : Snd n kd nx ot) (hg : GL n kd nx ot be J Fj) : ∀ A i, i < n → HM n kd be Fj A → A.1 i ≠ 0 → (mLead kd nx ot A i).1 = true ∧ HM n kd be Fj (mLead kd nx ot A i).2 := by
  intro A i hi h hA
  have ei : A.1 i - 1 = be i := by have := (h.2.1 i hi).resolve_left hA; omega
  unfold mLead
  by_cases h9 : kd i = 9
  · rw [if_pos h9]
    exact ⟨decide_eq_true (by have := hg.2.2.1 i hi h9; omega), h⟩
  rw [if_neg h9]
  have hn := (hs i hi).1 h9
  by_cases h5 : kd i = 5
  · obtain ⟨q1, q2, q3, q4⟩ := hg.2.2.2.1 i hi h5
    have ho := (hs i hi).2.1 (Or.inl h5)
    rw [if_pos h5, if_neg (fun w => w.elim q1 q2)]
    have fk := mFk_of h.1 hi hA (Or.inl ⟨h5, Or.inl rfl⟩)
    obtain ⟨a, b⟩ := mEnt_go (J := J) h hn.2 fk ⟨fun _ => q3, fun w => absurd w q1⟩
    have eb := (mEnt_ok h.1 fk a).2.1.1 i hA
    simp only [if_pos a]
    exact mEnt_go (J := J) b ho.2 (mFk_of b.1 hi (by rw [eb]; exact hA) (Or.inl ⟨h5, Or.inr rfl⟩)) ⟨fun _ => q4, fun w => absurd w q2⟩
  · rw [if_neg h5]
    have fk := mFk_of h.1 hi hA (Or.inr rfl)
    obtain ⟨a, b⟩ := mEnt_go (J := J) h hn.2 fk (by rw [ei]; exact hg.2.2.2.2.1 i hi h5 _ (Or.inl ⟨h9, rfl⟩))
    have eb := (mEnt_ok h.1 fk a).2.1.1 i hA
    simp only [if_pos a]
    by_cases ho : kd i = 7 ∨ kd i = 8
    · rw [if_pos ho]
      have hjn : ot i < n := by
        by_cases w3 : kd i = 8
        · have := (hs i hi).2.2 w3; omega
        · exact ((hs i hi).2.1 (by omega)).2
      refine mEnt_go (J := J) b hjn (mFk_of b.1 hi (by rw [eb]; exact hA) (Or.inr rfl)) ?_
      rw [eb, ei]; exact hg.2.2.2.2.1 i hi h5 _ (Or.inr ⟨Or.inr ho, rfl⟩)
    · rw [if_neg ho]; exact ⟨rfl, b⟩
theorem gl_mGood (hn : 0 < n) (hs : Snd n kd nx ot) (hr : Rnk n kd nx ot rk) (hg : GL n kd nx ot be J Fj) : mGood n kd nx ot := by
  have h0 : HM n kd be Fj A0 := by
    refine ⟨mI_A0 hg.2.1, fun i hi => ?_, fun j hj hq => absurd rfl hq⟩
    by_cases e : i = 0
    · subst e; right; rw [hg.1]; rfl
    · left; exact if_neg e
  obtain ⟨h1, h2⟩ := aRnds_go (mLead_go hs hg) (n + 1) A0 h0
  obtain ⟨a, b, c⟩ := aRnds_ok mLead_ok mC_ext mLead_stay (n + 1) A0 1 (mI_A0 hg.2.1) (Or.inr (cnt_A0 hn)) (by omega) h1
  refine ⟨hg.2.1, h1, ?_⟩
  generalize (aRnds (mLead kd nx ot) n (n + 1) A0).2 = A at *
  have eb : ∀ i, i < n → A.1 i ≠ 0 → A.1 i = be i + 1 := fun i hi q => (h2.2.1 i hi).resolve_left q
  have cls : Cls n kd nx ot be (fun i => A.1 i ≠ 0) := by
    refine ⟨fun i hi hA j hw h6 => ?_, fun i1 hi1 hA1 n1 i2 hi2 hA2 n2 f hf1 hf2 j w1 w2 h6 => ?_⟩
    · show A.1 j ≠ 0
      have ci := c i hi hA
      rcases hw with ⟨w1, w2⟩ | ⟨w1, w2⟩
      · have := (ci.2.2.1 w1).1 (w2 ▸ h6)
        rw [w2, this]; omega
      · have := (ci.2.2.2 w1).1 (w2 ▸ h6)
        rw [w2, this]; omega
    · show A.1 j ≠ 0
      have get : ∀ i, i < n → A.1 i ≠ 0 → kd i ≠ 5 → Way kd nx ot i j → A.2.1 j = be i + 1 ∨ A.2.2 j = be i + 1 := by
        intro i hi hA h5 hw
        have ci := c i hi hA
        have e : A.1 i - 1 = be i := by rw [eb i hi hA]; omega
        rcases hw with ⟨w1, w2⟩ | ⟨w1, w2⟩
        · have := (ci.2.2.1 w1).2 (w2 ▸ h6)
          rw [if_neg h5, e, ← w2] at this
          exact this.2
        · have := (ci.2.2.2 w1).2 (w2 ▸ h6)
          rw [if_neg h5, e, ← w2] at this
          exact this.2
      have g1 := get i1 hi1 hA1 n1 w1
      have g2 := get i2 hi2 hA2 n2 w2
      exact (a.2.2.2.1 j (by omega)).2.2.2.2.1
  have lab : ∀ i, i < n → A.1 i ≠ 0 := cls_all hs hg cls hr (by show A.1 0 ≠ 0; rw [a.1]; decide) (fun i hi hA hb => by
    have e := eb i hi hA
    have := a.2.1 i (by omega)
    rw [show (be i - 1) / 2 = (A.1 i - 2) / 2 by omega]
    exact ⟨this.1, this.2.2, this.2.1⟩)
  refine fun i hi => ⟨lab i hi, fun h6 => a.2.2.1 i h6 (lab i hi), fun k hk => ?_⟩
  by_cases qi : A.2.1 i = 0
  · exact Or.inl qi
  by_cases qk : A.2.1 k = 0
  · exact Or.inr (Or.inl qk)
  refine Or.inr (Or.inr (fun e => ?_))
  rw [h2.2.2 i hi qi, h2.2.2 k (by omega) qk] at e
  have := hg.2.2.2.2.2 i hi k (by omega) (a.2.2.2.2 i qi).1 (a.2.2.2.2 k qk).1 e
  omega
end MG
