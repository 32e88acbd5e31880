/-! the class's way -/
section CG
variable {n : Nat} {kd nx ot be J Fj rk : Nat → Nat}
def KI (n : Nat) (kd : Nat → Nat) (A : A3) : Prop := A.1 0 = 1 ∧ A.2.1 0 = 0 ∧ (∀ j, A.2.1 j ≠ 0 → A.1 j ≠ 0 ∧ A.1 j = A.1 (A.2.1 j - 1)) ∧ ∀ i, 2 ≤ A.1 i → (A.1 i - 2) / 2 < n ∧ kd ((A.1 i - 2) / 2) = 5 ∧ A.1 ((A.1 i - 2) / 2) ≠ 0
def cC1 (kd : Nat → Nat) (A : A3) (b j : Nat) (bg : Bool) : Prop := (kd j ≠ 6 → A.1 j = b + 1) ∧ (kd j = 6 → bg = false ∧ b ≠ 0 ∧ A.2.1 j = (b - 1) / 2 + 1 ∧ A.2.2 b = j + 1)
def Fk (n : Nat) (kd : Nat → Nat) (A : A3) (b : Nat) : Prop := b ≠ 0 → (b - 1) / 2 < n ∧ kd ((b - 1) / 2) = 5 ∧ A.1 ((b - 1) / 2) ≠ 0
/-- a label set where none was -/
theorem KI_set {A : A3} {j v : Nat} (hI : KI n kd A) (h0 : A.1 j = 0) (hv : 2 ≤ v → (v - 2) / 2 < n ∧ kd ((v - 2) / 2) = 5 ∧ A.1 ((v - 2) / 2) ≠ 0) : KI n kd (up A.1 j v, A.2.1, A.2.2) ∧ Ext A (up A.1 j v, A.2.1, A.2.2) := by
  obtain ⟨i1, i2, i3, i4⟩ := hI
  have ne : ∀ k, A.1 k ≠ 0 → up A.1 j v k = A.1 k := fun k hk => up_ne (fun e => hk (by rw [e]; exact h0))
  refine ⟨⟨by show up A.1 j v 0 = 1; rw [ne 0 (by omega)]; exact i1, i2, fun k hk => ?_, fun k hk => ?_⟩, ⟨ne, fun _ _ => rfl, fun _ _ => rfl⟩⟩
  · obtain ⟨a, b⟩ := i3 k hk
    show up A.1 j v k ≠ 0 ∧ up A.1 j v k = up A.1 j v (A.2.1 k - 1)
    rw [ne k a, ne _ (by rw [← b]; exact a)]
    exact ⟨a, b⟩
  · show (up A.1 j v k - 2) / 2 < n ∧ kd ((up A.1 j v k - 2) / 2) = 5 ∧ up A.1 j v ((up A.1 j v k - 2) / 2) ≠ 0
    have hk : 2 ≤ up A.1 j v k := hk
    by_cases e : k = j
    · subst e
      rw [up_eq] at hk ⊢
      obtain ⟨a, b, c⟩ := hv hk
      exact ⟨a, b, by rw [ne _ c]; exact c⟩
    · rw [up_ne e] at hk ⊢
      obtain ⟨a, b, c⟩ := i4 k hk
      exact ⟨a, b, by rw [ne _ c]; exact c⟩
theorem cEnt_ok {A : A3} {j b : Nat} {bg : Bool} (hI : KI n kd A) (hf : Fk n kd A b) (h : (cEnt kd A j b bg).1 = true) : KI n kd (cEnt kd A j b bg).2 ∧ Ext A (cEnt kd A j b bg).2 ∧ cC1 kd (cEnt kd A j b bg).2 b j bg := by
  unfold cEnt at h ⊢
  by_cases h6 : kd j = 6
  · rw [if_pos h6] at h ⊢
    cases bg with
    | true => simp at h
    | false =>
      simp only [Bool.false_eq_true, if_false] at h ⊢
      unfold cJoin at h ⊢
      by_cases hb : b = 0
      · rw [if_pos hb] at h; simp at h
      rw [if_neg hb] at h ⊢
      obtain ⟨f1, f2, f3⟩ := hf hb
      have step1 : ∃ A1 : A3, A1 = (if A.1 j = 0 then (up A.1 j (A.1 ((b - 1) / 2)), up A.2.1 j ((b - 1) / 2 + 1), A.2.2) else A) ∧ KI n kd A1 ∧ Ext A A1 := by
        refine ⟨_, rfl, ?_⟩
        by_cases q : A.1 j = 0
        · rw [if_pos q]
          obtain ⟨⟨k1, k2, k3, k4⟩, e1, _, _⟩ := KI_set (v := A.1 ((b - 1) / 2)) hI q (fun w => hI.2.2.2 _ w)
          have hj0 : j ≠ 0 := fun e => by have := hI.1; rw [e] at q; omega
          have hfj : A.2.1 j = 0 := Decidable.byContradiction (fun w => (hI.2.2.1 j w).1 q)
          have ne : up A.1 j (A.1 ((b - 1) / 2)) ((b - 1) / 2) = A.1 ((b - 1) / 2) := e1 _ f3
          refine ⟨⟨k1, by show up A.2.1 j _ 0 = 0; rw [up_ne (fun e => hj0 e.symm)]; exact hI.2.1, fun k hk => ?_, k4⟩, e1, fun k hk => ?_, fun _ _ => rfl⟩
          · show up A.1 j (A.1 ((b - 1) / 2)) k ≠ 0 ∧ up A.1 j (A.1 ((b - 1) / 2)) k = up A.1 j (A.1 ((b - 1) / 2)) (up A.2.1 j ((b - 1) / 2 + 1) k - 1)
            have hk : up A.2.1 j ((b - 1) / 2 + 1) k ≠ 0 := hk
            by_cases e : k = j
            · subst e
              rw [up_eq, up_eq, Nat.add_sub_cancel, ne]
              exact ⟨f3, rfl⟩
            · rw [up_ne e] at hk
              have := k3 k hk
              rw [up_ne (x := A.2.1) e]
              exact this
          · exact up_ne (fun e => hk (by rw [e]; exact hfj))
        · rw [if_neg q]; exact ⟨hI, Ext.rfl⟩
      obtain ⟨A1, hA1, k1, e1⟩ := step1
      rw [← hA1] at h ⊢
      simp only at h ⊢
      have hA2 : ∃ A2 : A3, A2 = (if A1.2.2 b = 0 then (A1.1, A1.2.1, up A1.2.2 b (j + 1)) else A1) ∧ KI n kd A2 ∧ Ext A1 A2 := by
        refine ⟨_, rfl, ?_⟩
        by_cases q : A1.2.2 b = 0
        · rw [if_pos q]
          exact ⟨k1, fun _ _ => rfl, fun _ _ => rfl, fun k hk => up_ne (fun e => hk (by rw [e]; exact q))⟩
        · rw [if_neg q]; exact ⟨k1, Ext.rfl⟩
      obtain ⟨A2, hA2, k2, e2⟩ := hA2
      rw [← hA2] at h ⊢
      have h := of_decide_eq_true h
      exact ⟨k2, e1.tr e2, fun w => absurd h6 w, fun _ => ⟨rfl, hb, h.1, h.2⟩⟩
  · rw [if_neg h6] at h ⊢
    by_cases q : A.1 j = 0
    · simp only [if_pos q] at h ⊢
      obtain ⟨k1, e1⟩ := KI_set (v := b + 1) hI q (fun w => by
        have := hf (by omega)
        rw [show (b + 1 - 2) / 2 = (b - 1) / 2 by omega]; exact this)
      exact ⟨k1, e1, fun _ => of_decide_eq_true h, fun w => absurd w h6⟩
    · simp only [if_neg q] at h ⊢
      exact ⟨hI, Ext.rfl, fun _ => of_decide_eq_true h, fun w => absurd w h6⟩
theorem cEnt_stay {A : A3} {j b : Nat} {bg : Bool} (hI : KI n kd A) (hc : cC1 kd A b j bg) : cEnt kd A j b bg = (true, A) := by
  unfold cEnt
  by_cases h6 : kd j = 6
  · obtain ⟨a, b1, c, d⟩ := hc.2 h6
    subst a
    rw [if_pos h6]
    simp only [Bool.false_eq_true, if_false]
    unfold cJoin
    rw [if_neg b1]
    have q := (hI.2.2.1 j (by omega)).1
    simp only [if_neg q, if_neg (show A.2.2 b ≠ 0 by omega)]
    simp only [c, d, and_self, decide_true]
  · rw [if_neg h6]
    have q := hc.1 h6
    simp only [if_neg (show A.1 j ≠ 0 by omega)]
    simp only [q, decide_true]
theorem cC1_ext {A B : A3} {j b : Nat} {bg : Bool} (h : Ext A B) (hc : cC1 kd A b j bg) : cC1 kd B b j bg :=
  ⟨fun q => by rw [h.1 j (by have := hc.1 q; omega)]; exact hc.1 q, fun q => by
    obtain ⟨a, b1, c, d⟩ := hc.2 q
    exact ⟨a, b1, by rw [h.2.1 j (by omega)]; exact c, by rw [h.2.2 b (by omega)]; exact d⟩⟩
def cC (kd nx ot : Nat → Nat) (A : A3) (i : Nat) : Prop := (kd i ≠ 9 → cC1 kd A (if kd i = 5 then 2 * i + 1 else A.1 i - 1) (nx i) (decide (kd i = 5))) ∧ (kd i = 5 ∨ kd i = 7 ∨ kd i = 8 → cC1 kd A (if kd i = 5 then 2 * i + 2 else A.1 i - 1) (ot i) (decide (kd i = 5)))
theorem Fk_of {A : A3} {i b : Nat} (hI : KI n kd A) (hi : i < n) (hA : A.1 i ≠ 0) (hb : b = 2 * i + 1 ∨ b = 2 * i + 2) : Fk n kd A (if kd i = 5 then b else A.1 i - 1) := by
  intro h
  by_cases h5 : kd i = 5
  · rw [if_pos h5, show (b - 1) / 2 = i by omega]; exact ⟨hi, h5, hA⟩
  · rw [if_neg h5] at h ⊢
    have := hI.2.2.2 i (by omega)
    rw [show (A.1 i - 1 - 1) / 2 = (A.1 i - 2) / 2 by omega]; exact this
theorem cSpr_ok : ∀ A i, i < n → KI n kd A → A.1 i ≠ 0 → (cSpr kd nx ot A i).1 = true → KI n kd (cSpr kd nx ot A i).2 ∧ Ext A (cSpr kd nx ot A i).2 ∧ cC kd nx ot (cSpr kd nx ot A i).2 i := by
  intro A i hi hI hA h
  unfold cSpr at h ⊢
  have s1 : ∃ r1 : Bool × A3, r1 = (if kd i = 9 then (true, A) else cEnt kd A (nx i) (if kd i = 5 then 2 * i + 1 else A.1 i - 1) (decide (kd i = 5))) ∧ (r1.1 = true → KI n kd r1.2 ∧ Ext A r1.2 ∧ (kd i ≠ 9 → cC1 kd r1.2 (if kd i = 5 then 2 * i + 1 else A.1 i - 1) (nx i) (decide (kd i = 5)))) := by
    refine ⟨_, rfl, ?_⟩
    by_cases h9 : kd i = 9
    · rw [if_pos h9]; exact fun _ => ⟨hI, Ext.rfl, fun w => absurd h9 w⟩
    · rw [if_neg h9]
      intro q
      obtain ⟨a, b, c⟩ := cEnt_ok hI (Fk_of hI hi hA (Or.inl rfl)) q
      exact ⟨a, b, fun _ => c⟩
  obtain ⟨r1, hr1, g1⟩ := s1
  rw [← hr1] at h ⊢
  simp only at h ⊢
  by_cases q : r1.1 = true
  · rw [if_pos q] at h ⊢
    obtain ⟨a, b, c⟩ := g1 q
    have ei : r1.2.1 i = A.1 i := b.1 i hA
    by_cases ho : kd i = 5 ∨ kd i = 7 ∨ kd i = 8
    · rw [if_pos ho] at h ⊢
      have fk := Fk_of (b := 2 * i + 2) a hi (by rw [ei]; exact hA) (Or.inr rfl)
      rw [ei] at fk
      obtain ⟨a2, b2, c2⟩ := cEnt_ok a fk h
      have ei2 := b2.1 i (by rw [ei]; exact hA)
      refine ⟨a2, b.tr b2, fun w => ?_, fun _ => ?_⟩
      · rw [ei2, ei]; exact cC1_ext b2 (c w)
      · rw [ei2, ei]; exact c2
    · rw [if_neg ho] at h ⊢
      refine ⟨a, b, fun w => ?_, fun w => absurd w ho⟩
      show cC1 kd r1.2 (if kd i = 5 then 2 * i + 1 else r1.2.1 i - 1) (nx i) (decide (kd i = 5))
      rw [ei]; exact c w
  · rw [if_neg q] at h; simp at h
theorem cSpr_stay : ∀ A i, i < n → KI n kd A → A.1 i ≠ 0 → cC kd nx ot A i → (cSpr kd nx ot A i).1 = true → (cSpr kd nx ot A i).2 = A := by
  intro A i hi hI hA hC _
  unfold cSpr
  by_cases h9 : kd i = 9
  · simp only [if_pos h9, if_true]
    by_cases ho : kd i = 5 ∨ kd i = 7 ∨ kd i = 8
    · omega
    · rw [if_neg ho]
  · simp only [if_neg h9, cEnt_stay hI (hC.1 h9), if_true]
    by_cases ho : kd i = 5 ∨ kd i = 7 ∨ kd i = 8
    · rw [if_pos ho, cEnt_stay hI (hC.2 ho)]
    · rw [if_neg ho]
theorem cC_ext : ∀ A B i, i < n → KI n kd A → KI n kd B → Ext A B → A.1 i ≠ 0 → cC kd nx ot A i → cC kd nx ot B i := by
  intro A B i _ _ _ h hA hC
  unfold cC
  rw [h.1 i hA]
  exact ⟨fun q => cC1_ext h (hC.1 q), fun q => cC1_ext h (hC.2 q)⟩
theorem KI_A0 : KI n kd A0 := by
  refine ⟨rfl, rfl, fun j hj => absurd rfl hj, fun i hi => ?_⟩
  have hi : 2 ≤ (if i = 0 then 1 else 0) := hi
  split at hi <;> omega
theorem cnt_A0 (hn : 0 < n) : 1 ≤ cnt A0.1 n := by
  cases n with
  | zero => omega
  | succ n =>
    clear hn
    induction n with
    | zero => decide
    | succ n ih => rw [cnt]; omega
def cEnds (kd : Nat → Nat) (A : A3) (i : Nat) : Prop := (kd i = 5 → A.2.2 (2 * i + 1) ≠ 0 ∧ A.2.2 (2 * i + 1) = A.2.2 (2 * i + 2)) ∧ (kd i = 6 → A.2.1 i ≠ 0) ∧ (kd i = 9 → A.1 i = 1)
def cGood (n : Nat) (kd nx ot : Nat → Nat) : Prop := (aRnds (cSpr kd nx ot) n n A0).1 = true ∧ ∀ i, i < n → cEnds kd (aRnds (cSpr kd nx ot) n n A0).2 i
theorem way_nx {i : Nat} (h : kd i ≠ 9) : Way kd nx ot i (nx i) := Or.inl ⟨h, rfl⟩
theorem c_ways {A : A3} (c : ∀ j, j < n → A.1 j ≠ 0 → cC kd nx ot A j) : ∀ i, i < n → A.1 i ≠ 0 → ∀ j, Way kd nx ot i j → cC1 kd A (if kd i = 5 then (if j = nx i ∧ kd i ≠ 9 then 2 * i + 1 else 2 * i + 2) else A.1 i - 1) j (decide (kd i = 5)) ∨ (kd i = 5 ∧ j = ot i) := by
  intro i hi hA j hw
  rcases hw with ⟨w1, w2⟩ | ⟨w1, w2⟩
  · left; subst w2
    have := (c i hi hA).1 w1
    rw [if_pos (show nx i = nx i ∧ kd i ≠ 9 from ⟨rfl, w1⟩)]; exact this
  · by_cases h5 : kd i = 5
    · right; exact ⟨h5, w2⟩
    · left; subst w2
      have := (c i hi hA).2 w1
      rw [if_neg h5] at this ⊢; exact this
theorem c_lab {A : A3} (a : KI n kd A) (c : ∀ j, j < n → A.1 j ≠ 0 → cC kd nx ot A j) (hr : Rnk n kd nx ot rk) : ∀ i, i < n → A.1 i ≠ 0 := by
  have h0 : A.1 0 = 1 := a.1
  have ways := c_ways c
  have lab : ∀ k i, i < n → rk i ≤ k → A.1 i ≠ 0 := by
    intro k
    induction k with
    | zero =>
      intro i hi hk
      by_cases q : i = 0
      · subst q; omega
      · obtain ⟨p, _, _, h⟩ := hr i hi q
        omega
    | succ k ih =>
      intro i hi hk
      by_cases q : i = 0
      · subst q; omega
      obtain ⟨p, hp, hw, hlt⟩ := hr i hi q
      have hA := ih p hp (by omega)
      have fin : ∀ b bg, cC1 kd A b i bg → A.1 i ≠ 0 := by
        intro b bg hc
        by_cases h6 : kd i = 6
        · have := hc.2 h6
          exact (a.2.2.1 i (by omega)).1
        · have := hc.1 h6; omega
      rcases ways p hp hA i hw with w | ⟨w1, w2⟩
      · exact fin _ _ w
      · have := (c p hp hA).2 (Or.inl w1)
        rw [← w2] at this
        exact fin _ _ this
  exact fun i hi => lab (rk i) i hi (Nat.le_refl _)
/-- good there: a labelling -/
theorem cGood_gl (hn : 0 < n) (hr : Rnk n kd nx ot rk) (h : cGood n kd nx ot) : ∃ A, A = (aRnds (cSpr kd nx ot) n n A0).2 ∧ (∀ i, i < n → A.1 i ≠ 0) ∧ (∀ i, i < n → kd i = 6 → A.2.1 i ≠ 0) ∧ GL n kd nx ot (fun i => A.1 i - 1) (fun b => A.2.2 b - 1) (fun j => A.2.1 j - 1) := by
  obtain ⟨h1, h2⟩ := h
  obtain ⟨a, b, c⟩ := aRnds_ok cSpr_ok cC_ext cSpr_stay n A0 1 KI_A0 (Or.inr (cnt_A0 hn)) (by omega) h1
  refine ⟨_, rfl, ?_⟩
  generalize (aRnds (cSpr kd nx ot) n n A0).2 = A at *
  have h0 : A.1 0 = 1 := a.1
  have ways := c_ways c
  have lab := c_lab a c hr
  have ent : ∀ i, i < n → kd i ≠ 5 → ∀ j, Way kd nx ot i j → Ent kd (fun i => A.1 i - 1) (fun b => A.2.2 b - 1) (fun j => A.2.1 j - 1) (A.1 i - 1) j := by
    intro i hi h5 j hw
    have w := (ways i hi (lab i hi) j hw).resolve_right (fun q => h5 q.1)
    rw [if_neg h5] at w
    refine ⟨fun q => ?_, fun q => ?_⟩
    · have := w.1 q
      show A.1 j - 1 = A.1 i - 1
      omega
    · obtain ⟨w1, w2, w3, w4⟩ := w.2 q
      have q2 := a.2.2.1 j (by omega)
      refine ⟨w2, by show A.2.2 (A.1 i - 1) - 1 = j; omega, by show A.2.1 j - 1 = _; omega, ?_⟩
      show A.1 j - 1 = A.1 ((A.1 i - 1 - 1) / 2) - 1
      rw [q2.2, w3, Nat.add_sub_cancel]
  refine ⟨lab, fun i hi h6 => (h2 i hi).2.1 h6, by show A.1 0 - 1 = 0; omega, fun h6 => ?_, fun i hi h9 => ?_, fun i hi h5 => ?_, ent, ?_⟩
  · exact (h2 0 hn).2.1 h6 a.2.1
  · have := (h2 i hi).2.2 h9
    show A.1 i - 1 = 0; omega
  · have c1 := (c i hi (lab i hi)).1 (by omega)
    have c2 := (c i hi (lab i hi)).2 (Or.inl h5)
    rw [if_pos h5] at c1 c2
    have d : decide (kd i = 5) = true := decide_eq_true h5
    rw [d] at c1 c2
    have q1 : kd (nx i) ≠ 6 := fun q => by have := (c1.2 q).1; simp at this
    have q2 : kd (ot i) ≠ 6 := fun q => by have := (c2.2 q).1; simp at this
    have := c1.1 q1
    have := c2.1 q2
    exact ⟨q1, q2, by show A.1 (nx i) - 1 = _; omega, by show A.1 (ot i) - 1 = _; omega⟩
  · intro i hi j hj hi6 hj6 e
    have e : A.2.1 i - 1 = A.2.1 j - 1 := e
    have i0 := (h2 i hi).2.1 hi6
    have j0 := (h2 j hj).2.1 hj6
    have z : ∀ x, x < n → kd x = 6 → ∃ b, A.2.2 b = x + 1 ∧ (b = 2 * (A.2.1 x - 1) + 1 ∨ b = 2 * (A.2.1 x - 1) + 2) ∧ A.2.1 x - 1 < n ∧ kd (A.2.1 x - 1) = 5 := by
      intro x hx hx6
      have hx0 : x ≠ 0 := fun q => by
        subst q
        exact (h2 0 hx).2.1 hx6 a.2.1
      obtain ⟨p, hp, hw, _⟩ := hr x hx hx0
      have hA := lab p hp
      by_cases h5 : kd p = 5
      · exfalso
        have d : decide (kd p = 5) = true := decide_eq_true h5
        rcases hw with ⟨w1, w2⟩ | ⟨w1, w2⟩
        · have := ((c p hp hA).1 w1).2 (w2 ▸ hx6)
          rw [d] at this; simp at this
        · have := ((c p hp hA).2 w1).2 (w2 ▸ hx6)
          rw [d] at this; simp at this
      · have w := (ways p hp hA x hw).resolve_right (fun q => h5 q.1)
        rw [if_neg h5] at w
        obtain ⟨w1, w2, w3, w4⟩ := w.2 hx6
        have q := a.2.2.2 p (by omega)
        refine ⟨A.1 p - 1, w4, by omega, ?_, ?_⟩
        · rw [show A.2.1 x - 1 = (A.1 p - 2) / 2 by omega]; exact q.1
        · rw [show A.2.1 x - 1 = (A.1 p - 2) / 2 by omega]; exact q.2.1
    obtain ⟨b1, u1, u2, u3, u4⟩ := z i hi hi6
    obtain ⟨b2, v1, v2, v3, v4⟩ := z j hj hj6
    have m := ((h2 _ u3).1 u4).2
    rw [← e] at v2
    rcases u2 with u2 | u2 <;> rcases v2 with v2 | v2 <;> (rw [u2] at u1; rw [v2] at v1; omega)
def HC (n : Nat) (kd be J Fj : Nat → Nat) (A : A3) : Prop := KI n kd A ∧ (∀ i, i < n → A.1 i = 0 ∨ A.1 i = be i + 1) ∧ (∀ j, A.2.1 j = 0 ∨ A.2.1 j = Fj j + 1) ∧ (∀ b, A.2.2 b = 0 ∨ A.2.2 b = J b + 1) ∧ ∀ j, j < n → kd j = 6 → A.1 j ≠ 0 → A.2.1 j ≠ 0
theorem cEnt_go {A : A3} {j b : Nat} {bg : Bool} (h : HC n kd be J Fj A) (hj : j < n) (hf : Fk n kd A b) (he : Ent kd be J Fj b j) (hbg : bg = true → kd j ≠ 6) : (cEnt kd A j b bg).1 = true ∧ HC n kd be J Fj (cEnt kd A j b bg).2 := by
  obtain ⟨hI, h1, h2, h3, h4⟩ := h
  have key : (cEnt kd A j b bg).1 = true ∧ (KI n kd (cEnt kd A j b bg).2 → HC n kd be J Fj (cEnt kd A j b bg).2) := by
    unfold cEnt
    by_cases h6 : kd j = 6
    · rw [if_pos h6]
      have e := he.2 h6
      have hb0 : bg = false := by
        cases bg with
        | true => exact absurd h6 (hbg rfl)
        | false => rfl
      subst hb0
      simp only [Bool.false_eq_true, if_false]
      unfold cJoin
      rw [if_neg e.1]
      obtain ⟨f1, f2, f3⟩ := hf e.1
      have ef : A.1 ((b - 1) / 2) = be j + 1 := by rw [e.2.2.2]; exact (h1 _ f1).resolve_left f3
      by_cases q : A.1 j = 0
      · have hfj : ((b - 1) / 2 + 1) = Fj j + 1 := by rw [e.2.2.1]
        by_cases q2 : A.2.2 b = 0
        · simp only [if_pos q, if_pos q2, up_eq, and_self, decide_true, true_and]
          intro hK
          refine ⟨hK, fun i hi => ?_, fun k => ?_, fun k => ?_, fun k hk hk6 hk1 => ?_⟩
          · by_cases w : i = j
            · subst w; right; show up A.1 i _ i = _; rw [up_eq, ef]
            · show up A.1 j _ i = 0 ∨ up A.1 j _ i = _; rw [up_ne w]; exact h1 i hi
          · by_cases w : k = j
            · subst w; right; show up A.2.1 k _ k = _; rw [up_eq, hfj]
            · show up A.2.1 j _ k = 0 ∨ up A.2.1 j _ k = _; rw [up_ne w]; exact h2 k
          · by_cases w : k = b
            · subst w; right; show up A.2.2 k _ k = _; rw [up_eq, e.2.1]
            · show up A.2.2 b _ k = 0 ∨ up A.2.2 b _ k = _; rw [up_ne w]; exact h3 k
          · by_cases w : k = j
            · subst w; show up A.2.1 k _ k ≠ 0; rw [up_eq]; omega
            · show up A.2.1 j _ k ≠ 0; rw [up_ne w]
              have hk1 : up A.1 j (A.1 ((b - 1) / 2)) k ≠ 0 := hk1
              rw [up_ne w] at hk1
              exact h4 k hk hk6 hk1
        · have q3 := (h3 b).resolve_left q2
          rw [e.2.1] at q3
          simp only [if_pos q, if_neg q2]
          simp only [up_eq, q3, and_self, decide_true, true_and]
          intro hK
          refine ⟨hK, fun i hi => ?_, fun k => ?_, h3, fun k hk hk6 hk1 => ?_⟩
          · by_cases w : i = j
            · subst w; right; show up A.1 i _ i = _; rw [up_eq, ef]
            · show up A.1 j _ i = 0 ∨ up A.1 j _ i = _; rw [up_ne w]; exact h1 i hi
          · by_cases w : k = j
            · subst w; right; show up A.2.1 k _ k = _; rw [up_eq, hfj]
            · show up A.2.1 j _ k = 0 ∨ up A.2.1 j _ k = _; rw [up_ne w]; exact h2 k
          · by_cases w : k = j
            · subst w; show up A.2.1 k _ k ≠ 0; rw [up_eq]; omega
            · show up A.2.1 j _ k ≠ 0; rw [up_ne w]
              have hk1 : up A.1 j (A.1 ((b - 1) / 2)) k ≠ 0 := hk1
              rw [up_ne w] at hk1
              exact h4 k hk hk6 hk1
      · have q4 : A.2.1 j = (b - 1) / 2 + 1 := by
          have := (h2 j).resolve_left (h4 j hj h6 q)
          rw [this, e.2.2.1]
        by_cases q2 : A.2.2 b = 0
        · simp only [if_neg q, if_pos q2, up_eq, q4, and_self, decide_true, true_and]
          intro hK
          refine ⟨hK, h1, h2, fun k => ?_, h4⟩
          by_cases w : k = b
          · subst w; right; show up A.2.2 k _ k = _; rw [up_eq, e.2.1]
          · show up A.2.2 b _ k = 0 ∨ up A.2.2 b _ k = _; rw [up_ne w]; exact h3 k
        · have q3 := (h3 b).resolve_left q2
          rw [e.2.1] at q3
          simp only [if_neg q, if_neg q2]
          simp only [q4, q3, and_self, decide_true, true_and]
          exact fun _ => ⟨hI, h1, h2, h3, h4⟩
    · rw [if_neg h6]
      have e := he.1 h6
      by_cases q : A.1 j = 0
      · simp only [if_pos q, up_eq, decide_true, true_and]
        intro hK
        refine ⟨hK, fun i hi => ?_, h2, h3, fun k hk hk6 hk1 => ?_⟩
        · by_cases w : i = j
          · subst w; right; show up A.1 i _ i = _; rw [up_eq, e]
          · show up A.1 j _ i = 0 ∨ up A.1 j _ i = _; rw [up_ne w]; exact h1 i hi
        · by_cases w : k = j
          · subst w; exact absurd hk6 h6
          · have hk1 : up A.1 j (b + 1) k ≠ 0 := hk1
            rw [up_ne w] at hk1
            exact h4 k hk hk6 hk1
      · have q3 := (h1 j hj).resolve_left q
        rw [e] at q3
        simp only [if_neg q]
        simp only [q3, decide_true, true_and]
        exact fun _ => ⟨hI, h1, h2, h3, h4⟩
  exact ⟨key.1, key.2 (cEnt_ok hI hf key.1).1⟩
theorem cSpr_go (hs : Snd n kd nx ot) (hg : GL n kd nx ot be J Fj) : ∀ A i, i < n → HC n kd be J Fj A → A.1 i ≠ 0 → (cSpr kd nx ot A i).1 = true ∧ HC n kd be J Fj (cSpr kd nx ot A i).2 := by
  intro A i hi h hA
  have ei : A.1 i - 1 = be i := by have := (h.2.1 i hi).resolve_left hA; omega
  have ed : ∀ j v, Way kd nx ot i j → (kd i = 5 → j = nx i ∧ v = 2 * i + 1 ∨ j = ot i ∧ v = 2 * i + 2) → Ent kd be J Fj (if kd i = 5 then v else A.1 i - 1) j ∧ (decide (kd i = 5) = true → kd j ≠ 6) ∧ j < n := by
    intro j v hw hv
    have hjn : j < n := by
      rcases hw with ⟨w1, w2⟩ | ⟨w1, w2⟩
      · rw [w2]; exact ((hs i hi).1 w1).2
      · rw [w2]
        by_cases w3 : kd i = 8
        · have := (hs i hi).2.2 w3; omega
        · exact ((hs i hi).2.1 (by omega)).2
    by_cases h5 : kd i = 5
    · obtain ⟨q1, q2, q3, q4⟩ := hg.2.2.2.1 i hi h5
      rw [if_pos h5]
      rcases hv h5 with ⟨w1, w2⟩ | ⟨w1, w2⟩
      · subst w1; subst w2
        exact ⟨⟨fun _ => q3, fun w => absurd w q1⟩, fun _ => q1, hjn⟩
      · subst w1; subst w2
        exact ⟨⟨fun _ => q4, fun w => absurd w q2⟩, fun _ => q2, hjn⟩
    · rw [if_neg h5, ei]
      exact ⟨hg.2.2.2.2.1 i hi h5 j hw, fun w => absurd (of_decide_eq_true w) h5, hjn⟩
  unfold cSpr
  have s1 : ∃ r1 : Bool × A3, r1 = (if kd i = 9 then (true, A) else cEnt kd A (nx i) (if kd i = 5 then 2 * i + 1 else A.1 i - 1) (decide (kd i = 5))) ∧ r1.1 = true ∧ HC n kd be J Fj r1.2 ∧ Ext A r1.2 := by
    refine ⟨_, rfl, ?_⟩
    by_cases h9 : kd i = 9
    · rw [if_pos h9]; exact ⟨rfl, h, Ext.rfl⟩
    · rw [if_neg h9]
      obtain ⟨e1, e2, e3⟩ := ed (nx i) (2 * i + 1) (Or.inl ⟨h9, rfl⟩) (fun _ => Or.inl ⟨rfl, rfl⟩)
      have fk := Fk_of (b := 2 * i + 1) h.1 hi hA (Or.inl rfl)
      obtain ⟨a, b⟩ := cEnt_go h e3 fk e1 e2
      exact ⟨a, b, (cEnt_ok h.1 fk a).2.1⟩
  obtain ⟨r1, hr1, g1, g2, g3⟩ := s1
  rw [← hr1]
  simp only [g1, if_true]
  by_cases ho : kd i = 5 ∨ kd i = 7 ∨ kd i = 8
  · rw [if_pos ho]
    obtain ⟨e1, e2, e3⟩ := ed (ot i) (2 * i + 2) (Or.inr ⟨ho, rfl⟩) (fun _ => Or.inr ⟨rfl, rfl⟩)
    have ei := g3.1 i hA
    have fk := Fk_of (b := 2 * i + 2) g2.1 hi (by rw [ei]; exact hA) (Or.inr rfl)
    rw [ei] at fk
    exact cEnt_go g2 e3 fk e1 e2
  · rw [if_neg ho]; exact ⟨rfl, g2⟩
theorem gl_cGood (hn : 0 < n) (hs : Snd n kd nx ot) (hr : Rnk n kd nx ot rk) (hg : GL n kd nx ot be J Fj) : cGood n kd nx ot := by
  have h0 : HC n kd be J Fj A0 := by
    refine ⟨KI_A0, fun i hi => ?_, fun _ => Or.inl rfl, fun _ => Or.inl rfl, fun j hj h6 hq => ?_⟩
    · by_cases e : i = 0
      · subst e; right; rw [hg.1]; rfl
      · left; exact if_neg e
    · by_cases e : j = 0
      · subst e; exact absurd h6 hg.2.1
      · exact absurd (if_neg e) hq
  obtain ⟨h1, h2⟩ := aRnds_go (cSpr_go hs hg) n A0 h0
  obtain ⟨a, b, c⟩ := aRnds_ok cSpr_ok cC_ext cSpr_stay n A0 1 KI_A0 (Or.inr (cnt_A0 hn)) (by omega) h1
  refine ⟨h1, fun i hi => ?_⟩
  generalize (aRnds (cSpr kd nx ot) n n A0).2 = A at *
  have lab := c_lab a c hr
  have eb : ∀ i, i < n → A.1 i = be i + 1 := fun i hi => (h2.2.1 i hi).resolve_left (lab i hi)
  refine ⟨fun h5 => ?_, fun h6 => h2.2.2.2.2 i hi h6 (lab i hi), fun h9 => by rw [eb i hi, hg.2.2.1 i hi h9]⟩
  obtain ⟨e1, e2, a1, a2, a3, a4, a5, a6, a7, a8, a9, b1, b2, b3, _⟩ := fork_meet hs hg hi h5
  have c1 := (c e1 a1 (lab e1 a1)).1 a6
  have c2 := (c e2 a2 (lab e2 a2)).1 a8
  rw [if_neg a5, eb e1 a1, a3] at c1
  rw [if_neg a7, eb e2 a2, a4] at c2
  have d1 := (c1.2 b1).2.2.2
  have d2 := (c2.2 (by rw [a9]; exact b1)).2.2.2
  rw [Nat.add_sub_cancel] at d1 d2
  rw [d1, d2, a9]
  exact ⟨by omega, rfl⟩
end CG
