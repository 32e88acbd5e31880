/-! the two ways to look for branches. 0: none; b + 1: b. -/
def up (x : Nat → Nat) (j v : Nat) : Nat → Nat := fun k => if k = j then v else x k
abbrev A3 : Type := (Nat → Nat) × (Nat → Nat) × (Nat → Nat)
def cJoin (A : A3) (j b : Nat) : Bool × A3 :=
  if b = 0 then (false, A) else
  let A1 : A3 := if A.1 j = 0 then (up A.1 j (A.1 ((b - 1) / 2)), up A.2.1 j ((b - 1) / 2 + 1), A.2.2) else A
  let A2 : A3 := if A1.2.2 b = 0 then (A1.1, A1.2.1, up A1.2.2 b (j + 1)) else A1
  (decide (A2.2.1 j = (b - 1) / 2 + 1 ∧ A2.2.2 b = j + 1), A2)
def cEnt (kd : Nat → Nat) (A : A3) (j b : Nat) (bg : Bool) : Bool × A3 :=
  if kd j = 6 then (if bg then (false, A) else cJoin A j b) else
  let A1 : A3 := if A.1 j = 0 then (up A.1 j (b + 1), A.2.1, A.2.2) else A
  (decide (A1.1 j = b + 1), A1)
def cSpr (kd nx ot : Nat → Nat) (A : A3) (i : Nat) : Bool × A3 :=
  let r1 := if kd i = 9 then (true, A) else cEnt kd A (nx i) (if kd i = 5 then 2 * i + 1 else A.1 i - 1) (decide (kd i = 5))
  if r1.1 = true then (if kd i = 5 ∨ kd i = 7 ∨ kd i = 8 then cEnt kd r1.2 (ot i) (if kd i = 5 then 2 * i + 2 else A.1 i - 1) (decide (kd i = 5)) else (true, r1.2)) else (false, r1.2)
def mEnt (kd : Nat → Nat) (A : A3) (j b : Nat) : Bool × A3 :=
  if kd j = 6 then
    (if b = 0 ∨ A.2.1 j = b + 1 ∨ A.2.2 j = b + 1 then (decide (b ≠ 0), A)
    else if A.2.1 j = 0 then (true, (A.1, up A.2.1 j (b + 1), A.2.2))
    else (decide (A.2.2 j = 0 ∧ (A.2.1 j - 2) / 2 = (b - 1) / 2), (up A.1 j (A.1 ((b - 1) / 2)), A.2.1, up A.2.2 j (b + 1))))
  else (decide (A.1 j = 0 ∨ A.1 j = b + 1), (up A.1 j (b + 1), A.2.1, A.2.2))
def mLead (kd nx ot : Nat → Nat) (A : A3) (i : Nat) : Bool × A3 :=
  if kd i = 9 then (decide (A.1 i = 1), A)
  else if kd i = 5 then
    (if kd (nx i) = 6 ∨ kd (ot i) = 6 then (false, A) else
    let r1 := mEnt kd A (nx i) (2 * i + 1)
    if r1.1 = true then mEnt kd r1.2 (ot i) (2 * i + 2) else (false, r1.2))
  else
    let r1 := mEnt kd A (nx i) (A.1 i - 1)
    if r1.1 = true then (if kd i = 7 ∨ kd i = 8 then mEnt kd r1.2 (ot i) (r1.2.1 i - 1) else (true, r1.2)) else (false, r1.2)
def aRow (g : A3 → Nat → Bool × A3) : Nat → Nat → A3 → Bool × A3
  | 0, _, A => (true, A)
  | k + 1, i, A => if A.1 i = 0 then aRow g k (i + 1) A else (if (g A i).1 = true then aRow g k (i + 1) (g A i).2 else (false, (g A i).2))
def aRnds (g : A3 → Nat → Bool × A3) (n : Nat) : Nat → A3 → Bool × A3
  | 0, A => (true, A)
  | k + 1, A => if (aRow g n 0 A).1 = true then aRnds g n k (aRow g n 0 A).2 else (false, (aRow g n 0 A).2)
def A0 : A3 := (up (fun _ => 0) 0 1, fun _ => 0, fun _ => 0)
/-- what is set stays -/
def Ext (A B : A3) : Prop := (∀ k, A.1 k ≠ 0 → B.1 k = A.1 k) ∧ (∀ k, A.2.1 k ≠ 0 → B.2.1 k = A.2.1 k) ∧ ∀ k, A.2.2 k ≠ 0 → B.2.2 k = A.2.2 k
theorem Ext.rfl {A : A3} : Ext A A := ⟨fun _ _ => Eq.refl _, fun _ _ => Eq.refl _, fun _ _ => Eq.refl _⟩
theorem Ext.tr {A B C : A3} (h : Ext A B) (g : Ext B C) : Ext A C :=
  ⟨fun k q => by rw [g.1 k (by rw [h.1 k q]; exact q), h.1 k q], fun k q => by rw [g.2.1 k (by rw [h.2.1 k q]; exact q), h.2.1 k q], fun k q => by rw [g.2.2 k (by rw [h.2.2 k q]; exact q), h.2.2 k q]⟩
theorem up_eq {x : Nat → Nat} {j v : Nat} : up x j v j = v := if_pos (Eq.refl _)
theorem up_ne {x : Nat → Nat} {j v k : Nat} (h : k ≠ j) : up x j v k = x k := if_neg h
theorem up_same {x : Nat → Nat} {j v : Nat} (h : x j = v) : up x j v = x := by
  funext k
  unfold up
  split
  · next q => rw [q, h]
  · exact Eq.refl _
def cnt (x : Nat → Nat) : Nat → Nat
  | 0 => 0
  | n + 1 => cnt x n + if x n = 0 then 0 else 1
theorem cnt_le (x : Nat → Nat) : ∀ n, cnt x n ≤ n
  | 0 => Nat.le_refl _
  | n + 1 => by
    have := cnt_le x n
    rw [cnt]; split <;> omega
theorem cnt_mono {x y : Nat → Nat} (h : ∀ k, x k ≠ 0 → y k ≠ 0) : ∀ n, cnt x n ≤ cnt y n ∧ (cnt x n = cnt y n → ∀ k, k < n → y k ≠ 0 → x k ≠ 0)
  | 0 => ⟨Nat.le_refl _, fun _ k hk => by omega⟩
  | n + 1 => by
    have ih := cnt_mono h n
    rw [cnt, cnt]
    by_cases q : x n = 0
    · rw [if_pos q]
      by_cases q2 : y n = 0
      · rw [if_pos q2]
        refine ⟨ih.1, fun e k hk hy => ?_⟩
        by_cases e2 : k = n
        · subst e2; exact absurd q2 hy
        · exact ih.2 (by omega) k (by omega) hy
      · rw [if_neg q2]
        exact ⟨by omega, fun e => by omega⟩
    · rw [if_neg q, if_neg (h n q)]
      refine ⟨by omega, fun e k hk hy => ?_⟩
      by_cases e2 : k = n
      · subst e2; exact q
      · exact ih.2 (by omega) k (by omega) hy
section GEN
/-! rounds: I holds all along, C (what i asks) is kept, a round that asks nothing new changes nothing -/
variable {g : A3 → Nat → Bool × A3} {I : A3 → Prop} {C : A3 → Nat → Prop} {n : Nat}
theorem aRow_ok (h1 : ∀ A i, i < n → I A → A.1 i ≠ 0 → (g A i).1 = true → I (g A i).2 ∧ Ext A (g A i).2 ∧ C (g A i).2 i) (h2 : ∀ A B i, i < n → I A → I B → Ext A B → A.1 i ≠ 0 → C A i → C B i) :
    ∀ k i A, i + k = n → I A → (aRow g k i A).1 = true → I (aRow g k i A).2 ∧ Ext A (aRow g k i A).2 ∧ ∀ j, i ≤ j → j < n → A.1 j ≠ 0 → C (aRow g k i A).2 j := by
  intro k
  induction k with
  | zero => intro i A hi hI _; exact ⟨hI, Ext.rfl, fun j _ _ => by omega⟩
  | succ k ih =>
    intro i A hi hI hg
    rw [aRow] at hg ⊢
    by_cases q : A.1 i = 0
    · rw [if_pos q] at hg ⊢
      obtain ⟨a, b, c⟩ := ih (i + 1) A (by omega) hI hg
      refine ⟨a, b, fun j hj hjn hA => ?_⟩
      by_cases e : j = i
      · subst e; exact absurd q hA
      · exact c j (by omega) hjn hA
    · rw [if_neg q] at hg ⊢
      by_cases q2 : (g A i).1 = true
      · rw [if_pos q2] at hg ⊢
        obtain ⟨u1, u2, u3⟩ := h1 A i (by omega) hI q q2
        obtain ⟨a, b, c⟩ := ih (i + 1) (g A i).2 (by omega) u1 hg
        refine ⟨a, u2.tr b, fun j hj hjn hA => ?_⟩
        by_cases e : j = i
        · subst e
          exact h2 _ _ _ hjn u1 a b (by rw [u2.1 j q]; exact q) u3
        · exact c j (by omega) hjn (by rw [u2.1 j hA]; exact hA)
      · rw [if_neg q2] at hg
        exact absurd hg (by simp)
theorem aRow_stay (h3 : ∀ A i, i < n → I A → A.1 i ≠ 0 → C A i → (g A i).1 = true → (g A i).2 = A) : ∀ k i A, i + k = n → I A → (∀ j, j < n → A.1 j ≠ 0 → C A j) → (aRow g k i A).1 = true → (aRow g k i A).2 = A := by
  intro k
  induction k with
  | zero => intro i A _ _ _ _; exact Eq.refl _
  | succ k ih =>
    intro i A hi hI hC hg
    rw [aRow] at hg ⊢
    by_cases q : A.1 i = 0
    · rw [if_pos q] at hg ⊢
      exact ih (i + 1) A (by omega) hI hC hg
    · rw [if_neg q] at hg ⊢
      by_cases q2 : (g A i).1 = true
      · rw [if_pos q2] at hg ⊢
        have e := h3 A i (by omega) hI q (hC i (by omega) q) q2
        rw [e] at hg ⊢
        exact ih (i + 1) A (by omega) hI hC hg
      · rw [if_neg q2] at hg
        exact absurd hg (by simp)
theorem aRnds_ok (h1 : ∀ A i, i < n → I A → A.1 i ≠ 0 → (g A i).1 = true → I (g A i).2 ∧ Ext A (g A i).2 ∧ C (g A i).2 i) (h2 : ∀ A B i, i < n → I A → I B → Ext A B → A.1 i ≠ 0 → C A i → C B i) (h3 : ∀ A i, i < n → I A → A.1 i ≠ 0 → C A i → (g A i).1 = true → (g A i).2 = A) :
    ∀ k A c, I A → ((∀ j, j < n → A.1 j ≠ 0 → C A j) ∨ c ≤ cnt A.1 n) → n < c + k → (aRnds g n k A).1 = true → I (aRnds g n k A).2 ∧ Ext A (aRnds g n k A).2 ∧ ∀ j, j < n → (aRnds g n k A).2.1 j ≠ 0 → C (aRnds g n k A).2 j := by
  intro k
  induction k with
  | zero =>
    intro A c hI hC hk _
    have := cnt_le A.1 n
    exact ⟨hI, Ext.rfl, hC.resolve_right (by omega)⟩
  | succ k ih =>
    intro A c hI hC hk hg
    rw [aRnds] at hg ⊢
    by_cases q : (aRow g n 0 A).1 = true
    · rw [if_pos q] at hg ⊢
      obtain ⟨a1, a2, a3⟩ := aRow_ok h1 h2 n 0 A (by omega) hI q
      have hm := cnt_mono (x := A.1) (y := (aRow g n 0 A).2.1) (fun k hk => by rw [a2.1 k hk]; exact hk) n
      have r := ih (aRow g n 0 A).2 (c + 1) a1 (by
        by_cases e : cnt A.1 n = cnt (aRow g n 0 A).2.1 n
        · exact Or.inl (fun j hj hq => a3 j (Nat.zero_le _) hj (hm.2 e j hj hq))
        · rcases hC with hC | hC
          · have e2 := aRow_stay h3 n 0 A (by omega) hI hC q
            exact absurd (by rw [e2]) e
          · exact Or.inr (by omega)) (by omega) hg
      exact ⟨r.1, a2.tr r.2.1, r.2.2⟩
    · rw [if_neg q] at hg
      exact absurd hg (by simp)
/-- a run that can't fail -/
theorem aRow_go {H : A3 → Prop} (h : ∀ A i, i < n → H A → A.1 i ≠ 0 → (g A i).1 = true ∧ H (g A i).2) : ∀ k i A, i + k = n → H A → (aRow g k i A).1 = true ∧ H (aRow g k i A).2 := by
  intro k
  induction k with
  | zero => intro i A _ hH; exact ⟨Eq.refl _, hH⟩
  | succ k ih =>
    intro i A hi hH
    rw [aRow]
    by_cases q : A.1 i = 0
    · rw [if_pos q]; exact ih (i + 1) A (by omega) hH
    · rw [if_neg q]
      obtain ⟨a, b⟩ := h A i (by omega) hH q
      rw [if_pos a]; exact ih (i + 1) _ (by omega) b
theorem aRnds_go {H : A3 → Prop} (h : ∀ A i, i < n → H A → A.1 i ≠ 0 → (g A i).1 = true ∧ H (g A i).2) : ∀ k A, H A → (aRnds g n k A).1 = true ∧ H (aRnds g n k A).2 := by
  intro k
  induction k with
  | zero => intro A hH; exact ⟨Eq.refl _, hH⟩
  | succ k ih =>
    intro A hH
    rw [aRnds]
    obtain ⟨a, b⟩ := aRow_go h n 0 A (by omega) hH
    rw [if_pos a]; exact ih _ b
end GEN
