/-! names known before choices: the two ways -/
section NM
variable {n : Nat} {kd nx ot ka kb be J Fj on : Nat → Nat}
abbrev X2 : Type := (Nat → Nat) × (Nat → Nat)
abbrev Y4 : Type := (Nat → Nat) × (Nat → Nat) × (Nat → Nat) × (Nat → Nat)
def cSp (kd be : Nat → Nat) (X : X2) (i t w : Nat) : X2 := if kd t = 6 then (X.1, up X.2 (be i) (X.2 (be i) &&& w)) else (up X.1 t (X.1 t &&& w), X.2)
def mBr (kd be on : Nat → Nat) (Y : Y4) (i t w : Nat) : Y4 :=
  if kd t = 6 then (if be i = on t then (up Y.1 t 1, Y.2.1, up Y.2.2.1 t (Y.2.2.1 t &&& w), Y.2.2.2) else (up Y.1 t 1, Y.2.1, Y.2.2.1, up Y.2.2.2 t (Y.2.2.2 t &&& w)))
  else (up Y.1 t 1, up Y.2.1 t (Y.2.1 t &&& w), Y.2.2.1, Y.2.2.2)
def cJo (kd Fj : Nat → Nat) (X : X2) (i : Nat) : X2 := if kd i = 6 then (up X.1 i (X.2 (2 * Fj i + 1) ||| X.2 (2 * Fj i + 2)), X.2) else X
def mJo (kd : Nat → Nat) (Y : Y4) (i : Nat) : Y4 := if kd i = 6 then (Y.1, up Y.2.1 i (Y.2.2.1 i ||| Y.2.2.2 i), Y.2.2.1, Y.2.2.2) else Y
def wN (kd kb : Nat → Nat) (i v : Nat) : Nat := if kd i = 4 then v ||| 1 <<< kb i else v
def cNx (kd nx ot be : Nat → Nat) (X : X2) (i w : Nat) : X2 := 
  let X1 := if kd i = 9 then X else cSp kd be X i (nx i) w
  if kd i = 5 ∨ kd i = 7 then cSp kd be X1 i (ot i) w else X1
def mNx (kd nx ot be on : Nat → Nat) (Y : Y4) (i w : Nat) : Y4 :=
  let Y1 := if Y.1 i ≠ 0 ∧ kd i ≠ 9 then mBr kd be on Y i (nx i) w else Y
  if Y1.1 i ≠ 0 ∧ (kd i = 5 ∨ kd i = 7) then mBr kd be on Y1 i (ot i) w else Y1
/-- the class's names are the reference's -/
def NR (n : Nat) (kd Fj on : Nat → Nat) (X : X2) (Y : Y4) : Prop := X.1 = Y.2.1 ∧ (∀ k, X.1 k < 16) ∧ (∀ b, X.2 b < 16) ∧
  (∀ t, t < n → kd t = 6 → (on t = 2 * Fj t + 1 ∨ on t = 2 * Fj t + 2) ∧ Y.2.2.1 t = X.2 (on t) ∧ Y.2.2.2 t = X.2 (4 * Fj t + 3 - on t)) ∧
  ∀ k, k < n → Y.1 k = 0 → (kd k ≠ 6 → X.1 k = 15) ∧ (kd k = 6 → Y.2.2.1 k = 15 ∧ Y.2.2.2 k = 15)
theorem l15 : ∀ x, x < 16 → x &&& 15 = x := by decide
theorem l16 : ∀ x, x < 16 → ∀ y, y < 16 → x &&& y < 16 ∧ x ||| y < 16 := by decide
theorem l4 : ∀ b, b < 4 → 1 <<< b < 16 ∧ 15 ||| 1 <<< b = 15 ∧ (15 >>> b) % 2 = 1 := by decide
theorem wN_lt {i v : Nat} (hb : kd i = 4 → kb i < 4) (hv : v < 16) : wN kd kb i v < 16 ∧ (v = 15 → wN kd kb i v = 15) := by
  unfold wN
  by_cases q : kd i = 4
  · rw [if_pos q]
    have := l4 _ (hb q)
    exact ⟨(l16 v hv _ this.1).2, fun e => by rw [e]; exact this.2.1⟩
  · rw [if_neg q]; exact ⟨hv, id⟩
/-- a step brings its names on -/
theorem nr_sp {X : X2} {Y : Y4} {i t w : Nat} (h : NR n kd Fj on X Y) (ht : t < n) (hw : w < 16) (h6 : kd t = 6 → Fj t = (be i - 1) / 2 ∧ be i ≠ 0) (inj : ∀ i, i < n → ∀ j, j < n → kd i = 6 → kd j = 6 → Fj i = Fj j → i = j) : NR n kd Fj on (cSp kd be X i t w) (mBr kd be on Y i t w) := by
  obtain ⟨h1, h2, h3, h4, h5⟩ := h
  unfold cSp mBr
  by_cases q : kd t = 6
  · rw [if_pos q, if_pos q]
    obtain ⟨g1, g2⟩ := h6 q
    have lt : ∀ b, up X.2 (be i) (X.2 (be i) &&& w) b < 16 := by
      intro b
      unfold up
      split
      · exact (l16 _ (h3 _) _ hw).1
      · exact h3 b
    have oth : ∀ k, k < n → kd k = 6 → k ≠ t → ∀ b, (b = 2 * Fj k + 1 ∨ b = 2 * Fj k + 2) → up X.2 (be i) (X.2 (be i) &&& w) b = X.2 b := by
      intro k hk hk6 hkt b hb
      refine up_ne (fun e => hkt (inj k hk t ht hk6 q ?_))
      omega
    obtain ⟨o1, o2, o3⟩ := h4 t ht q
    by_cases qo : be i = on t
    · rw [if_pos qo]
      refine ⟨h1, h2, lt, fun k hk hk6 => ?_, fun k hk hk0 => ?_⟩
      · obtain ⟨p1, p2, p3⟩ := h4 k hk hk6
        by_cases e : k = t
        · subst e
          refine ⟨p1, ?_, ?_⟩
          · show up Y.2.2.1 k _ k = up X.2 _ _ (on k)
            rw [up_eq, qo, up_eq, p2]
          · show Y.2.2.2 k = up X.2 _ _ _
            rw [up_ne (by omega)]; exact p3
        · refine ⟨p1, ?_, ?_⟩
          · show up Y.2.2.1 t _ k = up X.2 _ _ (on k)
            rw [up_ne e, oth k hk hk6 e _ p1]; exact p2
          · show Y.2.2.2 k = up X.2 _ _ _
            rw [oth k hk hk6 e _ (by omega)]; exact p3
      · have hk0 : up Y.1 t 1 k = 0 := hk0
        by_cases e : k = t
        · subst e; rw [up_eq] at hk0; omega
        · rw [up_ne e] at hk0
          have := h5 k hk hk0
          refine ⟨this.1, fun w6 => ?_⟩
          show up Y.2.2.1 t _ k = 15 ∧ Y.2.2.2 k = 15
          rw [up_ne e]; exact this.2 w6
    · rw [if_neg qo]
      have qb : be i = 4 * Fj t + 3 - on t := by omega
      refine ⟨h1, h2, lt, fun k hk hk6 => ?_, fun k hk hk0 => ?_⟩
      · obtain ⟨p1, p2, p3⟩ := h4 k hk hk6
        by_cases e : k = t
        · subst e
          refine ⟨p1, ?_, ?_⟩
          · show Y.2.2.1 k = up X.2 _ _ (on k)
            rw [up_ne (fun z => qo z.symm)]; exact p2
          · show up Y.2.2.2 k _ k = up X.2 _ _ _
            rw [up_eq, ← qb, up_eq, p3, qb]
        · refine ⟨p1, ?_, ?_⟩
          · show Y.2.2.1 k = up X.2 _ _ (on k)
            rw [oth k hk hk6 e _ p1]; exact p2
          · show up Y.2.2.2 t _ k = up X.2 _ _ _
            rw [up_ne e, oth k hk hk6 e _ (by omega)]; exact p3
      · have hk0 : up Y.1 t 1 k = 0 := hk0
        by_cases e : k = t
        · subst e; rw [up_eq] at hk0; omega
        · rw [up_ne e] at hk0
          have := h5 k hk hk0
          refine ⟨this.1, fun w6 => ?_⟩
          show Y.2.2.1 k = 15 ∧ up Y.2.2.2 t _ k = 15
          rw [up_ne e]; exact this.2 w6
  · rw [if_neg q, if_neg q]
    refine ⟨by show up X.1 t _ = up Y.2.1 t _; rw [h1], fun k => ?_, h3, h4, fun k hk hk0 => ?_⟩
    · show up X.1 t _ k < 16
      unfold up
      split
      · exact (l16 _ (h2 _) _ hw).1
      · exact h2 k
    · have hk0 : up Y.1 t 1 k = 0 := hk0
      by_cases e : k = t
      · subst e; rw [up_eq] at hk0; omega
      · rw [up_ne e] at hk0
        have := h5 k hk hk0
        refine ⟨fun w6 => ?_, this.2⟩
        show up X.1 t _ k = 15
        rw [up_ne e]; exact this.1 w6
/-- 15 brings nothing -/
theorem cSp_15 {X : X2} {i t : Nat} (h2 : ∀ k, X.1 k < 16) (h3 : ∀ b, X.2 b < 16) : cSp kd be X i t 15 = X := by
  unfold cSp
  split
  · rw [l15 _ (h3 _), up_same rfl]
  · rw [l15 _ (h2 _), up_same rfl]
theorem nr_jo {X : X2} {Y : Y4} {i : Nat} (h : NR n kd Fj on X Y) (hi : i < n) : NR n kd Fj on (cJo kd Fj X i) (mJo kd Y i) ∧ (Y.1 i = 0 → (cJo kd Fj X i).1 i = 15) ∧ (mJo kd Y i).1 = Y.1 := by
  obtain ⟨h1, h2, h3, h4, h5⟩ := h
  unfold cJo mJo
  by_cases q : kd i = 6
  · rw [if_pos q, if_pos q]
    obtain ⟨o1, o2, o3⟩ := h4 i hi q
    have e : X.2 (2 * Fj i + 1) ||| X.2 (2 * Fj i + 2) = Y.2.2.1 i ||| Y.2.2.2 i := by
      rw [o2, o3]
      rcases o1 with o | o <;> rw [o]
      · rw [show 4 * Fj i + 3 - (2 * Fj i + 1) = 2 * Fj i + 2 by omega]
      · rw [show 4 * Fj i + 3 - (2 * Fj i + 2) = 2 * Fj i + 1 by omega, Nat.or_comm]
    refine ⟨⟨by show up X.1 i _ = up Y.2.1 i _; rw [h1, e], fun k => ?_, h3, h4, fun k hk hk0 => ?_⟩, fun h0 => ?_, rfl⟩
    · show up X.1 i _ k < 16
      unfold up
      split
      · exact (l16 _ (h3 _) _ (h3 _)).2
      · exact h2 k
    · have := h5 k hk hk0
      refine ⟨fun w6 => ?_, this.2⟩
      show up X.1 i _ k = 15
      rw [up_ne (fun z => w6 (by rw [z]; exact q))]; exact this.1 w6
    · show up X.1 i _ i = 15
      have := (h5 i hi h0).2 q
      rw [up_eq, e, this.1, this.2]; rfl
  · rw [if_neg q, if_neg q]
    exact ⟨⟨h1, h2, h3, h4, h5⟩, fun h0 => (h5 i hi h0).1 q, rfl⟩
/-- one step's turn -/
theorem nr_step {X : X2} {Y : Y4} {i : Nat} (h : NR n kd Fj on X Y) (hs : Snd n kd nx ot) (hg : GL n kd nx ot be J Fj) (hi : i < n) (hb : kd i = 4 → kb i < 4) :
    NR n kd Fj on (cNx kd nx ot be (cJo kd Fj X i) i (wN kd kb i ((cJo kd Fj X i).1 i))) (mNx kd nx ot be on (mJo kd Y i) i (wN kd kb i ((mJo kd Y i).2.1 i))) ∧ (cJo kd Fj X i).1 i = (mJo kd Y i).2.1 i ∧ (Y.1 i = 0 → (cJo kd Fj X i).1 i = 15) := by
  obtain ⟨a, b, c⟩ := nr_jo h hi
  have e1 : (cJo kd Fj X i).1 i = (mJo kd Y i).2.1 i := by rw [a.1]
  refine ⟨?_, e1, b⟩
  rw [← e1]
  have w16 := wN_lt (i := i) hb (a.2.1 i)
  have b15 : Y.1 i = 0 → wN kd kb i ((cJo kd Fj X i).1 i) = 15 := fun q => w16.2 (b q)
  have c' : (mJo kd Y i).1 i = Y.1 i := by rw [c]
  generalize hw : wN kd kb i ((cJo kd Fj X i).1 i) = w at *
  generalize cJo kd Fj X i = X1 at *
  generalize mJo kd Y i = Y1 at *
  have w16 := w16.1
  have inj := hg.2.2.2.2.2
  by_cases q0 : Y1.1 i = 0
  · have w15 := b15 (by rw [← c']; exact q0)
    subst w15
    unfold cNx mNx
    have z1 : ∀ t, cSp kd be X1 i t 15 = X1 := fun t => cSp_15 a.2.1 a.2.2.1
    simp only [z1, ite_self, q0, ne_eq, not_true_eq_false, false_and, if_false]
    exact a
  · have ed : ∀ t, Way kd nx ot i t → (kd i ≠ 8 ∨ t = nx i) → t < n ∧ t ≠ i ∧ (kd t = 6 → Fj t = (be i - 1) / 2 ∧ be i ≠ 0) := by
      intro t hw h8
      have ht : t < n ∧ t ≠ i := by
        rcases hw with ⟨w1, w2⟩ | ⟨w1, w2⟩
        · have := (hs i hi).1 w1; omega
        · by_cases w3 : kd i = 8
          · have h8 := h8.resolve_left (fun z => z w3)
            have := (hs i hi).1 (by omega)
            omega
          · have := (hs i hi).2.1 (by omega); omega
      refine ⟨ht.1, ht.2, fun h6 => ?_⟩
      by_cases h5 : kd i = 5
      · obtain ⟨q1, q2, _⟩ := hg.2.2.2.1 i hi h5
        rcases hw with ⟨w1, w2⟩ | ⟨w1, w2⟩
        · rw [w2] at h6; exact absurd h6 q1
        · rw [w2] at h6; exact absurd h6 q2
      · have e := (hg.2.2.2.2.1 i hi h5 t hw).2 h6
        exact ⟨e.2.2.1, e.1⟩
    unfold cNx mNx
    have s1 : ∃ X2' Y2, X2' = (if kd i = 9 then X1 else cSp kd be X1 i (nx i) w) ∧ Y2 = (if Y1.1 i ≠ 0 ∧ kd i ≠ 9 then mBr kd be on Y1 i (nx i) w else Y1) ∧ NR n kd Fj on X2' Y2 ∧ Y2.1 i ≠ 0 := by
      refine ⟨_, _, rfl, rfl, ?_⟩
      by_cases h9 : kd i = 9
      · rw [if_pos h9, if_neg (fun z => z.2 h9)]; exact ⟨a, q0⟩
      · rw [if_neg h9, if_pos ⟨q0, h9⟩]
        obtain ⟨e1, e2, e3⟩ := ed (nx i) (Or.inl ⟨h9, rfl⟩) (Or.inr rfl)
        refine ⟨nr_sp a e1 w16 e3 inj, ?_⟩
        have e4 : (mBr kd be on Y1 i (nx i) w).1 = up Y1.1 (nx i) 1 := by
          unfold mBr
          split
          · split <;> rfl
          · rfl
        rw [e4, up_ne (fun z => e2 z.symm)]; exact q0
    obtain ⟨X2', Y2, hX, hY, g1, g2⟩ := s1
    rw [← hX, ← hY]
    simp only
    by_cases ho : kd i = 5 ∨ kd i = 7
    · rw [if_pos ho, if_pos ⟨g2, ho⟩]
      obtain ⟨e1, e2, e3⟩ := ed (ot i) (Or.inr ⟨by omega, rfl⟩) (Or.inl (by omega))
      exact nr_sp g1 e1 w16 e3 inj
    · rw [if_neg ho, if_neg (fun z => ho z.2)]
      exact g1
/-- the whole way: class stops at the first that fails, the reference keeps it -/
def cNames (n : Nat) (kd nx ot ka kb be Fj : Nat → Nat) : Nat → Nat → X2 → Bool
  | 0, _, _ => true
  | k + 1, i, X => if kd i = 7 ∧ ((cJo kd Fj X i).1 i >>> ka i) % 2 = 0 then false else cNames n kd nx ot ka kb be Fj k (i + 1) (cNx kd nx ot be (cJo kd Fj X i) i (wN kd kb i ((cJo kd Fj X i).1 i)))
def mNames (n : Nat) (kd nx ot ka kb be on : Nat → Nat) : Nat → Nat → Bool → Y4 → Bool
  | 0, _, g, _ => g
  | k + 1, i, g, Y => mNames n kd nx ot ka kb be on k (i + 1) (g && (decide (kd i ≠ 7) || decide (Y.1 i = 0) || decide (((mJo kd Y i).2.1 i >>> ka i) % 2 = 1))) (mNx kd nx ot be on (mJo kd Y i) i (wN kd kb i ((mJo kd Y i).2.1 i)))
theorem mNames_f : ∀ k i Y, mNames n kd nx ot ka kb be on k i false Y = false := by
  intro k
  induction k with
  | zero => intro i Y; rfl
  | succ k ih => intro i Y; rw [mNames, Bool.false_and]; exact ih _ _
theorem names_eq (hs : Snd n kd nx ot) (hg : GL n kd nx ot be J Fj) (hb : ∀ i, i < n → kd i = 4 → kb i < 4) (ha : ∀ i, i < n → kd i = 7 → ka i < 4) : ∀ k i X Y, i + k = n → NR n kd Fj on X Y → cNames n kd nx ot ka kb be Fj k i X = mNames n kd nx ot ka kb be on k i true Y := by
  intro k
  induction k with
  | zero => intro i X Y _ _; rfl
  | succ k ih =>
    intro i X Y hi h
    obtain ⟨a, b, c⟩ := nr_step (kb := kb) h hs hg (show i < n by omega) (hb i (by omega))
    rw [cNames, mNames]
    by_cases q : kd i = 7 ∧ ((cJo kd Fj X i).1 i >>> ka i) % 2 = 0
    · rw [if_pos q]
      have q0 : Y.1 i ≠ 0 := by
        intro q0
        have e := c q0
        have := (l4 _ (ha i (by omega) q.1)).2.2
        rw [e] at q; omega
      have e : (true && (decide (kd i ≠ 7) || decide (Y.1 i = 0) || decide (((mJo kd Y i).2.1 i >>> ka i) % 2 = 1))) = false := by
        rw [← b, q.2]
        simp [q.1, q0]
      rw [e, mNames_f]
    · rw [if_neg q]
      have e : (true && (decide (kd i ≠ 7) || decide (Y.1 i = 0) || decide (((mJo kd Y i).2.1 i >>> ka i) % 2 = 1))) = true := by
        rw [← b]
        by_cases q7 : kd i = 7
        · have : ((cJo kd Fj X i).1 i >>> ka i) % 2 = 1 := by
            have := fun z => q ⟨q7, z⟩
            omega
          simp [this]
        · simp [q7]
      rw [e]
      exact ih (i + 1) _ _ (by omega) a
end NM
/-! what is reached -/
section RCH
variable {n : Nat} {kd nx ot : Nat → Nat}
def rS (kd nx ot : Nat → Nat) (x : Nat → Nat) (i : Nat) : Nat → Nat :=
  let x1 := if x i ≠ 0 ∧ kd i ≠ 9 then up x (nx i) 1 else x
  if x1 i ≠ 0 ∧ (kd i = 5 ∨ kd i = 7 ∨ kd i = 8) then up x1 (ot i) 1 else x1
def RkI (n : Nat) (kd nx ot x : Nat → Nat) : Prop := ∃ rk : Nat → Nat, ∀ i, x i ≠ 0 → i ≠ 0 → ∃ p, p < n ∧ x p ≠ 0 ∧ Way kd nx ot p i ∧ rk p < rk i
theorem rk_set {x : Nat → Nat} {p t : Nat} (h : RkI n kd nx ot x) (hp : p < n) (hx : x p ≠ 0) (hw : Way kd nx ot p t) : RkI n kd nx ot (up x t 1) := by
  obtain ⟨rk, h⟩ := h
  have nz : ∀ k, x k ≠ 0 → up x t 1 k ≠ 0 := by
    intro k hk
    unfold up
    split
    · omega
    · exact hk
  by_cases q : x t = 0
  · refine ⟨up rk t (rk p + 1), fun i hi h0 => ?_⟩
    have hpt : p ≠ t := fun e => hx (by rw [e]; exact q)
    by_cases e : i = t
    · subst e
      exact ⟨p, hp, nz p hx, hw, by rw [up_eq, up_ne hpt]; omega⟩
    · rw [up_ne e] at hi
      obtain ⟨p2, a, b, c, d⟩ := h i hi h0
      exact ⟨p2, a, nz p2 b, c, by rw [up_ne e, up_ne (fun e2 => b (by rw [e2]; exact q))]; exact d⟩
  · refine ⟨rk, fun i hi h0 => ?_⟩
    have hi2 : x i ≠ 0 := by
      by_cases e : i = t
      · rw [e]; exact q
      · rw [up_ne e] at hi; exact hi
    obtain ⟨p2, a, b, c, d⟩ := h i hi2 h0
    exact ⟨p2, a, nz p2 b, c, d⟩
theorem rS_ok {x : Nat → Nat} {i : Nat} (h : RkI n kd nx ot x) (hi : i < n) : RkI n kd nx ot (rS kd nx ot x i) := by
  unfold rS
  have s1 : ∃ x1, x1 = (if x i ≠ 0 ∧ kd i ≠ 9 then up x (nx i) 1 else x) ∧ RkI n kd nx ot x1 := by
    refine ⟨_, rfl, ?_⟩
    split
    · next q => exact rk_set h hi q.1 (Or.inl ⟨q.2, rfl⟩)
    · exact h
  obtain ⟨x1, hx, g⟩ := s1
  rw [← hx]
  simp only
  split
  · next q => exact rk_set g hi q.1 (Or.inr ⟨q.2, rfl⟩)
  · exact g
theorem rk_rnk {x : Nat → Nat} (h : RkI n kd nx ot x) (hx : ∀ i, i < n → x i ≠ 0) : ∃ rk, Rnk n kd nx ot rk := by
  obtain ⟨rk, h⟩ := h
  exact ⟨rk, fun i hi h0 => by
    obtain ⟨p, a, _, c, d⟩ := h i (hx i hi) h0
    exact ⟨p, a, c, d⟩⟩
end RCH
