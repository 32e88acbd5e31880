/-! branches: a labelling, ascent, depth, weights -/
def Snd (n : Nat) (kd nx ot : Nat → Nat) : Prop := ∀ i, i < n → (kd i ≠ 9 → i < nx i ∧ nx i < n) ∧ (kd i = 5 ∨ kd i = 7 → i < ot i ∧ ot i < n) ∧ (kd i = 8 → ot i < i)
/-- a way from i to j -/
def Way (kd nx ot : Nat → Nat) (i j : Nat) : Prop := (kd i ≠ 9 ∧ j = nx i) ∨ ((kd i = 5 ∨ kd i = 7 ∨ kd i = 8) ∧ j = ot i)
def Rnk (n : Nat) (kd nx ot rk : Nat → Nat) : Prop := ∀ i, i < n → i ≠ 0 → ∃ p, p < n ∧ Way kd nx ot p i ∧ rk p < rk i
/-- branch b leads into j -/
def Ent (kd be J Fj : Nat → Nat) (b j : Nat) : Prop := (kd j ≠ 6 → be j = b) ∧ (kd j = 6 → b ≠ 0 ∧ J b = j ∧ Fj j = (b - 1) / 2 ∧ be j = be ((b - 1) / 2))
def GL (n : Nat) (kd nx ot be J Fj : Nat → Nat) : Prop := be 0 = 0 ∧ kd 0 ≠ 6 ∧ (∀ i, i < n → kd i = 9 → be i = 0) ∧ (∀ i, i < n → kd i = 5 → kd (nx i) ≠ 6 ∧ kd (ot i) ≠ 6 ∧ be (nx i) = 2 * i + 1 ∧ be (ot i) = 2 * i + 2) ∧
  (∀ i, i < n → kd i ≠ 5 → ∀ j, Way kd nx ot i j → Ent kd be J Fj (be i) j) ∧ ∀ i, i < n → ∀ j, j < n → kd i = 6 → kd j = 6 → Fj i = Fj j → i = j
theorem exmax {Q : Nat → Prop} : ∀ n, (∃ y, y < n ∧ Q y) → ∃ y, y < n ∧ Q y ∧ ∀ z, z < n → Q z → z ≤ y := by
  intro n
  induction n with
  | zero => rintro ⟨y, hy, _⟩; omega
  | succ n ih =>
    rintro ⟨y, hy, hq⟩
    by_cases q : Q n
    · exact ⟨n, by omega, q, fun z hz _ => by omega⟩
    · obtain ⟨w, hw, hwq, hm⟩ := ih ⟨y, by
        have : y ≠ n := fun e => q (e ▸ hq)
        omega, hq⟩
      refine ⟨w, by omega, hwq, fun z hz hzq => hm z ?_ hzq⟩
      have : z ≠ n := fun e => q (e ▸ hzq)
      omega
section LAB
variable {n : Nat} {kd nx ot be J Fj rk : Nat → Nat} {L : Nat → Prop}
/-- what the reference's rounds leave: closed -/
def Cls (n : Nat) (kd nx ot be : Nat → Nat) (L : Nat → Prop) : Prop := (∀ i, i < n → L i → ∀ j, Way kd nx ot i j → kd j ≠ 6 → L j) ∧
  (∀ i1, i1 < n → L i1 → kd i1 ≠ 5 → ∀ i2, i2 < n → L i2 → kd i2 ≠ 5 → ∀ f, be i1 = 2 * f + 1 → be i2 = 2 * f + 2 → ∀ j, Way kd nx ot i1 j → Way kd nx ot i2 j → kd j = 6 → L j)
theorem asc (hs : Snd n kd nx ot) (hg : GL n kd nx ot be J Fj) (hc : Cls n kd nx ot be L) : ∀ k x, x < n → n - x ≤ k → L x → be x ≠ 0 → (∀ y, y < n → L y ∧ be y = be x → y ≤ x) → kd x ≠ 5 ∧ kd (nx x) = 6 := by
  obtain ⟨g1, g2, g3, g4, g5, g6⟩ := hg
  intro k
  induction k with
  | zero => intro x hx hk; omega
  | succ k ih =>
    intro x hx hk hL hb hm
    have h9 : kd x ≠ 9 := fun q => hb (g3 x hx q)
    have hn := (hs x hx).1 h9
    have h5 : kd x ≠ 5 := by
      intro h5
      obtain ⟨q1, q2, q3, q4⟩ := g4 x hx h5
      have ho := (hs x hx).2.1 (Or.inl h5)
      obtain ⟨y1, hy1, hq1, hm1⟩ := exmax (Q := fun y => L y ∧ be y = 2 * x + 1) n ⟨nx x, hn.2, hc.1 x hx hL _ (Or.inl ⟨h9, rfl⟩) q1, q3⟩
      obtain ⟨y2, hy2, hq2, hm2⟩ := exmax (Q := fun y => L y ∧ be y = 2 * x + 2) n ⟨ot x, ho.2, hc.1 x hx hL _ (Or.inr ⟨Or.inl h5, rfl⟩) q2, q4⟩
      have l1 := hm1 (nx x) hn.2 ⟨hc.1 x hx hL _ (Or.inl ⟨h9, rfl⟩) q1, q3⟩
      have l2 := hm2 (ot x) ho.2 ⟨hc.1 x hx hL _ (Or.inr ⟨Or.inl h5, rfl⟩) q2, q4⟩
      have r1 := ih y1 hy1 (by omega) hq1.1 (by omega) (fun y hy q => hm1 y hy ⟨q.1, by rw [q.2]; exact hq1.2⟩)
      have r2 := ih y2 hy2 (by omega) hq2.1 (by omega) (fun y hy q => hm2 y hy ⟨q.1, by rw [q.2]; exact hq2.2⟩)
      have n1 : kd y1 ≠ 9 := fun q => by have := g3 y1 hy1 q; omega
      have n2 : kd y2 ≠ 9 := fun q => by have := g3 y2 hy2 q; omega
      have w1 : Way kd nx ot y1 (nx y1) := Or.inl ⟨n1, rfl⟩
      have w2 : Way kd nx ot y2 (nx y2) := Or.inl ⟨n2, rfl⟩
      have e1 := (g5 y1 hy1 r1.1 _ w1).2 r1.2
      have e2 := (g5 y2 hy2 r2.1 _ w2).2 r2.2
      rw [hq1.2] at e1
      rw [hq2.2] at e2
      have e3 : nx y2 = nx y1 := g6 _ ((hs y2 hy2).1 n2).2 _ ((hs y1 hy1).1 n1).2 r2.2 r1.2 (by rw [e1.2.2.1, e2.2.2.1]; omega)
      have hj : L (nx y1) := hc.2 y1 hy1 hq1.1 r1.1 y2 hy2 hq2.1 r2.1 x hq1.2 hq2.2 _ w1 (e3 ▸ w2) r1.2
      have hj1 := (hs y1 hy1).1 n1
      have e4 := e1.2.2.2
      rw [show (2 * x + 1 - 1) / 2 = x by omega] at e4
      have := hm (nx y1) hj1.2 ⟨hj, e4⟩
      omega
    refine ⟨h5, ?_⟩
    by_cases q : kd (nx x) = 6
    · exact q
    · have w : Way kd nx ot x (nx x) := Or.inl ⟨h9, rfl⟩
      have e := (g5 x hx h5 _ w).1 q
      have := hm (nx x) hn.2 ⟨hc.1 x hx hL _ w q, e⟩
      omega
/-- a branch of a FORK in L goes to its JOIN -/
theorem asc_end (hs : Snd n kd nx ot) (hg : GL n kd nx ot be J Fj) (hc : Cls n kd nx ot be L) {b y : Nat} (hy : y < n) (hL : L y) (hb : be y = b) (h0 : b ≠ 0) : ∃ e, e < n ∧ L e ∧ y ≤ e ∧ be e = b ∧ kd e ≠ 5 ∧ kd e ≠ 9 ∧ kd (nx e) = 6 ∧ nx e < n ∧ e < nx e ∧ J b = nx e ∧ Fj (nx e) = (b - 1) / 2 ∧ be (nx e) = be ((b - 1) / 2) := by
  obtain ⟨e, he, hq, hm⟩ := exmax (Q := fun y => L y ∧ be y = b) n ⟨y, hy, hL, hb⟩
  have r := asc hs hg hc n e he (by omega) hq.1 (by rw [hq.2]; exact h0) (fun z hz q => hm z hz ⟨q.1, by rw [q.2]; exact hq.2⟩)
  have n1 : kd e ≠ 9 := fun q => h0 (by rw [← hq.2]; exact hg.2.2.1 e he q)
  have w1 : Way kd nx ot e (nx e) := Or.inl ⟨n1, rfl⟩
  have e1 := (hg.2.2.2.2.1 e he r.1 _ w1).2 r.2
  rw [hq.2] at e1
  have hn := (hs e he).1 n1
  exact ⟨e, he, hq.1, hm y hy ⟨hL, hb⟩, hq.2, r.1, n1, r.2, hn.2, hn.1, e1.2.1, e1.2.2.1, e1.2.2.2⟩
/-- closed and with 0: all that is reached -/
theorem cls_all (hs : Snd n kd nx ot) (hg : GL n kd nx ot be J Fj) (hc : Cls n kd nx ot be L) (hr : Rnk n kd nx ot rk) (h0 : L 0) (hf : ∀ i, i < n → L i → be i ≠ 0 → (be i - 1) / 2 < n ∧ L ((be i - 1) / 2) ∧ kd ((be i - 1) / 2) = 5) : ∀ i, i < n → L i := by
  have key : ∀ k i, i < n → rk i ≤ k → L i := by
    intro k
    induction k with
    | zero =>
      intro i hi hk
      by_cases q : i = 0
      · rw [q]; exact h0
      · obtain ⟨p, _, _, h⟩ := hr i hi q
        omega
    | succ k ih =>
      intro i hi hk
      by_cases q : i = 0
      · rw [q]; exact h0
      obtain ⟨p, hp, hw, hlt⟩ := hr i hi q
      have hLp := ih p hp (by omega)
      by_cases h6 : kd i = 6
      · have h5 : kd p ≠ 5 := by
          intro h5
          obtain ⟨q1, q2, _⟩ := hg.2.2.2.1 p hp h5
          rcases hw with ⟨_, e⟩ | ⟨_, e⟩
          · rw [e] at h6; exact q1 h6
          · rw [e] at h6; exact q2 h6
        have e := (hg.2.2.2.2.1 p hp h5 i hw).2 h6
        obtain ⟨hfn, hfL, hf5⟩ := hf p hp hLp e.1
        generalize hfd : (be p - 1) / 2 = f at *
        obtain ⟨q1, q2, q3, q4⟩ := hg.2.2.2.1 f hfn hf5
        have hnf := (hs f hfn).1 (by omega)
        have hof := (hs f hfn).2.1 (Or.inl hf5)
        obtain ⟨e1, a1, a2, _, a3, a4, a5, a6, a7, _, a8, a9, _⟩ := asc_end hs hg hc hnf.2 (hc.1 f hfn hfL _ (Or.inl ⟨by omega, rfl⟩) q1) q3 (by omega)
        obtain ⟨e2, c1, c2, _, c3, c4, c5, c6, c7, _, c8, c9, _⟩ := asc_end hs hg hc hof.2 (hc.1 f hfn hfL _ (Or.inr ⟨Or.inl hf5, rfl⟩) q2) q4 (by omega)
        have e3 : nx e2 = nx e1 := hg.2.2.2.2.2 _ c7 _ a7 c6 a6 (by rw [a9, c9]; omega)
        have hj := hc.2 e1 a1 a2 a4 e2 c1 c2 c4 f a3 c3 (nx e1) (Or.inl ⟨a5, rfl⟩) (e3 ▸ Or.inl ⟨c5, rfl⟩) a6
        have e4 : i = nx e1 := by
          have : be p = 2 * f + 1 ∨ be p = 2 * f + 2 := by omega
          rcases this with w | w
          · rw [← a8, ← e.2.1, w]
          · rw [← e3, ← c8, ← e.2.1, w]
        rw [e4]; exact hj
      · exact hc.1 p hp hLp i hw h6
  exact fun i hi => key (rk i) i hi (Nat.le_refl _)
theorem cls_true : Cls n kd nx ot be (fun _ => True) := ⟨fun _ _ _ _ _ _ => trivial, fun _ _ _ _ _ _ _ _ _ _ _ _ _ _ _ => trivial⟩
/-- the FORK of a branch was there before -/
theorem fork_rk (hg : GL n kd nx ot be J Fj) (hr : Rnk n kd nx ot rk) : ∀ i, i < n → be i ≠ 0 → (be i - 1) / 2 < n ∧ kd ((be i - 1) / 2) = 5 ∧ rk ((be i - 1) / 2) < rk i := by
  have key : ∀ k i, i < n → rk i ≤ k → be i ≠ 0 → (be i - 1) / 2 < n ∧ kd ((be i - 1) / 2) = 5 ∧ rk ((be i - 1) / 2) < rk i := by
    intro k
    induction k with
    | zero =>
      intro i hi hk hb
      have q : i ≠ 0 := fun q => hb (by rw [q]; exact hg.1)
      obtain ⟨p, _, _, h⟩ := hr i hi q
      omega
    | succ k ih =>
      intro i hi hk hb
      have q : i ≠ 0 := fun q => hb (by rw [q]; exact hg.1)
      obtain ⟨p, hp, hw, hlt⟩ := hr i hi q
      by_cases h5 : kd p = 5
      · obtain ⟨q1, q2, q3, q4⟩ := hg.2.2.2.1 p hp h5
        have : be i = 2 * p + 1 ∨ be i = 2 * p + 2 := by
          rcases hw with ⟨_, e⟩ | ⟨_, e⟩
          · rw [e]; exact Or.inl q3
          · rw [e]; exact Or.inr q4
        have e : (be i - 1) / 2 = p := by omega
        rw [e]; exact ⟨hp, h5, hlt⟩
      · have e := hg.2.2.2.2.1 p hp h5 i hw
        by_cases h6 : kd i = 6
        · have e := e.2 h6
          have h1 := ih p hp (by omega) e.1
          have h2 := ih ((be p - 1) / 2) h1.1 (by omega) (by rw [← e.2.2.2]; exact hb)
          rw [← e.2.2.2] at h2
          exact ⟨h2.1, h2.2.1, by omega⟩
        · have e := e.1 h6
          have h1 := ih p hp (by omega) (by rw [← e]; exact hb)
          rw [← e] at h1
          exact ⟨h1.1, h1.2.1, by omega⟩
  exact fun i hi => key (rk i) i hi (Nat.le_refl _)
theorem nd13 {f1 f2 f3 f b : Nat} (d1 : f1 ≠ f2) (d2 : f1 ≠ f3) (d3 : f1 ≠ f) (d4 : f2 ≠ f3) (d5 : f2 ≠ f) (d6 : f3 ≠ f) (l1 : f1 < 12) (l2 : f2 < 12) (l3 : f3 < 12) (l4 : f < 12) (hb : b < 100)
    (z1 : b ≠ 2 * f1 + 1) (z2 : b ≠ 2 * f1 + 2) (z3 : b ≠ 2 * f2 + 1) (z4 : b ≠ 2 * f2 + 2) (z5 : b ≠ 2 * f3 + 1) (z6 : b ≠ 2 * f3 + 2) (z7 : b ≠ 2 * f + 1) (z8 : b ≠ 2 * f + 2) :
    [2 * f1 + 1, 2 * f1 + 2, 2 * f2 + 1, 2 * f2 + 2, 2 * f3 + 1, 2 * f3 + 2, 2 * f + 1, 2 * f + 2, 100 + f1, 100 + f2, 100 + f3, 100 + f, b].Nodup := by
  simp only [List.nodup_cons, List.mem_cons, List.not_mem_nil, or_false, not_or, List.nodup_nil, and_true, not_false_eq_true]
  refine ⟨⟨?_, ?_, ?_, ?_, ?_, ?_, ?_, ?_, ?_, ?_, ?_, ?_⟩, ⟨?_, ?_, ?_, ?_, ?_, ?_, ?_, ?_, ?_, ?_, ?_⟩, ⟨?_, ?_, ?_, ?_, ?_, ?_, ?_, ?_, ?_, ?_⟩, ⟨?_, ?_, ?_, ?_, ?_, ?_, ?_, ?_, ?_⟩, ⟨?_, ?_, ?_, ?_, ?_, ?_, ?_, ?_⟩, ⟨?_, ?_, ?_, ?_, ?_, ?_, ?_⟩, ⟨?_, ?_, ?_, ?_, ?_, ?_⟩, ⟨?_, ?_, ?_, ?_, ?_⟩, ⟨?_, ?_, ?_, ?_⟩, ⟨?_, ?_, ?_⟩, ⟨?_, ?_⟩, ?_⟩
  all_goals (first | (intro e; exact absurd (show f1 = f2 by omega) d1) | (intro e; exact absurd (show f1 = f3 by omega) d2) | (intro e; exact absurd (show f1 = f by omega) d3) | (intro e; exact absurd (show f2 = f3 by omega) d4) | (intro e; exact absurd (show f2 = f by omega) d5) | (intro e; exact absurd (show f3 = f by omega) d6) | omega)
def pa (be : Nat → Nat) (b : Nat) : Nat := be ((b - 1) / 2)
/-- no more than three FORKs one in the other -/
theorem fork_deep (hn : n ≤ 12) (hs : Snd n kd nx ot) (hg : GL n kd nx ot be J Fj) (hr : Rnk n kd nx ot rk) {f : Nat} (hf : f < n) (h5 : kd f = 5) : be f = 0 ∨ pa be (be f) = 0 ∨ pa be (pa be (be f)) = 0 := by
  by_cases b3 : be f = 0
  · exact Or.inl b3
  by_cases b2 : pa be (be f) = 0
  · exact Or.inr (Or.inl b2)
  by_cases b1 : pa be (pa be (be f)) = 0
  · exact Or.inr (Or.inr b1)
  exfalso
  unfold pa at b2 b1
  have r3 := fork_rk hg hr f hf b3
  generalize h3 : (be f - 1) / 2 = f3 at *
  have r2 := fork_rk hg hr f3 r3.1 b2
  generalize h2 : (be f3 - 1) / 2 = f2 at *
  have r1 := fork_rk hg hr f2 r2.1 b1
  generalize h1 : (be f2 - 1) / 2 = f1 at *
  have r0 : be f1 ≠ 0 → rk ((be f1 - 1) / 2) < rk f1 := fun q => (fork_rk hg hr f1 r1.1 q).2.2
  have fk : ∀ g, g < n → kd g = 5 → nx g < n ∧ ot g < n ∧ J (2 * g + 1) < n ∧ kd (nx g) ≠ 6 ∧ kd (ot g) ≠ 6 ∧ kd (J (2 * g + 1)) = 6 ∧ be (nx g) = 2 * g + 1 ∧ be (ot g) = 2 * g + 2 ∧ Fj (J (2 * g + 1)) = g := by
    intro g hg2 hg5
    obtain ⟨q1, q2, q3, q4⟩ := hg.2.2.2.1 g hg2 hg5
    have hnf := (hs g hg2).1 (by omega)
    have hof := (hs g hg2).2.1 (Or.inl hg5)
    obtain ⟨e1, a1, a2, _, a3, a4, a5, a6, a7, _, a8, a9, _⟩ := asc_end (L := fun _ => True) hs hg cls_true hnf.2 trivial q3 (by omega)
    rw [a8]
    exact ⟨hnf.2, hof.2, a7, q1, q2, a6, q3, q4, by rw [a9]; omega⟩
  have k4 := fk f hf h5
  have k3 := fk f3 r3.1 r3.2.1
  have k2 := fk f2 r2.1 r2.2.1
  have k1 := fk f1 r1.1 r1.2.1
  have d : f1 ≠ f2 ∧ f1 ≠ f3 ∧ f1 ≠ f ∧ f2 ≠ f3 ∧ f2 ≠ f ∧ f3 ≠ f := by
    refine ⟨?_, ?_, ?_, ?_, ?_, ?_⟩ <;> (intro e; subst e; omega)
  have z : ∀ g, rk f1 ≤ rk g → be f1 ≠ 2 * g + 1 ∧ be f1 ≠ 2 * g + 2 := by
    intro g hg
    clear k1 k2 k3 k4 fk d
    refine ⟨fun e => ?_, fun e => ?_⟩
    · have h := r0 (by omega)
      rw [show (be f1 - 1) / 2 = g by omega] at h
      omega
    · have h := r0 (by omega)
      rw [show (be f1 - 1) / 2 = g by omega] at h
      omega
  have u1 := z f1 (Nat.le_refl _)
  have u2 := z f2 (Nat.le_of_lt r1.2.2)
  have u3 := z f3 (Nat.le_of_lt (Nat.lt_trans r1.2.2 r2.2.2))
  have u4 := z f (Nat.le_of_lt (Nat.lt_trans (Nat.lt_trans r1.2.2 r2.2.2) r3.2.2))
  have hlen := php n [nx f1, ot f1, nx f2, ot f2, nx f3, ot f3, nx f, ot f, J (2 * f1 + 1), J (2 * f2 + 1), J (2 * f3 + 1), J (2 * f + 1), f1] (by
    have hp : ([nx f1, ot f1, nx f2, ot f2, nx f3, ot f3, nx f, ot f, J (2 * f1 + 1), J (2 * f2 + 1), J (2 * f3 + 1), J (2 * f + 1), f1].map (fun y => if kd y = 6 then 100 + Fj y else be y)).Nodup := by
      have hk1 : kd f1 ≠ 6 := by rw [r1.2.1]; decide
      simp only [List.map_cons, List.map_nil, k1, k2, k3, k4, hk1, if_true, if_false]
      have hb1 : be f1 < 100 := by
        by_cases q : be f1 = 0
        · rw [q]; decide
        · have := (fork_rk hg hr f1 r1.1 q).1
          clear k1 k2 k3 k4 fk d u1 u2 u3 u4 z r0
          omega
      obtain ⟨d1, d2, d3, d4, d5, d6⟩ := d
      exact nd13 d1 d2 d3 d4 d5 d6 (Nat.lt_of_lt_of_le r1.1 hn) (Nat.lt_of_lt_of_le r2.1 hn) (Nat.lt_of_lt_of_le r3.1 hn) (Nat.lt_of_lt_of_le hf hn) hb1 u1.1 u1.2 u2.1 u2.2 u3.1 u3.2 u4.1 u4.2
    rw [List.nodup_iff_pairwise_ne] at hp ⊢
    rw [List.pairwise_map] at hp
    exact hp.imp (fun h e => h (by rw [e]))) (by
    intro x hx
    simp only [List.mem_cons, List.not_mem_nil, or_false] at hx
    rcases hx with e | e | e | e | e | e | e | e | e | e | e | e | e <;> rw [e]
    · exact k1.1
    · exact k1.2.1
    · exact k2.1
    · exact k2.2.1
    · exact k3.1
    · exact k3.2.1
    · exact k4.1
    · exact k4.2.1
    · exact k1.2.2.1
    · exact k2.2.2.1
    · exact k3.2.2.1
    · exact k4.2.2.1
    · exact r1.1)
  clear k1 k2 k3 k4 fk d u1 u2 u3 u4 z r0
  simp only [List.length_cons, List.length_nil] at hlen
  omega
/-- how deep a branch lies -/
def dpt (be : Nat → Nat) (b : Nat) : Nat := if b = 0 then 0 else if pa be b = 0 then 1 else if pa be (pa be b) = 0 then 2 else 3
def wW (kd be : Nat → Nat) (i : Nat) : Nat := 2 ^ (3 - dpt be (be i) - if kd i = 6 then 1 else 0)
/-- weights: what a token weighs where it stands -/
def WG (n : Nat) (kd nx ot W : Nat → Nat) : Prop := (∀ i, i < n → 1 ≤ W i ∧ W i ≤ 8) ∧ ∀ i, i < n → (kd i ≠ 5 → kd i ≠ 6 → ∀ j, Way kd nx ot i j → W j ≤ W i) ∧ (kd i = 6 → W (nx i) ≤ 2 * W i) ∧ (kd i = 5 → W (nx i) + W (ot i) ≤ W i)
theorem dpt_fork (hn : n ≤ 12) (hs : Snd n kd nx ot) (hg : GL n kd nx ot be J Fj) (hr : Rnk n kd nx ot rk) {f b : Nat} (hf : f < n) (h5 : kd f = 5) (hb : b = 2 * f + 1 ∨ b = 2 * f + 2) : dpt be b = dpt be (be f) + 1 ∧ dpt be (be f) ≤ 2 := by
  have e : pa be b = be f := by unfold pa; rw [show (b - 1) / 2 = f by omega]
  have h := fork_deep hn hs hg hr hf h5
  unfold dpt
  rw [if_neg (show b ≠ 0 by omega), e]
  by_cases q0 : be f = 0
  · rw [if_pos q0, if_pos q0]; omega
  · rw [if_neg q0, if_neg q0]
    by_cases q1 : pa be (be f) = 0
    · rw [if_pos q1, if_pos q1]; omega
    · rw [if_neg q1, if_neg q1, if_pos ((h.resolve_left q0).resolve_left q1)]; omega
theorem wW_good (hn : n ≤ 12) (hs : Snd n kd nx ot) (hg : GL n kd nx ot be J Fj) (hr : Rnk n kd nx ot rk) : WG n kd nx ot (wW kd be) := by
  have h8 : ∀ k, 2 ^ (3 - k) ≤ 8 := fun k => Nat.pow_le_pow_right (by decide) (show 3 - k ≤ 3 by omega)
  have ent : ∀ i, i < n → kd i ≠ 5 → ∀ j, Way kd nx ot i j → wW kd be j = 2 ^ (3 - dpt be (be i)) := by
    intro i hi h5 j hw
    have e := hg.2.2.2.2.1 i hi h5 j hw
    unfold wW
    by_cases h6 : kd j = 6
    · have e := e.2 h6
      have r := fork_rk hg hr i hi e.1
      have d := dpt_fork hn hs hg hr (b := be i) r.1 r.2.1 (by have := e.1; omega)
      rw [if_pos h6, e.2.2.2, d.1]
      congr 1
    · rw [if_neg h6, e.1 h6]; rfl
  refine ⟨fun i hi => ⟨Nat.one_le_two_pow, ?_⟩, fun i hi => ⟨fun h5 h6 j hw => ?_, fun h6 => ?_, fun h5 => ?_⟩⟩
  · unfold wW; rw [Nat.sub_sub]; exact h8 _
  · rw [ent i hi h5 j hw]
    unfold wW; rw [if_neg h6]; exact Nat.le_refl _
  · have h5 : kd i ≠ 5 := by omega
    rw [ent i hi h5 _ (Or.inl ⟨by omega, rfl⟩)]
    unfold wW; rw [if_pos h6]
    by_cases q : 3 - dpt be (be i) = 0
    · rw [q]; decide
    · rw [show 3 - dpt be (be i) = 3 - dpt be (be i) - 1 + 1 by omega, Nat.pow_succ]
      simp only [Nat.add_sub_cancel]; omega
  · obtain ⟨q1, q2, q3, q4⟩ := hg.2.2.2.1 i hi h5
    have d1 := dpt_fork hn hs hg hr (b := 2 * i + 1) hi h5 (Or.inl rfl)
    have d2 := dpt_fork hn hs hg hr (b := 2 * i + 2) hi h5 (Or.inr rfl)
    unfold wW
    rw [if_neg q1, if_neg q2, if_neg (show kd i ≠ 6 by omega), q3, q4, d1.1, d2.1]
    rw [show 3 - dpt be (be i) - 0 = (3 - (dpt be (be i) + 1) - 0) + 1 by omega, Nat.pow_succ]
    omega
end LAB
section LAB2
variable {n : Nat} {kd nx ot be J Fj be2 J2 Fj2 rk : Nat → Nat}
/-- a FORK's two branches meet -/
theorem fork_meet (hs : Snd n kd nx ot) (hg : GL n kd nx ot be J Fj) {f : Nat} (hf : f < n) (h5 : kd f = 5) : ∃ e1 e2, e1 < n ∧ e2 < n ∧ be e1 = 2 * f + 1 ∧ be e2 = 2 * f + 2 ∧ kd e1 ≠ 5 ∧ kd e1 ≠ 9 ∧ kd e2 ≠ 5 ∧ kd e2 ≠ 9 ∧ nx e2 = nx e1 ∧ kd (nx e1) = 6 ∧ J (2 * f + 1) = nx e1 ∧ J (2 * f + 2) = nx e1 ∧ nx e1 < n ∧ Fj (nx e1) = f := by
  obtain ⟨q1, q2, q3, q4⟩ := hg.2.2.2.1 f hf h5
  have hnf := (hs f hf).1 (by omega)
  have hof := (hs f hf).2.1 (Or.inl h5)
  obtain ⟨e1, a1, _, _, a3, a4, a5, a6, a7, _, a8, a9, _⟩ := asc_end (L := fun _ => True) hs hg cls_true hnf.2 trivial q3 (by omega)
  obtain ⟨e2, c1, _, _, c3, c4, c5, c6, c7, _, c8, c9, _⟩ := asc_end (L := fun _ => True) hs hg cls_true hof.2 trivial q4 (by omega)
  have e3 : nx e2 = nx e1 := hg.2.2.2.2.2 _ c7 _ a7 c6 a6 (by rw [a9, c9]; omega)
  exact ⟨e1, e2, a1, c1, a3, c3, a4, a5, c4, c5, e3, a6, a8, by rw [c8, e3], a7, by rw [a9]; omega⟩
/-- there is but one labelling -/
theorem gl_one (hg : GL n kd nx ot be J Fj) (hg2 : GL n kd nx ot be2 J2 Fj2) (hr : Rnk n kd nx ot rk) : (∀ i, i < n → be i = be2 i) ∧ ∀ i, i < n → kd i = 6 → Fj i = Fj2 i := by
  have key : ∀ k i, i < n → rk i ≤ k → be i = be2 i ∧ (kd i = 6 → Fj i = Fj2 i) := by
    intro k
    induction k with
    | zero =>
      intro i hi hk
      by_cases q : i = 0
      · subst q
        exact ⟨by rw [hg.1, hg2.1], fun h => absurd h hg.2.1⟩
      · obtain ⟨p, _, _, h⟩ := hr i hi q
        omega
    | succ k ih =>
      intro i hi hk
      by_cases q : i = 0
      · subst q
        exact ⟨by rw [hg.1, hg2.1], fun h => absurd h hg.2.1⟩
      obtain ⟨p, hp, hw, hlt⟩ := hr i hi q
      have e := (ih p hp (by omega)).1
      by_cases h5 : kd p = 5
      · obtain ⟨q1, q2, q3, q4⟩ := hg.2.2.2.1 p hp h5
        obtain ⟨_, _, w3, w4⟩ := hg2.2.2.2.1 p hp h5
        rcases hw with ⟨_, ee⟩ | ⟨_, ee⟩ <;> rw [ee]
        · exact ⟨by rw [q3, w3], fun h => absurd h q1⟩
        · exact ⟨by rw [q4, w4], fun h => absurd h q2⟩
      · have e1 := hg.2.2.2.2.1 p hp h5 i hw
        have e2 := hg2.2.2.2.2.1 p hp h5 i hw
        by_cases h6 : kd i = 6
        · have e1 := e1.2 h6
          have e2 := e2.2 h6
          rw [← e] at e2
          have r := fork_rk hg hr p hp e1.1
          have e3 := (ih ((be p - 1) / 2) r.1 (by omega)).1
          exact ⟨by rw [e1.2.2.2, e2.2.2.2, e3], fun _ => by rw [e1.2.2.1, e2.2.2.1]⟩
        · exact ⟨by rw [e1.1 h6, e2.1 h6, e], fun h => absurd h h6⟩
  exact ⟨fun i hi => (key (rk i) i hi (Nat.le_refl _)).1, fun i hi => (key (rk i) i hi (Nat.le_refl _)).2⟩
end LAB2
