/-! release: sound numbers, sound links -/
section SND
variable {f : Nat} {K : kx} {W : Nat → Nat → Nat} {bd : Nat} {c : cx_S} {s : rx_S}
/-- 1 for yes, 0 for no -/
def TF (x : Int32) (p : Prop) : Prop := (x = nI 1 ∧ p) ∨ (x = nI 0 ∧ ¬ p)
theorem TF.y {p : Prop} (h : p) : TF (nI 1) p := Or.inl ⟨rfl, h⟩
theorem TF.n {p : Prop} (h : ¬ p) : TF (nI 0) p := Or.inr ⟨rfl, h⟩
theorem TF.iff {x : Int32} {p q : Prop} (h : TF x p) (e : p ↔ q) : TF x q := by
  rcases h with ⟨a, b⟩ | ⟨a, b⟩
  · exact Or.inl ⟨a, e.mp b⟩
  · exact Or.inr ⟨a, fun z => b (e.mpr z)⟩
theorem rgx (x : Int32) {n : Nat} (hn : n < 2 ^ 31) : rg x n ∨ (x < 0 ∨ nI n ≤ x) := by
  rcases b_ix x hn with ⟨j, hj, rfl⟩ | h
  · exact Or.inl (rg_of hj hn)
  · exact Or.inr h
theorem rg_no {x : Int32} {n : Nat} (hn : n < 2 ^ 31) (h : x < 0 ∨ nI n ≤ x) : ¬ rg x n := fun q => by
  rw [q.eq] at h
  have := q.lt
  rcases h with h | h
  · exact nI_pos (by omega) h
  · exact nI_ge this hn h
theorem rg_mono {x : Int32} {n m : Nat} (h : rg x n) (hm : nt x < m) : rg x m := ⟨h.eq, hm⟩
theorem bel_tf (x : Int32) {n : Nat} (hn : n < 2 ^ 31) (f : Nat) (c : cx_S) : ∃ y, D_H_isBelow f x (nI n) c = some (y, c) ∧ TF y (rg x n) := by
  rcases b_ix x hn with ⟨j, hj, rfl⟩ | h
  · exact ⟨_, b_below_t hj hn, TF.y (rg_of hj hn)⟩
  · exact ⟨_, b_below_f h, TF.n (rg_no hn h)⟩
/-- in, in general -/
theorem in_tf (x : Int32) {a b : Nat} (hb : b < 2 ^ 30) (ha : a < 2 ^ 30) (f : Nat) (s : rx_S) : ∃ y, D_M_in f x (nI a) (nI b - nI 1) s = some (y, s) ∧ TF y (rg x b ∧ a ≤ nt x) := by
  have dn : D_M_in f x (nI a) (nI b - nI 1) s = some (if x < nI a then nI 0 else if nI b - nI 1 < x then nI 0 else nI 1, s) := by
    unfold D_M_in
    simp only [b_oj]
    by_cases q1 : x < nI a
    · rw [if_pos q1, if_pos q1, ozb_0]
    · rw [if_neg q1, if_neg q1]
      by_cases q2 : nI b - nI 1 < x
      · rw [if_pos q2, if_pos q2, ozb_0]
      · rw [if_neg q2, if_neg q2, ozb_1]
  refine ⟨_, dn, ?_⟩
  rcases rgx x (n := b) (by omega) with h | h
  · have e := h.eq
    have l := h.lt
    have e1 : (x < nI a) ↔ nt x < a := by
      rw [e, nt_nI (by omega)]; exact nI_ltI (by omega) (by omega)
    have e2 : ¬ nI b - nI 1 < x := by
      rw [pk_sub (by omega), e]; exact nI_nlt (by omega) (by omega)
    by_cases q : nt x < a
    · rw [if_pos (e1.mpr q)]; exact TF.n (fun z => by omega)
    · rw [if_neg (fun z => q (e1.mp z)), if_neg e2]; exact TF.y ⟨h, by omega⟩
  · have hn := rg_no (by omega) h
    by_cases q1 : x < nI a
    · rw [if_pos q1]; exact TF.n (fun z => hn z.1)
    · have q2 : nI b - nI 1 < x := by
        have hx : nI b ≤ x := h.resolve_left (fun z => q1 (Int32.lt_of_lt_of_le z (nI_pos' (by omega))))
        by_cases b0 : b = 0
        · subst b0
          exact Int32.lt_of_lt_of_le (by decide) hx
        · rw [pk_sub (by omega)]
          exact Int32.lt_of_lt_of_le (nI_lt (by omega) (by omega)) hx
      rw [if_neg q1, if_pos q2]; exact TF.n (fun z => hn z.1)
theorem in2_tf (x : Int32) {a b : Nat} (hb : b + 1 < 2 ^ 30) (ha : a < 2 ^ 30) (f : Nat) (s : rx_S) : ∃ y, D_M_in f x (nI a) (nI b) s = some (y, s) ∧ TF y (rg x (b + 1) ∧ a ≤ nt x) := by
  have := in_tf x hb ha f s
  rw [pk_sub (by omega), Nat.add_sub_cancel] at this
  exact this
/-- the class's way of the same -/
theorem low_hi (x : Int32) {a b : Nat} (ha : 1 ≤ a) (hb : b + 1 < 2 ^ 30) (hab : a ≤ b) : (¬ x < nI a ∧ ¬ nI b < x) ↔ (rg x (b + 1) ∧ a ≤ nt x) := by
  rcases rgx x (n := b + 1) (by omega) with h | h
  · have e := h.eq
    have l := h.lt
    have e1 : (x < nI a) ↔ nt x < a := by
      rw [e, nt_nI (by omega)]; exact nI_ltI (by omega) (by omega)
    have e2 : ¬ nI b < x := by
      rw [e]; exact nI_nlt (by omega) (by omega)
    exact ⟨fun q => ⟨h, by have := Nat.le_of_not_lt (fun z => q.1 (e1.mpr z)); omega⟩, fun q => ⟨fun z => by have := e1.mp z; omega, e2⟩⟩
  · refine ⟨fun q => ?_, fun q => absurd q.1 (rg_no (by omega) h)⟩
    rcases h with h | h
    · exact absurd (Int32.lt_of_lt_of_le h (nI_pos' (by omega))) q.1
    · exact absurd (Int32.lt_of_lt_of_le (nI_lt (Nat.lt_succ_self b) (by omega)) h) q.2
theorem nxt_tf (x : Int32) {i n : Nat} (hn : n < 2 ^ 30) (hi : i < n) : (¬ x ≤ nI i ∧ x < nI n) ↔ (rg x n ∧ i < nt x) := by
  rcases rgx x (n := n) (by omega) with h | h
  · have e := h.eq
    have l := h.lt
    have e1 : (x ≤ nI i) ↔ nt x ≤ i := by
      rw [e, nt_nI (by omega)]; exact nI_leI (by omega) (by omega)
    have e2 : x < nI n := by
      rw [e]; exact nI_lt l (by omega)
    exact ⟨fun q => ⟨h, by have := Nat.lt_of_not_le (fun z => q.1 (e1.mpr z)); omega⟩, fun q => ⟨fun z => by have := e1.mp z; omega, e2⟩⟩
  · refine ⟨fun q => ?_, fun q => absurd q.1 (rg_no (by omega) h)⟩
    rcases h with h | h
    · exact absurd (Int32.le_trans (Int32.le_of_lt h) (nI_pos' (by omega))) q.1
    · exact absurd q.2 (Int32.not_lt.mpr h)
/-- has a role -/
def HR (s : rx_S) (r : Nat) (x : Int32) : Prop := rg x 3 ∧ nt (s 6 (3 * r + nt x)) < 3
theorem role_C (h : CRep K c s) (hI : Iv K W bd s) {r : Nat} (hr : r < 4) (x : Int32) : ∃ y, D_R_hasRole f (40 + 3 * r) x c = some (y, c) ∧ TF y (HR s r x) := by
  unfold D_R_hasRole
  rcases b_ix x (n := 3) (by decide) with ⟨k, hk, rfl⟩ | hx
  · have g := hI.i6 (3 * r + k) (by omega)
    have gl := g.lt
    simp only [b_below_t hk (show 3 < 2 ^ 31 by decide), b_ob, b_oj, b_10, if_false, b_oc (h.fix.hRec r hr), h.fix.grp r hr, b_oa (h.fix.hGrp r hr) hk (show 3 < 2 ^ 31 by decide), h.rgr r hr k hk]
    by_cases q : s 6 (3 * r + k) = nI 3
    · rw [if_pos q, ozb_0]
      refine ⟨_, rfl, TF.n (fun z => ?_)⟩
      have := z.2
      rw [nt_nI (by omega), q, nt_nI (by decide)] at this; omega
    · rw [if_neg q, ozb_1]
      refine ⟨_, rfl, TF.y ⟨rg_of hk (by decide), ?_⟩⟩
      rw [nt_nI (by omega)]
      have : nt (s 6 (3 * r + k)) ≠ 3 := fun z => q (by rw [g.eq, z])
      omega
  · simp only [b_below_f hx, b_ob, b_oj, b_00, if_true, ozb_0]
    exact ⟨_, rfl, TF.n (fun z => rg_no (by decide) hx z.1)⟩
theorem role_M (hI : Iv K W bd s) {r : Nat} (hr : r < 4) (x : Int32) : ∃ y, D_M_hasClass f (nI r) x s = some (y, s) ∧ TF y (HR s r x) := by
  unfold D_M_hasClass
  rcases b_ix x (n := 3) (by decide) with ⟨k, hk, rfl⟩ | hx
  · have g := hI.i6 (3 * r + k) (by omega)
    have gl := g.lt
    simp only [b_in_t (show k ≤ 2 by omega) (show 2 < 2 ^ 31 by decide), b_ob, b_oj, b_10, if_false, pk_mul, nI_add, b_og (show 3 * r + k < 12 by omega) (show 12 < 2 ^ 31 by decide)]
    have e : (nI 3 ≤ s 6 (3 * r + k)) ↔ 3 ≤ nt (s 6 (3 * r + k)) := by
      rw [g.eq, nt_nI (by omega)]; exact nI_leI (by decide) (by omega)
    by_cases q : 3 ≤ nt (s 6 (3 * r + k))
    · rw [if_pos (e.mpr q), ozb_0]
      exact ⟨_, rfl, TF.n (fun z => by have := z.2; rw [nt_nI (by omega)] at this; omega)⟩
    · rw [if_neg (fun z => q (e.mp z)), ozb_1]
      exact ⟨_, rfl, TF.y ⟨rg_of hk (by decide), by rw [nt_nI (by omega)]; omega⟩⟩
  · simp only [b_in_f (n := 2) (by decide) hx, b_ob, b_oj, b_00, if_true, ozb_0]
    exact ⟨_, rfl, TF.n (fun z => rg_no (by decide) hx z.1)⟩
def NU (s : rx_S) (r i : Nat) : Prop := (zk s r i = 0 → rg (s 11 (12 * r + i)) 501 ∧ rg (s 12 (12 * r + i)) 501) ∧ (zk s r i = 1 ∨ zk s r i = 3 → rg (s 11 (12 * r + i)) 21 ∧ 1 ≤ zb s r i) ∧ (zk s r i = 2 → s 11 (12 * r + i) ≠ s 10 (12 * r + i) ∧ rg (s 12 (12 * r + i)) 101 ∧ 1 ≤ nt (s 12 (12 * r + i))) ∧ (zk s r i = 4 → rg (s 11 (12 * r + i)) 4) ∧ (zk s r i = 7 → rg (s 10 (12 * r + i)) 4) ∧ (zk s r i = 8 → rg (s 10 (12 * r + i)) 6 ∧ 1 ≤ za s r i)
def RO (s : rx_S) (r i : Nat) : Prop := zk s r i ≤ 4 → HR s r (s 10 (12 * r + i)) ∧ (zk s r i = 2 → HR s r (s 11 (12 * r + i)))
def LN (s : rx_S) (r i : Nat) : Prop := zk s r i ≠ 9 → rg (s 13 (12 * r + i)) (nt (s 7 r)) ∧ i < zn s r i
def LO (s : rx_S) (r i : Nat) : Prop := (zk s r i = 5 ∨ zk s r i = 7 → rg (s 14 (12 * r + i)) (nt (s 7 r)) ∧ i < zo s r i) ∧ (zk s r i = 8 → rg (s 14 (12 * r + i)) i)
theorem ss_iff {r i : Nat} (hi : i < nt (s 7 r)) : (NU s r i ∧ RO s r i) ∧ (LN s r i ∧ LO s r i) ↔ (SS s r i ∧ (zk s r i = 2 → 1 ≤ nt (s 12 (12 * r + i)))) := by
  unfold NU RO LN LO SS HR
  constructor
  · rintro ⟨⟨⟨a1, a2, a3, a4, a5, a6⟩, b⟩, c1, c2, c3⟩
    refine ⟨⟨fun q => (b q).1, a1, a2, fun q => ?_, a4, a5, a6, c1, c2, fun q => ?_⟩, fun q => (a3 q).2.2⟩
    · have b1 := (b (by omega)).1
      have b2 := (b (by omega)).2 q
      refine ⟨b2.1, b2.2, fun z => (a3 q).1 ?_, (a3 q).2.1⟩
      rw [b1.1.eq, b2.1.eq]; exact congrArg nI z.symm
    · have z := c3 q
      exact ⟨rg_mono z (by have := z.lt; omega), z.lt⟩
  · rintro ⟨⟨a1, a2, a3, a4, a5, a6, a7, a8, a9, a10⟩, a11⟩
    refine ⟨⟨⟨a2, a3, fun q => ⟨fun z => ?_, (a4 q).2.2.2, a11 q⟩, a5, a6, a7⟩, fun q => ⟨a1 q, fun z => ⟨(a4 z).1, (a4 z).2.1⟩⟩⟩, a8, a9, fun q => rg_mono (a10 q).1 (a10 q).2⟩
    exact (a4 q).2.2.1 (by show nt (s 10 _) = nt (s 11 _); rw [z])
theorem num_C (h : CRep K c s) (hI : Iv K W bd s) {r i : Nat} (hr : r < 4) (hi : i < nt (s 7 r)) : ∃ y, D_C_hasSoundNumbers f 5 (some (40 + 3 * r)) (some (kS K r i)) c = some (y, c) ∧ TF y (NU s r i ∧ RO s r i) := by
  have hs := h.sh r hr i hi
  have k10 := hI.i9 r hr i hi
  have ke := k10.eq
  have kl := k10.lt
  obtain ⟨y1, e1, t1⟩ := role_C (f := f) h hI hr (s 10 (12 * r + i))
  obtain ⟨y2, e2, t2⟩ := role_C (f := f) h hI hr (s 11 (12 * r + i))
  obtain ⟨y3, e3, t3⟩ := bel_tf (s 11 (12 * r + i)) (n := 501) (by decide) f c
  obtain ⟨y4, e4, t4⟩ := bel_tf (s 12 (12 * r + i)) (n := 501) (by decide) f c
  obtain ⟨y5, e5, t5⟩ := bel_tf (s 11 (12 * r + i)) (n := 4) (by decide) f c
  obtain ⟨y6, e6, t6⟩ := bel_tf (s 10 (12 * r + i)) (n := 4) (by decide) f c
  have l1 := low_hi (s 11 (12 * r + i)) (a := 1) (b := 20) (by decide) (by decide) (by decide)
  have l2 := low_hi (s 12 (12 * r + i)) (a := 1) (b := 100) (by decide) (by decide) (by decide)
  have l3 := low_hi (s 10 (12 * r + i)) (a := 1) (b := 5) (by decide) (by decide) (by decide)
  unfold D_C_hasSoundNumbers
  simp only [b_oc hs.2, h.s0 r hr i hi, h.s1 r hr i hi, h.s2 r hr i hi, h.s3 r hr i hi, b_oc (h.fix.hRec r hr), e1, e2, e3, e4, e5, e6, b_ob, b_oj]
  unfold NU RO
  have kk : zk s r i = nt (s 9 (12 * r + i)) := rfl
  rw [kk]
  rw [ke]
  generalize nt (s 9 (12 * r + i)) = k at *
  rw [nt_nI (by omega)]
  have : k = 0 ∨ k = 1 ∨ k = 2 ∨ k = 3 ∨ k = 4 ∨ k = 5 ∨ k = 6 ∨ k = 7 ∨ k = 8 ∨ k = 9 := by omega
  rcases this with rfl | rfl | rfl | rfl | rfl | rfl | rfl | rfl | rfl | rfl
  · simp (decide := true) only [if_true, if_false]
    rcases t1 with ⟨rfl, q1⟩ | ⟨rfl, q1⟩ <;> rcases t3 with ⟨rfl, q3⟩ | ⟨rfl, q3⟩ <;> rcases t4 with ⟨rfl, q4⟩ | ⟨rfl, q4⟩ <;> simp (decide := true) only [if_true, if_false, ozb_0, ozb_1] <;> refine ⟨_, rfl, ?_⟩ <;> first | (apply TF.y; simp [q1, q3, q4]; done) | (apply TF.n; simp [q1, q3, q4]; done)
  · simp (decide := true) only [if_true, if_false]
    by_cases z1 : s 11 (12 * r + i) < nI 1 <;> by_cases z2 : nI 20 < s 11 (12 * r + i) <;> rcases t1 with ⟨rfl, q1⟩ | ⟨rfl, q1⟩ <;> simp (decide := true) only [z1, z2, if_true, if_false, ozb_0, ozb_1] <;> refine ⟨_, rfl, ?_⟩ <;> simp only [z1, z2, not_true_eq_false, not_false_eq_true, and_self, and_false, false_and, true_iff, false_iff] at l1 <;> first | (apply TF.y; simp [q1, l1]; done) | (apply TF.n; simp [q1, l1]; done)
  · simp (decide := true) only [if_true, if_false]
    by_cases z0 : s 10 (12 * r + i) = s 11 (12 * r + i)
    · rcases t1 with ⟨rfl, q1⟩ | ⟨rfl, q1⟩ <;> rcases t2 with ⟨rfl, q2⟩ | ⟨rfl, q2⟩ <;> simp (decide := true) only [z0, if_true, if_false, ozb_0, ozb_1] <;> refine ⟨_, rfl, ?_⟩ <;> (apply TF.n; simp [z0])
    · by_cases z1 : s 12 (12 * r + i) < nI 1 <;> by_cases z2 : nI 100 < s 12 (12 * r + i) <;> rcases t1 with ⟨rfl, q1⟩ | ⟨rfl, q1⟩ <;> rcases t2 with ⟨rfl, q2⟩ | ⟨rfl, q2⟩ <;> simp (decide := true) only [z0, z1, z2, if_true, if_false, ozb_0, ozb_1] <;> refine ⟨_, rfl, ?_⟩ <;> simp only [z1, z2, not_true_eq_false, not_false_eq_true, and_self, and_false, false_and, true_iff, false_iff] at l2 <;> first | (apply TF.y; simp [q1, q2, l2, Ne.symm z0]; done) | (apply TF.n; simp [q1, q2, l2]; done) | (apply TF.n; simp [q1, q2]; intro _ a b; exact absurd ⟨a, b⟩ l2)
  · simp (decide := true) only [if_true, if_false]
    by_cases z1 : s 11 (12 * r + i) < nI 1 <;> by_cases z2 : nI 20 < s 11 (12 * r + i) <;> rcases t1 with ⟨rfl, q1⟩ | ⟨rfl, q1⟩ <;> simp (decide := true) only [z1, z2, if_true, if_false, ozb_0, ozb_1] <;> refine ⟨_, rfl, ?_⟩ <;> simp only [z1, z2, not_true_eq_false, not_false_eq_true, and_self, and_false, false_and, true_iff, false_iff] at l1 <;> first | (apply TF.y; simp [q1, l1]; done) | (apply TF.n; simp [q1, l1]; done)
  · simp (decide := true) only [if_true, if_false]
    rcases t1 with ⟨rfl, q1⟩ | ⟨rfl, q1⟩ <;> rcases t5 with ⟨rfl, q5⟩ | ⟨rfl, q5⟩ <;> simp (decide := true) only [if_true, if_false, ozb_0, ozb_1] <;> refine ⟨_, rfl, ?_⟩ <;> first | (apply TF.y; simp [q1, q5]; done) | (apply TF.n; simp [q1, q5]; done)
  · simp (decide := true) only [if_true, if_false]
    exact ⟨_, rfl, TF.y (by simp)⟩
  · simp (decide := true) only [if_true, if_false]
    exact ⟨_, rfl, TF.y (by simp)⟩
  · simp (decide := true) only [if_true, if_false]
    rcases t6 with ⟨rfl, q6⟩ | ⟨rfl, q6⟩ <;> simp only [ozb_0, ozb_1] <;> refine ⟨_, rfl, ?_⟩ <;> first | (apply TF.y; simp [q6]; done) | (apply TF.n; simp [q6]; done)
  · simp (decide := true) only [if_true, if_false]
    by_cases z1 : s 10 (12 * r + i) < nI 1 <;> by_cases z2 : nI 5 < s 10 (12 * r + i) <;> simp (decide := true) only [z1, z2, if_true, if_false, ozb_0, ozb_1] <;> refine ⟨_, rfl, ?_⟩ <;> simp only [z1, z2, not_true_eq_false, not_false_eq_true, and_self, and_false, false_and, true_iff, false_iff] at l3 <;> first | (apply TF.y; simp [l3]; done) | (apply TF.n; simp [l3]; done)
  · simp (decide := true) only [if_true, if_false]
    exact ⟨_, rfl, TF.y (by simp)⟩
theorem lnk_C (h : CRep K c s) (hI : Iv K W bd s) {r i : Nat} (hr : r < 4) (hi : i < nt (s 7 r)) : ∃ y, D_C_hasSoundLinks f 5 (some (40 + 3 * r)) (nI i) c = some (y, c) ∧ TF y (LN s r i ∧ LO s r i) := by
  have hs := h.sh r hr i hi
  have k10 := hI.i9 r hr i hi
  have ke := k10.eq
  have kl := k10.lt
  have m7 := hI.i7 r hr
  have ml := m7.lt
  have em : cI c 97 (40 + 3 * r) 0 = nI (nt (s 7 r)) := by rw [h.rm r hr]; exact m7.eq
  obtain ⟨y1, e1, t1⟩ := bel_tf (s 14 (12 * r + i)) (n := i) (by omega) f c
  have l1 := nxt_tf (s 13 (12 * r + i)) (i := i) (n := nt (s 7 r)) (by omega) hi
  have l2 := nxt_tf (s 14 (12 * r + i)) (i := i) (n := nt (s 7 r)) (by omega) hi
  unfold D_C_hasSoundLinks
  simp only [b_oc (h.fix.hRec r hr), h.fix.stp r hr, b_oa (h.fix.hStp r hr) (show i < 12 by omega) (show 12 < 2 ^ 31 by decide), hs.1, b_oc hs.2, h.s0 r hr i hi, h.s4 r hr i hi, h.s5 r hr i hi, em, e1, b_ob, b_oj]
  unfold LN LO
  have kk : zk s r i = nt (s 9 (12 * r + i)) := rfl
  rw [kk, ke]
  have l2' : (¬ s 14 (12 * r + i) ≤ nI i ∧ ¬ nI (nt (s 7 r)) ≤ s 14 (12 * r + i)) ↔ (rg (s 14 (12 * r + i)) (nt (s 7 r)) ∧ i < nt (s 14 (12 * r + i))) := by
    rw [← l2]
    exact ⟨fun q => ⟨q.1, Int32.not_le.mp q.2⟩, fun q => ⟨q.1, Int32.not_le.mpr q.2⟩⟩
  generalize nt (s 9 (12 * r + i)) = k at *
  rw [nt_nI (by omega)]
  by_cases w1 : s 13 (12 * r + i) ≤ nI i <;> by_cases w2 : s 13 (12 * r + i) < nI (nt (s 7 r)) <;> simp only [w1, w2, not_true_eq_false, not_false_eq_true, and_self, and_false, false_and, true_iff, false_iff] at l1
  all_goals (
    have : k = 0 ∨ k = 1 ∨ k = 2 ∨ k = 3 ∨ k = 4 ∨ k = 5 ∨ k = 6 ∨ k = 7 ∨ k = 8 ∨ k = 9 := by omega
    rcases this with rfl | rfl | rfl | rfl | rfl | rfl | rfl | rfl | rfl | rfl)
  all_goals simp (decide := true) only [w1, w2, if_true, if_false]
  all_goals first
    | (refine ⟨_, rfl, TF.y ?_⟩; simp [l1]; done)
    | (refine ⟨_, rfl, TF.n ?_⟩; simp [l1]; done)
    | (by_cases z1 : s 14 (12 * r + i) ≤ nI i <;> by_cases z2 : nI (nt (s 7 r)) ≤ s 14 (12 * r + i) <;> simp only [z1, z2, not_true_eq_false, not_false_eq_true, and_self, and_false, false_and, true_iff, false_iff] at l2' <;> simp (decide := true) only [z1, z2, if_true, if_false, ozb_0, ozb_1] <;> refine ⟨_, rfl, ?_⟩ <;> first | (apply TF.y; simp [l1, l2']; done) | (apply TF.n; simp [l1, l2']; done) | (apply TF.n; simp [l1]; intro a; exact fun b => l2' ⟨a, b⟩))
    | (rcases t1 with ⟨rfl, q1⟩ | ⟨rfl, q1⟩ <;> simp only [ozb_0, ozb_1] <;> refine ⟨_, rfl, ?_⟩ <;> first | (apply TF.y; simp [l1, q1]; done) | (apply TF.n; simp [l1, q1]; done))
    | skip
end SND
