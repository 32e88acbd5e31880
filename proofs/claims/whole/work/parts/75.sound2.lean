/-! release: sound, the reference's side, and both loops -/
section SN2
variable {f : Nat} {K : kx} {W : Nat → Nat → Nat} {bd : Nat} {c : cx_S} {s : rx_S}
theorem num_M (hI : Iv K W bd s) {r i : Nat} (hr : r < 4) (hi : i < nt (s 7 r)) : ∃ y, D_M_isNumbered f (nI (12 * r + i)) s = some (y, s) ∧ TF y (NU s r i) := by
  have k10 := hI.i9 r hr i hi
  have ke := k10.eq
  have kl := k10.lt
  have m7 := hI.i7 r hr
  have ml := m7.lt
  obtain ⟨y1, e1, t1⟩ := in2_tf (s 11 (12 * r + i)) (a := 0) (b := 500) (by decide) (by decide) f s
  obtain ⟨y2, e2, t2⟩ := in2_tf (s 12 (12 * r + i)) (a := 0) (b := 500) (by decide) (by decide) f s
  obtain ⟨y3, e3, t3⟩ := in2_tf (s 11 (12 * r + i)) (a := 1) (b := 20) (by decide) (by decide) f s
  obtain ⟨y4, e4, t4⟩ := in2_tf (s 12 (12 * r + i)) (a := 1) (b := 100) (by decide) (by decide) f s
  obtain ⟨y5, e5, t5⟩ := in2_tf (s 11 (12 * r + i)) (a := 0) (b := 3) (by decide) (by decide) f s
  obtain ⟨y6, e6, t6⟩ := in2_tf (s 10 (12 * r + i)) (a := 0) (b := 3) (by decide) (by decide) f s
  obtain ⟨y7, e7, t7⟩ := in2_tf (s 10 (12 * r + i)) (a := 1) (b := 5) (by decide) (by decide) f s
  unfold D_M_isNumbered
  simp only [b_og (show 12 * r + i < 48 by omega) (show 48 < 2 ^ 31 by decide), e1, e2, e3, e4, e5, e6, e7, b_ob, b_oj]
  unfold NU
  have kk : zk s r i = nt (s 9 (12 * r + i)) := rfl
  rw [kk, ke]
  generalize nt (s 9 (12 * r + i)) = k at *
  rw [nt_nI (by omega)]
  have : k = 0 ∨ k = 1 ∨ k = 2 ∨ k = 3 ∨ k = 4 ∨ k = 5 ∨ k = 6 ∨ k = 7 ∨ k = 8 ∨ k = 9 := by omega
  rcases this with rfl | rfl | rfl | rfl | rfl | rfl | rfl | rfl | rfl | rfl
  · simp (decide := true) only [if_true, if_false]
    rcases t1 with ⟨rfl, q1⟩ | ⟨rfl, q1⟩ <;> rcases t2 with ⟨rfl, q2⟩ | ⟨rfl, q2⟩ <;> simp only [Nat.zero_le, and_true] at q1 q2 <;> simp (decide := true) only [if_true, if_false, ozb_0, ozb_1] <;> refine ⟨_, rfl, ?_⟩ <;> first | (apply TF.y; simp [q1, q2]; done) | (apply TF.n; simp [q1, q2]; done)
  · simp (decide := true) only [if_true, if_false]
    rcases t3 with ⟨rfl, q3⟩ | ⟨rfl, q3⟩ <;> simp only [ozb_0, ozb_1] <;> refine ⟨_, rfl, ?_⟩ <;> first | (apply TF.y; simp [q3]; done) | (apply TF.n; intro z; exact q3 (z.2.1 trivial))
  · simp (decide := true) only [if_true, if_false]
    by_cases z0 : s 11 (12 * r + i) = s 10 (12 * r + i)
    · simp only [if_pos z0, ozb_0]
      exact ⟨_, rfl, TF.n (by simp [z0])⟩
    · simp only [if_neg z0]
      rcases t4 with ⟨rfl, q4⟩ | ⟨rfl, q4⟩ <;> simp (decide := true) only [if_true, if_false, ozb_0, ozb_1] <;> refine ⟨_, rfl, ?_⟩ <;> first | (apply TF.y; simp [q4, z0]; done) | (apply TF.n; intro z; exact q4 (z.2.2.1 trivial).2)
  · simp (decide := true) only [if_true, if_false]
    rcases t3 with ⟨rfl, q3⟩ | ⟨rfl, q3⟩ <;> simp only [ozb_0, ozb_1] <;> refine ⟨_, rfl, ?_⟩ <;> first | (apply TF.y; simp [q3]; done) | (apply TF.n; intro z; exact q3 (z.2.1 trivial))
  · simp (decide := true) only [if_true, if_false]
    rcases t5 with ⟨rfl, q5⟩ | ⟨rfl, q5⟩ <;> simp only [Nat.zero_le, and_true] at q5 <;> simp only [ozb_0, ozb_1] <;> refine ⟨_, rfl, ?_⟩ <;> first | (apply TF.y; simp [q5]; done) | (apply TF.n; simp [q5]; done)
  · simp (decide := true) only [if_true, if_false]
    exact ⟨_, rfl, TF.y (by simp)⟩
  · simp (decide := true) only [if_true, if_false]
    exact ⟨_, rfl, TF.y (by simp)⟩
  · simp (decide := true) only [if_true, if_false]
    rcases t6 with ⟨rfl, q6⟩ | ⟨rfl, q6⟩ <;> simp only [Nat.zero_le, and_true] at q6 <;> simp only [ozb_0, ozb_1] <;> refine ⟨_, rfl, ?_⟩ <;> first | (apply TF.y; simp [q6]; done) | (apply TF.n; simp [q6]; done)
  · simp (decide := true) only [if_true, if_false]
    rcases t7 with ⟨rfl, q7⟩ | ⟨rfl, q7⟩ <;> simp only [ozb_0, ozb_1] <;> refine ⟨_, rfl, ?_⟩ <;> first | (apply TF.y; simp [q7]; done) | (apply TF.n; intro z; exact q7 (z.2.2.2.2.2 trivial))
  · simp (decide := true) only [if_true, if_false]
    exact ⟨_, rfl, TF.y (by simp)⟩
def SX (s : rx_S) (r i : Nat) : Prop := (NU s r i ∧ RO s r i) ∧ (LN s r i ∧ LO s r i)
theorem snd_M (hI : Iv K W bd s) {r i : Nat} (hr : r < 4) (hi : i < nt (s 7 r)) : ∃ y, D_M_isSound f (nI r) (nI i) s = some (y, s) ∧ TF y (SX s r i) := by
  have k10 := hI.i9 r hr i hi
  have ke := k10.eq
  have kl := k10.lt
  have m7 := hI.i7 r hr
  have ml := m7.lt
  have me := m7.eq
  obtain ⟨y0, e0, t0⟩ := num_M (f := f) hI hr hi
  obtain ⟨y1, e1, t1⟩ := role_M (f := f) hI hr (s 10 (12 * r + i))
  obtain ⟨y2, e2, t2⟩ := role_M (f := f) hI hr (s 11 (12 * r + i))
  obtain ⟨y3, e3, t3⟩ := in_tf (s 13 (12 * r + i)) (a := i + 1) (b := nt (s 7 r)) (by omega) (by omega) f s
  obtain ⟨y4, e4, t4⟩ := in_tf (s 14 (12 * r + i)) (a := i + 1) (b := nt (s 7 r)) (by omega) (by omega) f s
  obtain ⟨y5, e5, t5⟩ := in_tf (s 14 (12 * r + i)) (a := 0) (b := i) (by omega) (by decide) f s
  rw [← me] at e3 e4
  simp only [Nat.zero_le, and_true] at t5
  have f3 : TF y3 (rg (s 13 (12 * r + i)) (nt (s 7 r)) ∧ i < zn s r i) := t3
  have f4 : TF y4 (rg (s 14 (12 * r + i)) (nt (s 7 r)) ∧ i < zo s r i) := t4
  have ho : ∀ k, k < 10 → D_M_hasOther f (nI k) s = some (if k = 5 ∨ k = 7 ∨ k = 8 then nI 1 else nI 0, s) := by
    intro k hk
    have : k = 0 ∨ k = 1 ∨ k = 2 ∨ k = 3 ∨ k = 4 ∨ k = 5 ∨ k = 6 ∨ k = 7 ∨ k = 8 ∨ k = 9 := by omega
    unfold D_M_hasOther
    rcases this with rfl | rfl | rfl | rfl | rfl | rfl | rfl | rfl | rfl | rfl <;> simp (decide := true) only [b_oj, if_true, if_false, ozb_0, ozb_1]
  unfold D_M_isSound
  simp only [pk_mul, nI_add, b_og (show 12 * r + i < 48 by omega) (show 48 < 2 ^ 31 by decide), b_og hr (show 4 < 2 ^ 31 by decide), e0, e1, e2, e3, e4, e5, b_ob, b_oj]
  unfold SX RO LN LO
  have kk : zk s r i = nt (s 9 (12 * r + i)) := rfl
  rw [kk, ke]
  generalize nt (s 9 (12 * r + i)) = k at *
  rw [nt_nI (by omega)]
  simp only [ho k kl, b_ob]
  have : k = 0 ∨ k = 1 ∨ k = 2 ∨ k = 3 ∨ k = 4 ∨ k = 5 ∨ k = 6 ∨ k = 7 ∨ k = 8 ∨ k = 9 := by omega
  rcases t0 with ⟨rfl, q0⟩ | ⟨rfl, q0⟩ <;> rcases f3 with ⟨rfl, q3⟩ | ⟨rfl, q3⟩
  all_goals (rcases this with rfl | rfl | rfl | rfl | rfl | rfl | rfl | rfl | rfl | rfl)
  all_goals simp (decide := true) only [if_true, if_false, e0, e1, e2, e4, e5, b_ob]
  all_goals first
    | (refine ⟨_, rfl, TF.y ?_⟩; simp [q0, q3]; done)
    | (simp (decide := true) only [if_true, if_false, ozb_0, ozb_1, e0, e1, e2, e4, e5, b_ob]; refine ⟨_, rfl, TF.y ?_⟩; simp [q0, q3]; done)
    | (simp (decide := true) only [if_true, if_false, ozb_0, ozb_1, e0, e1, e2, e4, e5, b_ob]; refine ⟨_, rfl, TF.n ?_⟩; simp [q0, q3]; done)
    | (rcases t1 with ⟨rfl, q1⟩ | ⟨rfl, q1⟩ <;> simp (decide := true) only [if_true, if_false, ozb_0, ozb_1, e0, e1, e2, e4, e5, b_ob] <;> first | (refine ⟨_, rfl, TF.y ?_⟩; simp [q0, q1, q3]; done) | (refine ⟨_, rfl, TF.n ?_⟩; simp [q0, q1, q3]; done) | (rcases t2 with ⟨rfl, q2⟩ | ⟨rfl, q2⟩ <;> simp (decide := true) only [if_true, if_false, ozb_0, ozb_1, e0, e1, e2, e4, e5, b_ob] <;> first | (refine ⟨_, rfl, TF.y ?_⟩; simp [q0, q1, q2, q3]; done) | (refine ⟨_, rfl, TF.n ?_⟩; simp [q0, q1, q2, q3]; done)))
    | (rcases f4 with ⟨rfl, q4⟩ | ⟨rfl, q4⟩ <;> simp (decide := true) only [if_true, if_false, ozb_0, ozb_1, e0, e1, e2, e4, e5, b_ob] <;> first | (refine ⟨_, rfl, TF.y ?_⟩; simp [q0, q3, q4]; done) | (refine ⟨_, rfl, TF.n ?_⟩; simp [q0, q3]; done) | (refine ⟨_, rfl, TF.n ?_⟩; intro z; exact q4 (z.2.2.1 trivial)))
    | (rcases t5 with ⟨rfl, q5⟩ | ⟨rfl, q5⟩ <;> simp (decide := true) only [if_true, if_false, ozb_0, ozb_1, e0, e1, e2, e4, e5, b_ob] <;> first | (refine ⟨_, rfl, TF.y ?_⟩; simp [q0, q3, q5]; done) | (refine ⟨_, rfl, TF.n ?_⟩; simp [q0, q3, q5]; done))
    | skip
theorem snd_loop_C (h : CRep K c s) (hI : Iv K W bd s) {r : Nat} (hr : r < 4) {kk : cx_S → Option (Int32 × cx_S)} : ∀ d i k, i + d = nt (s 7 r) → d < k → (∀ j, j < i → SX s r j) → ((∀ j, j < nt (s 7 r) → SX s r j) ∧ D_C_isSound_2 f 5 (some (40 + 3 * r)) kk k (nI i) c = kk c) ∨ (¬ (∀ j, j < nt (s 7 r) → SX s r j) ∧ D_C_isSound_2 f 5 (some (40 + 3 * r)) kk k (nI i) c = some (nI 0, c)) := by
  have m7 := hI.i7 r hr
  have ml := m7.lt
  have em : cI c 97 (40 + 3 * r) 0 = nI (nt (s 7 r)) := by rw [h.rm r hr]; exact m7.eq
  intro d
  induction d with
  | zero =>
    intro i k hi hk hs
    obtain ⟨k, rfl⟩ : ∃ k', k = k' + 1 := ⟨k - 1, by omega⟩
    refine Or.inl ⟨fun j hj => hs j (by omega), ?_⟩
    rw [D_C_isSound_2, b_oc (h.fix.hRec r hr), em, if_pos (by rw [show i = nt (s 7 r) by omega]; exact Int32.le_refl _)]
  | succ d ih =>
    intro i k hi hk hs
    obtain ⟨k, rfl⟩ : ∃ k', k = k' + 1 := ⟨k - 1, by omega⟩
    have hin : i < nt (s 7 r) := by omega
    have hst := h.sh r hr i hin
    obtain ⟨y1, e1, t1⟩ := num_C (f := f) h hI hr hin
    obtain ⟨y2, e2, t2⟩ := lnk_C (f := f) h hI hr hin
    rw [D_C_isSound_2, b_oc (h.fix.hRec r hr), em, if_neg (nI_ge hin (by omega)), h.fix.stp r hr, b_oa (h.fix.hStp r hr) (by omega) (by decide), b_oc h.fix.h5, hst.1, e1, b_ob, b_oj]
    rcases t1 with ⟨rfl, q1⟩ | ⟨rfl, q1⟩
    · rw [if_neg (by decide), b_oc h.fix.h5, e2, b_ob]
      rcases t2 with ⟨rfl, q2⟩ | ⟨rfl, q2⟩
      · rw [if_neg (by decide), nI_add]
        exact ih (i + 1) k (by omega) (by omega) (fun j hj => by
          by_cases e : j = i
          · rw [e]; exact ⟨q1, q2⟩
          · exact hs j (by omega))
      · rw [if_pos (show nI 0 = 0 from rfl)]
        exact Or.inr ⟨fun z => q2 (z i hin).2, rfl⟩
    · rw [if_pos (show nI 0 = 0 from rfl)]
      exact Or.inr ⟨fun z => q1 (z i hin).1, rfl⟩
theorem snd_loop_0 (hI : Iv K W bd s) {r : Nat} (hr : r < 4) {kk : Int32 → rx_S → Option (Int32 × rx_S)} : ∀ d i k, i + d = nt (s 7 r) → d < k → D_M_release_55 f (nI r) kk k (nI 0) (nI i) s = kk (nI 0) s := by
  have m7 := hI.i7 r hr
  have ml := m7.lt
  have me := m7.eq
  intro d
  induction d with
  | zero =>
    intro i k hi hk
    obtain ⟨k, rfl⟩ : ∃ k', k = k' + 1 := ⟨k - 1, by omega⟩
    rw [D_M_release_55, b_og hr (by decide), me, if_pos (by rw [show i = nt (s 7 r) by omega]; exact Int32.le_refl _)]
  | succ d ih =>
    intro i k hi hk
    obtain ⟨k, rfl⟩ : ∃ k', k = k' + 1 := ⟨k - 1, by omega⟩
    rw [D_M_release_55, b_og hr (by decide), me, if_neg (nI_ge (by omega) (by omega)), b_oj, b_oj, if_pos (show nI 0 = 0 from rfl), nI_add]
    exact ih (i + 1) k (by omega) (by omega)
theorem snd_loop_M (hI : Iv K W bd s) {r : Nat} (hr : r < 4) {kk : Int32 → rx_S → Option (Int32 × rx_S)} : ∀ d i k, i + d = nt (s 7 r) → d < k → (∀ j, j < i → SX s r j) → ∃ x, D_M_release_55 f (nI r) kk k (nI 1) (nI i) s = kk x s ∧ TF x (∀ j, j < nt (s 7 r) → SX s r j) := by
  have m7 := hI.i7 r hr
  have ml := m7.lt
  have me := m7.eq
  intro d
  induction d with
  | zero =>
    intro i k hi hk hs
    obtain ⟨k, rfl⟩ : ∃ k', k = k' + 1 := ⟨k - 1, by omega⟩
    refine ⟨nI 1, ?_, TF.y (fun j hj => hs j (by omega))⟩
    rw [D_M_release_55, b_og hr (by decide), me, if_pos (by rw [show i = nt (s 7 r) by omega]; exact Int32.le_refl _)]
  | succ d ih =>
    intro i k hi hk hs
    obtain ⟨k, rfl⟩ : ∃ k', k = k' + 1 := ⟨k - 1, by omega⟩
    have hin : i < nt (s 7 r) := by omega
    obtain ⟨y1, e1, t1⟩ := snd_M (f := f) hI hr hin
    rcases t1 with ⟨rfl, q1⟩ | ⟨rfl, q1⟩
    · have ev : D_M_release_55 f (nI r) kk (k + 1) (nI 1) (nI i) s = D_M_release_55 f (nI r) kk k (nI 1) (nI (i + 1)) s := by
        rw [D_M_release_55, b_og hr (by decide), me, if_neg (nI_ge hin (by omega)), b_oj, b_oj, if_neg (show ¬ nI 1 = 0 by decide), e1, b_ob, if_neg (by decide), nI_add]
      rw [ev]
      exact ih (i + 1) k (by omega) (by omega) (fun j hj => by
        by_cases e : j = i
        · rw [e]; exact q1
        · exact hs j (by omega))
    · have ev : D_M_release_55 f (nI r) kk (k + 1) (nI 1) (nI i) s = D_M_release_55 f (nI r) kk k (nI 0) (nI (i + 1)) s := by
        rw [D_M_release_55, b_og hr (by decide), me, if_neg (nI_ge hin (by omega)), b_oj, b_oj, if_neg (show ¬ nI 1 = 0 by decide), e1, b_ob, if_pos (show nI 0 = 0 from rfl), nI_add]
      rw [ev, snd_loop_0 hI hr d (i + 1) k (by omega) (by omega)]
      exact ⟨nI 0, rfl, TF.n (fun z => q1 (z i hin))⟩
end SN2
