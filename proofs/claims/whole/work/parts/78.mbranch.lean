/-! release: branches, the reference -/
section BRM
variable {f : Nat} {K : kx} {W : Nat → Nat → Nat} {bd : Nat} {c : cx_S} {s : rx_S}
/-- the reference with three rows of its own -/
def wm (s : rx_S) (m1 m2 m3 : Nat → Int32) : rx_S := fun k => if k = 41 then m1 else if k = 42 then m2 else if k = 43 then m3 else s k
section WM
variable {m1 m2 m3 : Nat → Int32}
theorem wm_1 : wm s m1 m2 m3 41 = m1 := by
  show (if 41 = 41 then m1 else if 41 = 42 then m2 else if 41 = 43 then m3 else s 41) = m1
  simp
theorem wm_2 : wm s m1 m2 m3 42 = m2 := by
  show (if 42 = 41 then m1 else if 42 = 42 then m2 else if 42 = 43 then m3 else s 42) = m2
  simp
theorem wm_3 : wm s m1 m2 m3 43 = m3 := by
  show (if 43 = 41 then m1 else if 43 = 42 then m2 else if 43 = 43 then m3 else s 43) = m3
  simp
theorem wm_u1 {j : Nat} {v : Int32} : rx_up (wm s m1 m2 m3) 41 j v = wm s (upd m1 j v) m2 m3 := by
  funext k
  unfold rx_up wm
  by_cases e : k = 41
  · rw [if_pos e, if_pos rfl, if_pos e]
  · rw [if_neg e, if_neg e, if_neg e]
theorem wm_u2 {j : Nat} {v : Int32} : rx_up (wm s m1 m2 m3) 42 j v = wm s m1 (upd m2 j v) m3 := by
  funext k
  unfold rx_up wm
  by_cases e : k = 42
  · rw [if_pos e, if_neg (by decide), if_pos rfl, if_neg (by omega), if_pos e]
  · rw [if_neg e, if_neg e, if_neg e]
theorem wm_u3 {j : Nat} {v : Int32} : rx_up (wm s m1 m2 m3) 43 j v = wm s m1 m2 (upd m3 j v) := by
  funext k
  unfold rx_up wm
  by_cases e : k = 43
  · rw [if_pos e, if_neg (by decide), if_neg (by decide), if_pos rfl, if_neg (by omega), if_neg (by omega), if_pos e]
  · rw [if_neg e, if_neg e, if_neg e]
end WM
def MA (m1 m2 m3 : Nat → Int32) (A : A3) : Prop := Ec 12 25 m1 A.1 ∧ Ec 12 25 m2 A.2.1 ∧ Ec 12 25 m3 A.2.2
theorem o_2 {β : Type} {k : Option β} : od (nI 2) k = k := if_neg (by decide)
theorem half_ec {v : Nat} (h : 2 ≤ v) (h2 : v ≤ 100) : (ec v - nI 1) / nI 2 = nI ((v - 2) / 2) := by
  unfold ec
  rw [if_neg (by omega), pk_sub (by omega), pk_div (by omega) (by decide) (by decide)]
  rw [show v - 1 - 1 = v - 2 by omega]
theorem half_nI {b : Nat} (h : 1 ≤ b) (h2 : b ≤ 100) : (nI b - nI 1) / nI 2 = nI ((b - 1) / 2) := by
  rw [pk_sub (by omega), pk_div (by omega) (by decide) (by decide)]
theorem ent_M (hI : Iv K W bd s) {r t b : Nat} (hr : r < 4) (ht : t < nt (s 7 r)) (hb : b ≤ 24) {m1 m2 m3 : Nat → Int32} {A : A3} (hA : MA m1 m2 m3 A) (hon : A.2.1 t ≠ 0 → 2 ≤ A.2.1 t) :
    ∃ e1 e2 e3, D_M_enters f (nI r) (nI t) (nI b) (wm s m1 m2 m3) = some (b01 (mEnt (zk s r) A t b).1, wm s e1 e2 e3) ∧ MA e1 e2 e3 (mEnt (zk s r) A t b).2 := by
  have m7 := hI.i7 r hr
  have ml := m7.lt
  have k10 := hI.i9 r hr t ht
  have t12 : t < 12 := by omega
  have hk : (wm s m1 m2 m3 9 (12 * r + t) = nI 6) = (zk s r t = 6) := by
    show (s 9 (12 * r + t) = nI 6) = _
    rw [k10.eq, nI_eq (by have := k10.lt; omega) (by decide)]
  obtain ⟨a1, a2, a3⟩ := hA
  have h1 := a1 t t12
  have h2 := a2 t t12
  have h3 := a3 t t12
  unfold D_M_enters mEnt
  simp only [pk_mul, nI_add, b_og (show 12 * r + t < 48 by omega) (show 48 < 2 ^ 31 by decide), b_og t12 (show 12 < 2 ^ 31 by decide), hk, wm_1, wm_2, wm_3, wm_u1, wm_u2, wm_u3, o_2, b_oj]
  by_cases k6 : zk s r t = 6
  · simp only [if_pos k6]
    by_cases b0 : b = 0
    · subst b0
      simp only [b_00, if_true, ozb_0, true_or, ne_eq, not_true_eq_false, decide_false, b01_f]
      exact ⟨m1, m2, m3, rfl, a1, a2, a3⟩
    have bn : ¬ nI b = 0 := nI_ne0 (by omega) (by omega)
    have f12 : (b - 1) / 2 < 12 := by omega
    have hf1 := a1 ((b - 1) / 2) f12
    have e2 : (m2 t = nI b) = (A.2.1 t = b + 1) := by rw [h2.1]; exact ec_nI (by omega) (by omega)
    have e3 : (m3 t = nI b) = (A.2.2 t = b + 1) := by rw [h3.1]; exact ec_nI (by omega) (by omega)
    have e4 : (m2 t = -1) = (A.2.1 t = 0) := by rw [h2.1]; exact ec_m1 (by omega)
    have e5 : (m3 t = -1) = (A.2.2 t = 0) := by rw [h3.1]; exact ec_m1 (by omega)
    simp only [if_neg bn, e2, e3, e4, e5, b0, false_or, half_nI (show 1 ≤ b by omega) (show b ≤ 100 by omega), b_og f12 (show 12 < 2 ^ 31 by decide)]
    by_cases q1 : A.2.1 t = b + 1
    · simp only [if_pos q1, if_pos (show A.2.1 t = b + 1 ∨ A.2.2 t = b + 1 from Or.inl q1), ozb_1, ne_eq, b0, not_false_eq_true, decide_true, b01_t]
      exact ⟨m1, m2, m3, rfl, a1, a2, a3⟩
    by_cases q2 : A.2.2 t = b + 1
    · simp only [if_neg q1, if_pos q2, if_pos (show A.2.1 t = b + 1 ∨ A.2.2 t = b + 1 from Or.inr q2), ozb_1, ne_eq, b0, not_false_eq_true, decide_true, b01_t]
      exact ⟨m1, m2, m3, rfl, a1, a2, a3⟩
    simp only [if_neg q1, if_neg q2, if_neg (show ¬ (A.2.1 t = b + 1 ∨ A.2.2 t = b + 1) from fun z => z.elim q1 q2)]
    by_cases q3 : A.2.1 t = 0
    · simp only [if_pos q3, b01_t]
      exact ⟨m1, _, m3, rfl, a1, Ec_up a2 rfl (by omega), a3⟩
    simp only [if_neg q3]
    have hn := hon q3
    have e6 : ((m2 t - nI 1) / nI 2 = nI ((b - 1) / 2)) = ((A.2.1 t - 2) / 2 = (b - 1) / 2) := by
      rw [h2.1, half_ec hn (by omega)]
      exact propext (nI_eq (by omega) (by omega))
    have nf : t ≠ (b - 1) / 2 ∨ t = (b - 1) / 2 := by omega
    refine ⟨upd m1 t (m1 ((b - 1) / 2)), m2, upd m3 t (nI b), ?_, Ec_up a1 hf1.1 hf1.2, a2, Ec_up a3 rfl (by omega)⟩
    by_cases q4 : A.2.2 t = 0 <;> by_cases q5 : (A.2.1 t - 2) / 2 = (b - 1) / 2 <;> simp only [e6, q4, q5, if_true, if_false, and_self, and_true, and_false, decide_true, decide_false, ozb_0, ozb_1, b01_t, b01_f]
  · simp only [if_neg k6]
    have e1 : (m1 t = -1) = (A.1 t = 0) := by rw [h1.1]; exact ec_m1 (by omega)
    have e2 : (m1 t = nI b) = (A.1 t = b + 1) := by rw [h1.1]; exact ec_nI (by omega) (by omega)
    refine ⟨upd m1 t (nI b), m2, m3, ?_, Ec_up a1 rfl (by omega), a2, a3⟩
    simp only [e1, e2]
    by_cases q4 : A.1 t = 0
    · simp only [if_true, ozb_1, q4, true_or, decide_true, b01_t]
    · by_cases q5 : A.1 t = b + 1
      · simp only [if_neg q4]
        simp only [if_true, ozb_1, q5, or_true, decide_true, b01_t]
      · simp only [if_false, ozb_0, q4, q5, or_self, decide_false, b01_f]
theorem mEnt_other {kd : Nat → Nat} {A : A3} {t b i : Nat} (h : i ≠ t) : (mEnt kd A t b).2.1 i = A.1 i := by
  unfold mEnt
  split
  · split
    · rfl
    · split
      · rfl
      · exact up_ne h
  · exact up_ne h
theorem lead_M (hI : Iv K W bd s) {r i : Nat} (hr : r < 4) (hS : SR s r) (hi : i < nt (s 7 r)) {m1 m2 m3 : Nat → Int32} {A : A3} (hA : MA m1 m2 m3 A) (hAi : A.1 i ≠ 0) (hm : mI (nt (s 7 r)) (zk s r) A) :
    ∃ e1 e2 e3, D_M_leads f (nI r) (nI i) (wm s m1 m2 m3) = some (b01 (mLead (zk s r) (zn s r) (zo s r) A i).1, wm s e1 e2 e3) ∧ MA e1 e2 e3 (mLead (zk s r) (zn s r) (zo s r) A i).2 := by
  have m7 := hI.i7 r hr
  have ml := m7.lt
  have k10 := hI.i9 r hr i hi
  have kl := k10.lt
  have i12 : i < 12 := by omega
  have hk : ∀ v, v < 10 → ((wm s m1 m2 m3 9 (12 * r + i) = nI v) = (zk s r i = v)) := fun v hv => by
    show (s 9 (12 * r + i) = nI v) = _
    rw [k10.eq, nI_eq (by omega) (by omega)]
  have ai := hA.1 i i12
  have eai : ∀ {e1 e2 e3 : Nat → Int32} {B : A3}, MA e1 e2 e3 B → B.1 i ≠ 0 → e1 i = nI (B.1 i - 1) := fun {e1 e2 e3 B} hB hn => by
    rw [(hB.1 i i12).1]; unfold ec; rw [if_neg hn]
  have on2 : ∀ {B : A3}, mI (nt (s 7 r)) (zk s r) B → ∀ t, B.2.1 t ≠ 0 → 2 ≤ B.2.1 t := fun {B} hB t ht => (hB.2.2.2.2 t ht).2.1
  unfold D_M_leads mLead
  simp only [pk_mul, nI_add, b_og (show 12 * r + i < 48 by omega) (show 48 < 2 ^ 31 by decide), b_og i12 (show 12 < 2 ^ 31 by decide), hk 9 (by decide), hk 5 (by decide), wm_1, b_oj]
  by_cases k9 : zk s r i = 9
  · simp only [if_pos k9]
    have e1 : (m1 i = 0) = (A.1 i = 1) := by rw [ai.1]; exact ec_nI (b := 0) (by omega) (by omega)
    refine ⟨m1, m2, m3, ?_, hA⟩
    simp only [e1]
    by_cases q : A.1 i = 1
    · simp only [if_true, ozb_1, q, decide_true, b01_t]
    · simp only [if_false, ozb_0, q, decide_false, b01_f]
  simp only [if_neg k9]
  obtain ⟨n1, n2, n3⟩ := hS.nx hi k9
  have n1' : ∀ {e1 e2 e3 : Nat → Int32}, wm s e1 e2 e3 13 (12 * r + i) = nI (zn s r i) := fun {e1 e2 e3} => n1
  by_cases k5 : zk s r i = 5
  · obtain ⟨o1, o3⟩ := hS.ot hi (Or.inl k5)
    have o1' : ∀ {e1 e2 e3 : Nat → Int32}, wm s e1 e2 e3 14 (12 * r + i) = nI (zo s r i) := fun {e1 e2 e3} => o1
    have hj : ∀ t, t < nt (s 7 r) → ((wm s m1 m2 m3 9 (12 * r + t) = nI 6) = (zk s r t = 6)) := fun t ht => by
      have q := hI.i9 r hr t ht
      show (s 9 (12 * r + t) = nI 6) = _
      rw [q.eq, nI_eq (by have := q.lt; omega) (by decide)]
    simp only [if_pos k5, n1', o1', pk_mul, nI_add, b_og (show 12 * r + zn s r i < 48 by omega) (show 48 < 2 ^ 31 by decide), b_og (show 12 * r + zo s r i < 48 by omega) (show 48 < 2 ^ 31 by decide), hj _ n3, hj _ o3]
    by_cases j1 : zk s r (zn s r i) = 6
    · simp only [if_pos j1, j1, true_or, if_true, b_00, ozb_0, b01_f]
      exact ⟨m1, m2, m3, rfl, hA⟩
    by_cases j2 : zk s r (zo s r i) = 6
    · simp only [if_neg j1, if_pos j2, j2, or_true, if_true, b_00, ozb_0, b01_f]
      exact ⟨m1, m2, m3, rfl, hA⟩
    simp only [if_neg j1, if_neg j2, j1, j2, or_self, if_false, b_10]
    rw [show nI (1 + 2 * i) = nI (2 * i + 1) by rw [Nat.add_comm]]
    obtain ⟨e1, e2, e3, w1, w2⟩ := ent_M (f := f) hI hr n3 (show 2 * i + 1 ≤ 24 by omega) hA (on2 hm _)
    rw [w1, b_ob]
    cases hR : (mEnt (zk s r) A (zn s r i) (2 * i + 1)).1 with
    | false =>
      simp only [b01_f, b_00, if_true, ozb_0, Bool.false_eq_true, if_false]
      exact ⟨e1, e2, e3, rfl, w2⟩
    | true =>
      have hm2 := (mEnt_ok (n := nt (s 7 r)) hm (mFk_of hm hi hAi (Or.inl ⟨k5, Or.inl rfl⟩)) hR).1
      obtain ⟨d1, d2, d3, w3, w4⟩ := ent_M (f := f) hI hr o3 (show 2 * i + 2 ≤ 24 by omega) w2 (on2 hm2 _)
      simp only [b01_t, b_10, if_false, if_true, o1']
      rw [show nI (2 + 2 * i) = nI (2 * i + 2) by rw [Nat.add_comm], w3, b_ob]
      refine ⟨d1, d2, d3, ?_, w4⟩
      cases (mEnt (zk s r) (mEnt (zk s r) A (zn s r i) (2 * i + 1)).2 (zo s r i) (2 * i + 2)).1 with
      | false => simp only [b01_f, b_00, if_true, ozb_0]
      | true => simp only [b01_t, b_10, if_false, ozb_1]
  · simp only [if_neg k5, n1', eai hA hAi]
    obtain ⟨e1, e2, e3, w1, w2⟩ := ent_M (f := f) hI hr n3 (show A.1 i - 1 ≤ 24 by omega) hA (on2 hm _)
    rw [w1, b_ob]
    cases hR : (mEnt (zk s r) A (zn s r i) (A.1 i - 1)).1 with
    | false =>
      simp only [b01_f, b_00, if_true, ozb_0, Bool.false_eq_true, if_false]
      exact ⟨e1, e2, e3, rfl, w2⟩
    | true =>
      have hm2 := (mEnt_ok (n := nt (s 7 r)) hm (mFk_of hm hi hAi (Or.inr rfl)) hR).1
      have hoM : ∀ {e1 e2 e3 : Nat → Int32}, D_M_hasOther f (wm s m1 m2 m3 9 (12 * r + i)) (wm s e1 e2 e3) = some (if zk s r i = 5 ∨ zk s r i = 7 ∨ zk s r i = 8 then nI 1 else nI 0, wm s e1 e2 e3) := fun {e1 e2 e3} => ho_M hI hr hi
      have ei : (mEnt (zk s r) A (zn s r i) (A.1 i - 1)).2.1 i = A.1 i := mEnt_other (by omega)
      simp only [b01_t, b_10, if_false, if_true, hoM, b_ob]
      by_cases ko : zk s r i = 7 ∨ zk s r i = 8
      · obtain ⟨o1, o3⟩ := hS.ot hi (Or.inr ko)
        have o1' : ∀ {e1 e2 e3 : Nat → Int32}, wm s e1 e2 e3 14 (12 * r + i) = nI (zo s r i) := fun {e1 e2 e3} => o1
        obtain ⟨d1, d2, d3, w3, w4⟩ := ent_M (f := f) hI hr o3 (show A.1 i - 1 ≤ 24 by omega) w2 (on2 hm2 _)
        simp only [if_pos (show zk s r i = 5 ∨ zk s r i = 7 ∨ zk s r i = 8 from Or.inr ko), if_pos ko, b_10, if_false, o1', wm_1, eai w2 (by rw [ei]; exact hAi), ei]
        rw [w3, b_ob]
        refine ⟨d1, d2, d3, ?_, w4⟩
        cases (mEnt (zk s r) (mEnt (zk s r) A (zn s r i) (A.1 i - 1)).2 (zo s r i) (A.1 i - 1)).1 with
        | false => simp only [b01_f, b_00, if_true, ozb_0]
        | true => simp only [b01_t, b_10, if_false, ozb_1]
      · simp only [if_neg (show ¬ (zk s r i = 5 ∨ zk s r i = 7 ∨ zk s r i = 8) by omega), if_neg ko, b_00, if_true, ozb_1, b01_t]
        exact ⟨e1, e2, e3, rfl, w2⟩
abbrev mg (s : rx_S) (r : Nat) : A3 → Nat → Bool × A3 := mLead (zk s r) (zn s r) (zo s r)
theorem brow_M (hI : Iv K W bd s) {r : Nat} (hr : r < 4) (hS : SR s r) {l3 : Int32} {kk : Int32 → rx_S → Option (Int32 × rx_S)} : ∀ d i k m1 m2 m3 A, i + d = nt (s 7 r) → d < k → MA m1 m2 m3 A → mI (nt (s 7 r)) (zk s r) A →
    ∃ e1 e2 e3, MA e1 e2 e3 (aRow (mg s r) d i A).2 ∧ D_M_branches_81 f (nI r) l3 kk k (nI 1) (nI i) (wm s m1 m2 m3) = kk (b01 (aRow (mg s r) d i A).1) (wm s e1 e2 e3) := by
  have m7 := hI.i7 r hr
  have ml := m7.lt
  have e7 : ∀ {m1 m2 m3 : Nat → Int32}, wm s m1 m2 m3 7 r = nI (nt (s 7 r)) := fun {m1 m2 m3} => m7.eq
  intro d
  induction d with
  | zero =>
    intro i k m1 m2 m3 A hi hk hA hm
    obtain ⟨k, rfl⟩ : ∃ k', k = k' + 1 := ⟨k - 1, by omega⟩
    refine ⟨m1, m2, m3, hA, ?_⟩
    rw [D_M_branches_81, b_og hr (by decide), e7, if_pos (by rw [show i = nt (s 7 r) by omega]; exact Int32.le_refl _)]
    rfl
  | succ d ih =>
    intro i k m1 m2 m3 A hi hk hA hm
    obtain ⟨k, rfl⟩ : ∃ k', k = k' + 1 := ⟨k - 1, by omega⟩
    have ai := hA.1 i (by omega)
    rw [aRow]
    have e0 : (m1 i = -1) = (A.1 i = 0) := by rw [ai.1]; exact ec_m1 (by omega)
    by_cases q : A.1 i = 0
    · rw [if_pos q]
      obtain ⟨e1, e2, e3, w1, w2⟩ := ih (i + 1) k m1 m2 m3 A (by omega) (by omega) hA hm
      refine ⟨e1, e2, e3, w1, ?_⟩
      rw [D_M_branches_81, b_og hr (by decide), e7, if_neg (nI_ge (by omega) (by omega)), if_neg (show ¬ nI 1 = 0 by decide), b_og (by omega) (by decide)]
      simp only [b_oj, wm_1, e0, q, if_true, nI_add]
      exact w2
    · rw [if_neg q]
      obtain ⟨d1, d2, d3, u1, u2⟩ := lead_M (f := f) hI hr hS (show i < nt (s 7 r) by omega) hA q hm
      have ev : D_M_branches_81 f (nI r) l3 kk (k + 1) (nI 1) (nI i) (wm s m1 m2 m3) = if b01 (mg s r A i).1 = 0 then D_M_branches_81 f (nI r) l3 kk k (nI 0) (nI (i + 1)) (wm s d1 d2 d3) else D_M_branches_81 f (nI r) l3 kk k (nI 1) (nI (i + 1)) (wm s d1 d2 d3) := by
        rw [D_M_branches_81, b_og hr (by decide), e7, if_neg (nI_ge (by omega) (by omega)), if_neg (show ¬ nI 1 = 0 by decide), b_og (by omega) (by decide)]
        simp only [b_oj, wm_1, e0, q, if_false, u1, b_ob, nI_add]
      rw [ev]
      cases hg : (mg s r A i).1 with
      | false =>
        simp only [b01_f, b_00, if_true, Bool.false_eq_true, if_false]
        refine ⟨d1, d2, d3, u2, ?_⟩
        obtain ⟨k, rfl⟩ : ∃ k', k = k' + 1 := ⟨k - 1, by omega⟩
        rw [D_M_branches_81, b_og hr (by decide), e7]
        simp only [b_00, if_true, ite_self]
      | true =>
        simp only [b01_t, b_10, if_true, if_false]
        exact ih (i + 1) k d1 d2 d3 _ (by omega) (by omega) u2 (mLead_ok A i (by omega) hm q hg).1
theorem brnd_M (hI : Iv K W bd s) {r : Nat} (hr : r < 4) (hS : SR s r) (hf : 2 ^ 31 ≤ f) {kk : Int32 → rx_S → Option (Int32 × rx_S)} : ∀ d i k m1 m2 m3 A, i + d = nt (s 7 r) + 1 → d < k → MA m1 m2 m3 A → mI (nt (s 7 r)) (zk s r) A →
    ∃ e1 e2 e3, MA e1 e2 e3 (aRnds (mg s r) (nt (s 7 r)) d A).2 ∧ D_M_branches_64 f (nI r) kk k (nI 1) (nI i) (wm s m1 m2 m3) = kk (b01 (aRnds (mg s r) (nt (s 7 r)) d A).1) (wm s e1 e2 e3) := by
  have m7 := hI.i7 r hr
  have ml := m7.lt
  have e7 : ∀ {m1 m2 m3 : Nat → Int32}, wm s m1 m2 m3 7 r = nI (nt (s 7 r)) := fun {m1 m2 m3} => m7.eq
  intro d
  induction d with
  | zero =>
    intro i k m1 m2 m3 A hi hk hA hm
    obtain ⟨k, rfl⟩ : ∃ k', k = k' + 1 := ⟨k - 1, by omega⟩
    refine ⟨m1, m2, m3, hA, ?_⟩
    rw [D_M_branches_64, b_og hr (by decide), e7, if_pos (nI_lt (by omega) (by omega))]
    rfl
  | succ d ih =>
    intro i k m1 m2 m3 A hi hk hA hm
    obtain ⟨k, rfl⟩ : ∃ k', k = k' + 1 := ⟨k - 1, by omega⟩
    obtain ⟨d1, d2, d3, u1, u2⟩ := brow_M (f := f) (l3 := nI i) (kk := fun v17 s18 => D_M_branches_64 f (nI r) kk k v17 (nI i + nI 1) s18) hI hr hS (nt (s 7 r)) 0 f m1 m2 m3 A (by omega) (by omega) hA hm
    have ev : D_M_branches_64 f (nI r) kk (k + 1) (nI 1) (nI i) (wm s m1 m2 m3) = D_M_branches_81 f (nI r) (nI i) (fun v17 s18 => D_M_branches_64 f (nI r) kk k v17 (nI i + nI 1) s18) f (nI 1) (nI 0) (wm s m1 m2 m3) := by
      rw [D_M_branches_64, b_og hr (by decide), e7, if_neg (nI_nlt (by omega) (by omega)), if_neg (show ¬ nI 1 = 0 by decide)]
    rw [aRnds, ev, u2, nI_add]
    cases hg : (aRow (mg s r) (nt (s 7 r)) 0 A).1 with
    | false =>
      simp only [b01_f, Bool.false_eq_true, if_false]
      refine ⟨d1, d2, d3, u1, ?_⟩
      obtain ⟨k, rfl⟩ : ∃ k', k = k' + 1 := ⟨k - 1, by omega⟩
      rw [D_M_branches_64, b_og hr (by decide), e7]
      simp only [b_00, if_true, ite_self]
    | true =>
      simp only [b01_t, if_true]
      exact ih (i + 1) k d1 d2 d3 _ (by omega) (by omega) u1 (aRow_ok mLead_ok mC_ext _ 0 A (by omega) hm hg).1
end BRM
