/-! release: branches, the reference -/
section BRM
variable {f : Nat} {K : kx} {W : Nat → Nat → Nat} {bd : Nat} {c : cx_S} {s : rx_S}
/-- the reference with three rows of its own -/
def wm (s : rx_S) (m1 m2 m3 : Nat → Int32) : rx_S := fun k => if k = 41 then m1 else if k = 42 then m2 else if k = 43 then m3 else s k
section WM
variable {m1 m2 m3 : Nat → Int32}
theorem wm_1 : wm s m1 m2 m3 41 = m1 := by
  show (if 41 = 41 then m1 else if 41 = 42 then m2 else if 41 = 43 then m3 else s 41) = m1
  simp
theorem wm_2 : wm s m1 m2 m3 42 = m2 := by
  show (if 42 = 41 then m1 else if 42 = 42 then m2 else if 42 = 43 then m3 else s 42) = m2
  simp
theorem wm_3 : wm s m1 m2 m3 43 = m3 := by
  show (if 43 = 41 then m1 else if 43 = 42 then m2 else if 43 = 43 then m3 else s 43) = m3
  simp
theorem wm_u1 {j : Nat} {v : Int32} : rx_up (wm s m1 m2 m3) 41 j v = wm s (upd m1 j v) m2 m3 := by
  funext k
  unfold rx_up wm
  by_cases e : k = 41
  · rw [if_pos e, if_pos rfl, if_pos e]
  · rw [if_neg e, if_neg e, if_neg e]
theorem wm_u2 {j : Nat} {v : Int32} : rx_up (wm s m1 m2 m3) 42 j v = wm s m1 (upd m2 j v) m3 := by
  funext k
  unfold rx_up wm
  by_cases e : k = 42
  · rw [if_pos e, if_neg (by decide), if_pos rfl, if_neg (by omega), if_pos e]
  · rw [if_neg e, if_neg e, if_neg e]
theorem wm_u3 {j : Nat} {v : Int32} : rx_up (wm s m1 m2 m3) 43 j v = wm s m1 m2 (upd m3 j v) := by
  funext k
  unfold rx_up wm
  by_cases e : k = 43
  · rw [if_pos e, if_neg (by decide), if_neg (by decide), if_pos rfl, if_neg (by omega), if_neg (by omega), if_pos e]
  · rw [if_neg e, if_neg e, if_neg e]
end WM
def MA (m1 m2 m3 : Nat → Int32) (A : A3) : Prop := Ec 12 25 m1 A.1 ∧ Ec 12 25 m2 A.2.1 ∧ Ec 12 25 m3 A.2.2
theorem o_2 {β : Type} {k : Option β} : od (nI 2) k = k := if_neg (by decide)
theorem half_ec {v : Nat} (h : 2 ≤ v) (h2 : v ≤ 100) : (ec v - nI 1) / nI 2 = nI ((v - 2) / 2) := by
  unfold ec
  rw [if_neg (by omega), pk_sub (by omega), pk_div (by omega) (by decide) (by decide)]
  rw [show v - 1 - 1 = v - 2 by omega]
theorem half_nI {b : Nat} (h : 1 ≤ b) (h2 : b ≤ 100) : (nI b - nI 1) / nI 2 = nI ((b - 1) / 2) := by
  rw [pk_sub (by omega), pk_div (by omega) (by decide) (by decide)]
theorem ent_M (hI : Iv K W bd s) {r t b : Nat} (hr : r < 4) (ht : t < nt (s 7 r)) (hb : b ≤ 24) {m1 m2 m3 : Nat → Int32} {A : A3} (hA : MA m1 m2 m3 A) (hon : A.2.1 t ≠ 0 → 2 ≤ A.2.1 t) :
    ∃ e1 e2 e3, D_M_enters f (nI r) (nI t) (nI b) (wm s m1 m2 m3) = some (b01 (mEnt (zk s r) A t b).1, wm s e1 e2 e3) ∧ MA e1 e2 e3 (mEnt (zk s r) A t b).2 := by
  have m7 := hI.i7 r hr
  have ml := m7.lt
  have k10 := hI.i9 r hr t ht
  have t12 : t < 12 := by omega
  have hk : (wm s m1 m2 m3 9 (12 * r + t) = nI 6) = (zk s r t = 6) := by
    show (s 9 (12 * r + t) = nI 6) = _
    rw [k10.eq, nI_eq (by have := k10.lt; omega) (by decide)]
  obtain ⟨a1, a2, a3⟩ := hA
  have h1 := a1 t t12
  have h2 := a2 t t12
  have h3 := a3 t t12
  unfold D_M_enters mEnt
  simp only [pk_mul, nI_add, b_og (show 12 * r + t < 48 by omega) (show 48 < 2 ^ 31 by decide), b_og t12 (show 12 < 2 ^ 31 by decide), hk, wm_1, wm_2, wm_3, wm_u1, wm_u2, wm_u3, o_2, b_oj]
  by_cases k6 : zk s r t = 6
  · simp only [if_pos k6]
    by_cases b0 : b = 0
    · subst b0
      simp only [b_00, if_true, ozb_0, true_or, ne_eq, not_true_eq_false, decide_false, b01_f]
      exact ⟨m1, m2, m3, rfl, a1, a2, a3⟩
    have bn : ¬ nI b = 0 := nI_ne0 (by omega) (by omega)
    have f12 : (b - 1) / 2 < 12 := by omega
    have hf1 := a1 ((b - 1) / 2) f12
    have e2 : (m2 t = nI b) = (A.2.1 t = b + 1) := by rw [h2.1]; exact ec_nI (by omega) (by omega)
    have e3 : (m3 t = nI b) = (A.2.2 t = b + 1) := by rw [h3.1]; exact ec_nI (by omega) (by omega)
    have e4 : (m2 t = -1) = (A.2.1 t = 0) := by rw [h2.1]; exact ec_m1 (by omega)
    have e5 : (m3 t = -1) = (A.2.2 t = 0) := by rw [h3.1]; exact ec_m1 (by omega)
    simp only [if_neg bn, e2, e3, e4, e5, b0, false_or, half_nI (show 1 ≤ b by omega) (show b ≤ 100 by omega), b_og f12 (show 12 < 2 ^ 31 by decide)]
    by_cases q1 : A.2.1 t = b + 1
    · simp only [if_pos q1, if_pos (show A.2.1 t = b + 1 ∨ A.2.2 t = b + 1 from Or.inl q1), ozb_1, ne_eq, b0, not_false_eq_true, decide_true, b01_t]
      exact ⟨m1, m2, m3, rfl, a1, a2, a3⟩
    by_cases q2 : A.2.2 t = b + 1
    · simp only [if_neg q1, if_pos q2, if_pos (show A.2.1 t = b + 1 ∨ A.2.2 t = b + 1 from Or.inr q2), ozb_1, ne_eq, b0, not_false_eq_true, decide_true, b01_t]
      exact ⟨m1, m2, m3, rfl, a1, a2, a3⟩
    simp only [if_neg q1, if_neg q2, if_neg (show ¬ (A.2.1 t = b + 1 ∨ A.2.2 t = b + 1) from fun z => z.elim q1 q2)]
    by_cases q3 : A.2.1 t = 0
    · simp only [if_pos q3, b01_t]
      exact ⟨m1, _, m3, rfl, a1, Ec_up a2 rfl (by omega), a3⟩
    simp only [if_neg q3]
    have hn := hon q3
    have e6 : ((m2 t - nI 1) / nI 2 = nI ((b - 1) / 2)) = ((A.2.1 t - 2) / 2 = (b - 1) / 2) := by
      rw [h2.1, half_ec hn (by omega)]
      exact propext (nI_eq (by omega) (by omega))
    have nf : t ≠ (b - 1) / 2 ∨ t = (b - 1) / 2 := by omega
    refine ⟨upd m1 t (m1 ((b - 1) / 2)), m2, upd m3 t (nI b), ?_, Ec_up a1 hf1.1 hf1.2, a2, Ec_up a3 rfl (by omega)⟩
    by_cases q4 : A.2.2 t = 0 <;> by_cases q5 : (A.2.1 t - 2) / 2 = (b - 1) / 2 <;> simp only [e6, q4, q5, if_true, if_false, and_self, and_true, and_false, decide_true, decide_false, ozb_0, ozb_1, b01_t, b01_f]
  · simp only [if_neg k6]
    have e1 : (m1 t = -1) = (A.1 t = 0) := by rw [h1.1]; exact ec_m1 (by omega)
    have e2 : (m1 t = nI b) = (A.1 t = b + 1) := by rw [h1.1]; exact ec_nI (by omega) (by omega)
    refine ⟨upd m1 t (nI b), m2, m3, ?_, Ec_up a1 rfl (by omega), a2, a3⟩
    simp only [e1, e2]
    by_cases q4 : A.1 t = 0
    · simp only [if_true, ozb_1, q4, true_or, decide_true, b01_t]
    · by_cases q5 : A.1 t = b + 1
      · simp only [if_neg q4]
        simp only [if_true, ozb_1, q5, or_true, decide_true, b01_t]
      · simp only [if_false, ozb_0, q4, q5, or_self, decide_false, b01_f]
theorem mEnt_other {kd : Nat → Nat} {A : A3} {t b i : Nat} (h : i ≠ t) : (mEnt kd A t b).2.1 i = A.1 i := by
  unfold mEnt
  split
  · split
    · rfl
    · split
      · rfl
      · exact up_ne h
  · exact up_ne h
theorem lead_M (hI : Iv K W bd s) {r i : Nat} (hr : r < 4) (hS : SR s r) (hi : i < nt (s 7 r)) {m1 m2 m3 : Nat → Int32} {A : A3} (hA : MA m1 m2 m3 A) (hAi : A.1 i ≠ 0) (hm : mI (nt (s 7 r)) (zk s r) A) :
    ∃ e1 e2 e3, D_M_leads f (nI r) (nI i) (wm s m1 m2 m3) = some (b01 (mLead (zk s r) (zn s r) (zo s r) A i).1, wm s e1 e2 e3) ∧ MA e1 e2 e3 (mLead (zk s r) (zn s r) (zo s r) A i).2 := by
  have m7 := hI.i7 r hr
  have ml := m7.lt
  have k10 := hI.i9 r hr i hi
  have kl := k10.lt
  have i12 : i < 12 := by omega
  have hk : ∀ v, v < 10 → ((wm s m1 m2 m3 9 (12 * r + i) = nI v) = (zk s r i = v)) := fun v hv => by
    show (s 9 (12 * r + i) = nI v) = _
    rw [k10.eq, nI_eq (by omega) (by omega)]
  have ai := hA.1 i i12
  have eai : ∀ {e1 e2 e3 : Nat → Int32} {B : A3}, MA e1 e2 e3 B → B.1 i ≠ 0 → e1 i = nI (B.1 i - 1) := fun {e1 e2 e3 B} hB hn => by
    rw [(hB.1 i i12).1]; unfold ec; rw [if_neg hn]
  have on2 : ∀ {B : A3}, mI (nt (s 7 r)) (zk s r) B → ∀ t, B.2.1 t ≠ 0 → 2 ≤ B.2.1 t := fun {B} hB t ht => (hB.2.2.2.2 t ht).2.1
  unfold D_M_leads mLead
  simp only [pk_mul, nI_add, b_og (show 12 * r + i < 48 by omega) (show 48 < 2 ^ 31 by decide), b_og i12 (show 12 < 2 ^ 31 by decide), hk 9 (by decide), hk 5 (by decide), wm_1, b_oj]
  by_cases k9 : zk s r i = 9
  · simp only [if_pos k9]
    have e1 : (m1 i = 0) = (A.1 i = 1) := by rw [ai.1]; exact ec_nI (b := 0) (by omega) (by omega)
    refine ⟨m1, m2, m3, ?_, hA⟩
    simp only [e1]
    by_cases q : A.1 i = 1
    · simp only [if_true, ozb_1, q, decide_true, b01_t]
    · simp only [if_false, ozb_0, q, decide_false, b01_f]
  simp only [if_neg k9]
  obtain ⟨n1, n2, n3⟩ := hS.nx hi k9
  have n1' : ∀ {e1 e2 e3 : Nat → Int32}, wm s e1 e2 e3 13 (12 * r + i) = nI (zn s r i) := fun {e1 e2 e3} => n1
  by_cases k5 : zk s r i = 5
  · obtain ⟨o1, o3⟩ := hS.ot hi (Or.inl k5)
    have o1' : ∀ {e1 e2 e3 : Nat → Int32}, wm s e1 e2 e3 14 (12 * r + i) = nI (zo s r i) := fun {e1 e2 e3} => o1
    have hj : ∀ t, t < nt (s 7 r) → ((wm s m1 m2 m3 9 (12 * r + t) = nI 6) = (zk s r t = 6)) := fun t ht => by
      have q := hI.i9 r hr t ht
      show (s 9 (12 * r + t) = nI 6) = _
      rw [q.eq, nI_eq (by have := q.lt; omega) (by decide)]
    simp only [if_pos k5, n1', o1', pk_mul, nI_add, b_og (show 12 * r + zn s r i < 48 by omega) (show 48 < 2 ^ 31 by decide), b_og (show 12 * r + zo s r i < 48 by omega) (show 48 < 2 ^ 31 by decide), hj _ n3, hj _ o3]
    by_cases j1 : zk s r (zn s r i) = 6
    · simp only [if_pos j1, j1, true_or, if_true, b_00, ozb_0, b01_f]
      exact ⟨m1, m2, m3, rfl, hA⟩
    by_cases j2 : zk s r (zo s r i) = 6
    · simp only [if_neg j1, if_pos j2, j2, or_true, if_true, b_00, ozb_0, b01_f]
      exact ⟨m1, m2, m3, rfl, hA⟩
    simp only [if_neg j1, if_neg j2, j1, j2, or_self, if_false, b_10]
    rw [show nI (1 + 2 * i) = nI (2 * i + 1) by rw [Nat.add_comm]]
    obtain ⟨e1, e2, e3, w1, w2⟩ := ent_M (f := f) hI hr n3 (show 2 * i + 1 ≤ 24 by omega) hA (on2 hm _)
    rw [w1, b_ob]
    cases hR : (mEnt (zk s r) A (zn s r i) (2 * i + 1)).1 with
    | false =>
      simp only [b01_f, b_00, if_true, ozb_0, Bool.false_eq_true, if_false]
      exact ⟨e1, e2, e3, rfl, w2⟩
    | true =>
      have hm2 := (mEnt_ok (n := nt (s 7 r)) hm (mFk_of hm hi hAi (Or.inl ⟨k5, Or.inl rfl⟩)) hR).1
      obtain ⟨d1, d2, d3, w3, w4⟩ := ent_M (f := f) hI hr o3 (show 2 * i + 2 ≤ 24 by omega) w2 (on2 hm2 _)
      simp only [b01_t, b_10, if_false, if_true, o1']
      rw [show nI (2 + 2 * i) = nI (2 * i + 2) by rw [Nat.add_comm], w3, b_ob]
      refine ⟨d1, d2, d3, ?_, w4⟩
      cases (mEnt (zk s r) (mEnt (zk s r) A (zn s r i) (2 * i + 1)).2 (zo s r i) (2 * i + 2)).1 with
      | false => simp only [b01_f, b_00, if_true, ozb_0]
      | true => simp only [b01_t, b_10, if_false, ozb_1]
  · simp only [if_neg k5, n1', eai hA hAi]
    obtain ⟨e1, e2, e3, w1, w2⟩ := ent_M (f := f) hI hr n3 (show A.1 i - 1 ≤ 24 by omega) hA (on2 hm _)
    rw [w1, b_ob]
    cases hR : (mEnt (zk s r) A (zn s r i) (A.1 i - 1)).1 with
    | false =>
      simp only [b01_f, b_00, if_true, ozb_0, Bool.false_eq_true, if_false]
      exact ⟨e1, e2, e3, rfl, w2⟩
    | true =>
      have hm2 := (mEnt_ok (n := nt (s 7 r)) hm (mFk_of hm hi hAi (Or.inr rfl)) hR).1
      have hoM : ∀ {e1 e2 e3 : Nat → Int32}, D_M_hasOther f (wm s m1 m2 m3 9 (12 * r + i)) (wm s e1 e2 e3) = some (if zk s r i = 5 ∨ zk s r i = 7 ∨ zk s r i = 8 then nI 1 else nI 0, wm s e1 e2 e3) := fun {e1 e2 e3} => ho_M hI hr hi
      have ei : (mEnt (zk s r) A (zn s r i) (A.1 i - 1)).2.1 i = A.1 i := mEnt_other (by omega)
      simp only [b01_t, b_10, if_false, if_true, hoM, b_ob]
      by_cases ko : zk s r i = 7 ∨ zk s r i = 8
      · obtain ⟨o1, o3⟩ := hS.ot hi (Or.inr ko)
        have o1' : ∀ {e1 e2 e3 : Nat → Int32}, wm s e1 e2 e3 14 (12 * r + i) = nI (zo s r i) := fun {e1 e2 e3} => o1
        obtain ⟨d1, d2, d3, w3, w4⟩ := ent_M (f := f) hI hr o3 (show A.1 i - 1 ≤ 24 by omega) w2 (on2 hm2 _)
        simp only [if_pos (show zk s r i = 5 ∨ zk s r i = 7 ∨ zk s r i = 8 from Or.inr ko), if_pos ko, b_10, if_false, o1', wm_1, eai w2 (by rw [ei]; exact hAi), ei]
        rw [w3, b_ob]
        refine ⟨d1, d2, d3, ?_, w4⟩
        cases (mEnt (zk s r) (mEnt (zk s r) A (zn s r i) (A.1 i - 1)).2 (zo s r i) (A.1 i - 1)).1 with
        | false => simp only [b01_f, b_00, if_true, ozb_0]
        | true => simp only [b01_t, b_10, if_false, ozb_1]
      · simp only [if_neg (show ¬ (zk s r i = 5 ∨ zk s r i = 7 ∨ zk s r i = 8) by omega), if_neg ko, b_00, if_true, ozb_1, b01_t]
        exact ⟨e1, e2, e3, rfl, w2⟩
abbrev mg (s : rx_S) (r : Nat) : A3 → Nat → Bool × A3 := mLead (zk s r) (zn s r) (zo s r)
theorem brow_M (hI : Iv K W bd s) {r : Nat} (hr : r < 4) (hS : SR s r) {l3 : Int32} {kk : Int32 → rx_S → Option (Int32 × rx_S)} : ∀ d i k m1 m2 m3 A, i + d = nt (s 7 r) → d < k → MA m1 m2 m3 A → mI (nt (s 7 r)) (zk s r) A →
    ∃ e1 e2 e3, MA e1 e2 e3 (aRow (mg s r) d i A).2 ∧ D_M_branches_81 f (nI r) l3 kk k (nI 1) (nI i) (wm s m1 m2 m3) = kk (b01 (aRow (mg s r) d i A).1) (wm s e1 e2 e3) := by
  have m7 := hI.i7 r hr
  have ml := m7.lt
  have e7 : ∀ {m1 m2 m3 : Nat → Int32}, wm s m1 m2 m3 7 r = nI (nt (s 7 r)) := fun {m1 m2 m3} => m7.eq
  intro d
  induction d with
  | zero =>
    intro i k m1 m2 m3 A hi hk hA hm
    obtain ⟨k, rfl⟩ : ∃ k', k = k' + 1 := ⟨k - 1, by omega⟩
    refine ⟨m1, m2, m3, hA, ?_⟩
    rw [D_M_branches_81, b_og hr (by decide), e7, if_pos (by rw [show i = nt (s 7 r) by omega]; exact Int32.le_refl _)]
    rfl
  | succ d ih =>
    intro i k m1 m2 m3 A hi hk hA hm
    obtain ⟨k, rfl⟩ : ∃ k', k = k' + 1 := ⟨k - 1, by omega⟩
    have ai := hA.1 i (by omega)
    rw [aRow]
    have e0 : (m1 i = -1) = (A.1 i = 0) := by rw [ai.1]; exact ec_m1 (by omega)
    by_cases q : A.1 i = 0
    · rw [if_pos q]
      obtain ⟨e1, e2, e3, w1, w2⟩ := ih (i + 1) k m1 m2 m3 A (by omega) (by omega) hA hm
      refine ⟨e1, e2, e3, w1, ?_⟩
      rw [D_M_branches_81, b_og hr (by decide), e7, if_neg (nI_ge (by omega) (by omega)), if_neg (show ¬ nI 1 = 0 by decide), b_og (by omega) (by decide)]
      simp only [b_oj, wm_1, e0, q, if_true, nI_add]
      exact w2
    · rw [if_neg q]
      obtain ⟨d1, d2, d3, u1, u2⟩ := lead_M (f := f) hI hr hS (show i < nt (s 7 r) by omega) hA q hm
      have ev : D_M_branches_81 f (nI r) l3 kk (k + 1) (nI 1) (nI i) (wm s m1 m2 m3) = if b01 (mg s r A i).1 = 0 then D_M_branches_81 f (nI r) l3 kk k (nI 0) (nI (i + 1)) (wm s d1 d2 d3) else D_M_branches_81 f (nI r) l3 kk k (nI 1) (nI (i + 1)) (wm s d1 d2 d3) := by
        rw [D_M_branches_81, b_og hr (by decide), e7, if_neg (nI_ge (by omega) (by omega)), if_neg (show ¬ nI 1 = 0 by decide), b_og (by omega) (by decide)]
        simp only [b_oj, wm_1, e0, q, if_false, u1, b_ob, nI_add]
      rw [ev]
      cases hg : (mg s r A i).1 with
      | false =>
        simp only [b01_f, b_00, if_true, Bool.false_eq_true, if_false]
        refine ⟨d1, d2, d3, u2, ?_⟩
        obtain ⟨k, rfl⟩ : ∃ k', k = k' + 1 := ⟨k - 1, by omega⟩
        rw [D_M_branches_81, b_og hr (by decide), e7]
        simp only [b_00, if_true, ite_self]
      | true =>
        simp only [b01_t, b_10, if_true, if_false]
        exact ih (i + 1) k d1 d2 d3 _ (by omega) (by omega) u2 (mLead_ok A i (by omega) hm q hg).1
theorem brnd_M (hI : Iv K W bd s) {r : Nat} (hr : r < 4) (hS : SR s r) (hf : 2 ^ 31 ≤ f) {kk : Int32 → rx_S → Option (Int32 × rx_S)} : ∀ d i k m1 m2 m3 A, i + d = nt (s 7 r) + 1 → d < k → MA m1 m2 m3 A → mI (nt (s 7 r)) (zk s r) A →
    ∃ e1 e2 e3, MA e1 e2 e3 (aRnds (mg s r) (nt (s 7 r)) d A).2 ∧ D_M_branches_64 f (nI r) kk k (nI 1) (nI i) (wm s m1 m2 m3) = kk (b01 (aRnds (mg s r) (nt (s 7 r)) d A).1) (wm s e1 e2 e3) := by
  have m7 := hI.i7 r hr
  have ml := m7.lt
  have e7 : ∀ {m1 m2 m3 : Nat → Int32}, wm s m1 m2 m3 7 r = nI (nt (s 7 r)) := fun {m1 m2 m3} => m7.eq
  intro d
  induction d with
  | zero =>
    intro i k m1 m2 m3 A hi hk hA hm
    obtain ⟨k, rfl⟩ : ∃ k', k = k' + 1 := ⟨k - 1, by omega⟩
    refine ⟨m1, m2, m3, hA, ?_⟩
    rw [D_M_branches_64, b_og hr (by decide), e7, if_pos (nI_lt (by omega) (by omega))]
    rfl
  | succ d ih =>
    intro i k m1 m2 m3 A hi hk hA hm
    obtain ⟨k, rfl⟩ : ∃ k', k = k' + 1 := ⟨k - 1, by omega⟩
    obtain ⟨d1, d2, d3, u1, u2⟩ := brow_M (f := f) (l3 := nI i) (kk := fun v17 s18 => D_M_branches_64 f (nI r) kk k v17 (nI i + nI 1) s18) hI hr hS (nt (s 7 r)) 0 f m1 m2 m3 A (by omega) (by omega) hA hm
    have ev : D_M_branches_64 f (nI r) kk (k + 1) (nI 1) (nI i) (wm s m1 m2 m3) = D_M_branches_81 f (nI r) (nI i) (fun v17 s18 => D_M_branches_64 f (nI r) kk k v17 (nI i + nI 1) s18) f (nI 1) (nI 0) (wm s m1 m2 m3) := by
      rw [D_M_branches_64, b_og hr (by decide), e7, if_neg (nI_nlt (by omega) (by omega)), if_neg (show ¬ nI 1 = 0 by decide)]
    rw [aRnds, ev, u2, nI_add]
    cases hg : (aRow (mg s r) (nt (s 7 r)) 0 A).1 with
    | false =>
      simp only [b01_f, Bool.false_eq_true, if_false]
      refine ⟨d1, d2, d3, u1, ?_⟩
      obtain ⟨k, rfl⟩ : ∃ k', k = k' + 1 := ⟨k - 1, by omega⟩
      rw [D_M_branches_64, b_og hr (by decide), e7]
      simp only [b_00, if_true, ite_self]
    | true =>
      simp only [b01_t, if_true]
      exact ih (i + 1) k d1 d2 d3 _ (by omega) (by omega) u1 (aRow_ok mLead_ok mC_ext _ 0 A (by omega) hm hg).1
theorem in_0 {r i : Nat} {kk : Int32 → rx_S → Option (Int32 × rx_S)} (hi : i < 2 ^ 31) : ∀ d j k, j + d = i → d < k → D_M_branches_196 f (nI r) (nI i) kk k (nI 0) (nI j) s = kk (nI 0) s := by
  intro d
  induction d with
  | zero =>
    intro j k hj hk
    obtain ⟨k, rfl⟩ : ∃ k', k = k' + 1 := ⟨k - 1, by omega⟩
    rw [D_M_branches_196, if_pos (by rw [show j = i by omega]; exact Int32.le_refl _)]
  | succ d ih =>
    intro j k hj hk
    obtain ⟨k, rfl⟩ : ∃ k', k = k' + 1 := ⟨k - 1, by omega⟩
    rw [D_M_branches_196, if_neg (nI_ge (by omega) hi)]
    simp only [b_oj, b_00, if_true, nI_add]
    exact ih (j + 1) k (by omega) (by omega)
def Qk (A : A3) (i k : Nat) : Prop := A.2.1 i = 0 ∨ A.2.1 k = 0 ∨ (A.2.1 i - 2) / 2 ≠ (A.2.1 k - 2) / 2
theorem in_M {r i : Nat} {kk : Int32 → rx_S → Option (Int32 × rx_S)} {m1 m2 m3 : Nat → Int32} {A : A3} (hA : MA m1 m2 m3 A) (h2 : ∀ t, A.2.1 t ≠ 0 → 2 ≤ A.2.1 t) (hi : i < 12) : ∀ d j k, j + d = i → d < k → (∀ q, q < j → Qk A i q) → ∃ y, D_M_branches_196 f (nI r) (nI i) kk k (nI 1) (nI j) (wm s m1 m2 m3) = kk y (wm s m1 m2 m3) ∧ TF y (∀ q, q < i → Qk A i q) := by
  intro d
  induction d with
  | zero =>
    intro j k hj hk hq
    obtain ⟨k, rfl⟩ : ∃ k', k = k' + 1 := ⟨k - 1, by omega⟩
    refine ⟨nI 1, ?_, TF.y (fun q hq2 => hq q (by omega))⟩
    rw [D_M_branches_196, if_pos (by rw [show j = i by omega]; exact Int32.le_refl _)]
  | succ d ih =>
    intro j k hj hk hq
    obtain ⟨k, rfl⟩ : ∃ k', k = k' + 1 := ⟨k - 1, by omega⟩
    have ai := hA.2.1 i hi
    have aj := hA.2.1 j (by omega)
    have e1 : (m2 i = -1) = (A.2.1 i = 0) := by rw [ai.1]; exact ec_m1 (by omega)
    have e2 : (m2 j = -1) = (A.2.1 j = 0) := by rw [aj.1]; exact ec_m1 (by omega)
    have step : (Qk A i j ∧ D_M_branches_196 f (nI r) (nI i) kk (k + 1) (nI 1) (nI j) (wm s m1 m2 m3) = D_M_branches_196 f (nI r) (nI i) kk k (nI 1) (nI (j + 1)) (wm s m1 m2 m3)) ∨ (¬ Qk A i j ∧ D_M_branches_196 f (nI r) (nI i) kk (k + 1) (nI 1) (nI j) (wm s m1 m2 m3) = D_M_branches_196 f (nI r) (nI i) kk k (nI 0) (nI (j + 1)) (wm s m1 m2 m3)) := by
      rw [D_M_branches_196, if_neg (nI_ge (by omega) (by omega))]
      simp only [b_oj, b_10, if_false, nI_add, b_og hi (show 12 < 2 ^ 31 by decide), b_og (show j < 12 by omega) (show 12 < 2 ^ 31 by decide), wm_2, e1, e2, o_2]
      unfold Qk
      by_cases q1 : A.2.1 i = 0
      · simp only [if_pos q1]
        exact Or.inl ⟨Or.inl q1, trivial⟩
      by_cases q2 : A.2.1 j = 0
      · simp only [if_neg q1, if_pos q2]
        exact Or.inl ⟨Or.inr (Or.inl q2), trivial⟩
      have e3 : ((m2 i - nI 1) / nI 2 = (m2 j - nI 1) / nI 2) = ((A.2.1 i - 2) / 2 = (A.2.1 j - 2) / 2) := by
        rw [ai.1, aj.1, half_ec (h2 i q1) (by omega), half_ec (h2 j q2) (by omega)]
        exact propext (nI_eq (by omega) (by omega))
      simp only [if_neg q1, if_neg q2, e3]
      by_cases q3 : (A.2.1 i - 2) / 2 = (A.2.1 j - 2) / 2
      · simp only [if_pos q3]
        exact Or.inr ⟨fun z => z.elim q1 (fun z => z.elim q2 (fun z => z q3)), trivial⟩
      · simp only [if_neg q3]
        exact Or.inl ⟨Or.inr (Or.inr q3), trivial⟩
    rcases step with ⟨q, ev⟩ | ⟨q, ev⟩
    · rw [ev]
      exact ih (j + 1) k (by omega) (by omega) (fun x hx => by
        by_cases e : x = j
        · rw [e]; exact q
        · exact hq x (by omega))
    · rw [ev, in_0 (by omega) d (j + 1) k (by omega) (by omega)]
      exact ⟨nI 0, rfl, TF.n (fun z => q (z j (by omega)))⟩
theorem fin_0 (hI : Iv K W bd s) {r : Nat} (hr : r < 4) (hf : 2 ^ 31 ≤ f) {m1 m2 m3 : Nat → Int32} : ∀ d i k, i + d = nt (s 7 r) → d < k → D_M_branches_137 f (nI r) k (nI 0) (nI i) (wm s m1 m2 m3) = some (nI 0, wm s m1 m2 m3) := by
  have m7 := hI.i7 r hr
  have ml := m7.lt
  have e7 : ∀ {m1 m2 m3 : Nat → Int32}, wm s m1 m2 m3 7 r = nI (nt (s 7 r)) := fun {m1 m2 m3} => m7.eq
  intro d
  induction d with
  | zero =>
    intro i k hi hk
    obtain ⟨k, rfl⟩ : ∃ k', k = k' + 1 := ⟨k - 1, by omega⟩
    rw [D_M_branches_137, b_og hr (by decide), e7, if_pos (by rw [show i = nt (s 7 r) by omega]; exact Int32.le_refl _), ozb_0]
  | succ d ih =>
    intro i k hi hk
    obtain ⟨k, rfl⟩ : ∃ k', k = k' + 1 := ⟨k - 1, by omega⟩
    have e0 := in_0 (f := f) (s := wm s m1 m2 m3) (r := r) (i := i) (kk := fun v30 s31 => D_M_branches_137 f (nI r) k v30 (nI i + nI 1) s31) (by omega) i 0 f (by omega) (by omega)
    rw [D_M_branches_137, b_og hr (by decide), e7, if_neg (nI_ge (by omega) (by omega))]
    simp only [b_oj, b_00, if_true]
    rw [e0, nI_add]
    exact ih (i + 1) k (by omega) (by omega)
def Pe (kd : Nat → Nat) (A : A3) (i : Nat) : Prop := A.1 i ≠ 0 ∧ (kd i = 6 → A.2.2 i ≠ 0) ∧ ∀ k, k < i → Qk A i k
theorem fin_M (hI : Iv K W bd s) {r : Nat} (hr : r < 4) (hf : 2 ^ 31 ≤ f) {m1 m2 m3 : Nat → Int32} {A : A3} (hA : MA m1 m2 m3 A) (h2 : ∀ t, A.2.1 t ≠ 0 → 2 ≤ A.2.1 t) : ∀ d i k, i + d = nt (s 7 r) → d < k → (∀ q, q < i → Pe (zk s r) A q) → ∃ y, D_M_branches_137 f (nI r) k (nI 1) (nI i) (wm s m1 m2 m3) = some (y, wm s m1 m2 m3) ∧ TF y (∀ q, q < nt (s 7 r) → Pe (zk s r) A q) := by
  have m7 := hI.i7 r hr
  have ml := m7.lt
  have e7 : ∀ {m1 m2 m3 : Nat → Int32}, wm s m1 m2 m3 7 r = nI (nt (s 7 r)) := fun {m1 m2 m3} => m7.eq
  intro d
  induction d with
  | zero =>
    intro i k hi hk hq
    obtain ⟨k, rfl⟩ : ∃ k', k = k' + 1 := ⟨k - 1, by omega⟩
    refine ⟨nI 1, ?_, TF.y (fun q hq2 => hq q (by omega))⟩
    rw [D_M_branches_137, b_og hr (by decide), e7, if_pos (by rw [show i = nt (s 7 r) by omega]; exact Int32.le_refl _), ozb_1]
  | succ d ih =>
    intro i k hi hk hq
    obtain ⟨k, rfl⟩ : ∃ k', k = k' + 1 := ⟨k - 1, by omega⟩
    have hin : i < nt (s 7 r) := by omega
    have k10 := hI.i9 r hr i hin
    have hk6 : (wm s m1 m2 m3 9 (12 * r + i) = nI 6) = (zk s r i = 6) := by
      show (s 9 (12 * r + i) = nI 6) = _
      rw [k10.eq, nI_eq (by have := k10.lt; omega) (by decide)]
    have a1 := hA.1 i (by omega)
    have a3 := hA.2.2 i (by omega)
    have e1 : (m1 i = -1) = (A.1 i = 0) := by rw [a1.1]; exact ec_m1 (by omega)
    have e3 : (m3 i = -1) = (A.2.2 i = 0) := by rw [a3.1]; exact ec_m1 (by omega)
    have e0 := in_0 (f := f) (s := wm s m1 m2 m3) (r := r) (i := i) (kk := fun v30 s31 => D_M_branches_137 f (nI r) k v30 (nI i + nI 1) s31) (by omega) i 0 f (by omega) (by omega)
    obtain ⟨y, e9, t9⟩ := in_M (f := f) (s := s) (r := r) (kk := fun v30 s31 => D_M_branches_137 f (nI r) k v30 (nI i + nI 1) s31) hA h2 (show i < 12 by omega) i 0 f (by omega) (by omega) (fun q hq => by omega)
    have fz := fin_0 (f := f) hI hr hf (m1 := m1) (m2 := m2) (m3 := m3) d (i + 1) k (by omega) (by omega)
    have bad : ¬ Pe (zk s r) A i → D_M_branches_137 f (nI r) (k + 1) (nI 1) (nI i) (wm s m1 m2 m3) = some (nI 0, wm s m1 m2 m3) → ∃ y, D_M_branches_137 f (nI r) (k + 1) (nI 1) (nI i) (wm s m1 m2 m3) = some (y, wm s m1 m2 m3) ∧ TF y (∀ q, q < nt (s 7 r) → Pe (zk s r) A q) := fun q1 q2 => ⟨nI 0, q2, TF.n (fun z => q1 (z i hin))⟩
    have ev : D_M_branches_137 f (nI r) (k + 1) (nI 1) (nI i) (wm s m1 m2 m3) = D_M_branches_196 f (nI r) (nI i) (fun v30 s31 => D_M_branches_137 f (nI r) k v30 (nI i + nI 1) s31) f (if A.1 i = 0 then nI 0 else if zk s r i = 6 then (if A.2.2 i = 0 then nI 0 else nI 1) else nI 1) (nI 0) (wm s m1 m2 m3) := by
      rw [D_M_branches_137, b_og hr (by decide), e7, if_neg (nI_ge (by omega) (by omega))]
      simp only [b_oj, b_10, if_false, b_og (show i < 12 by omega) (show 12 < 2 ^ 31 by decide), pk_mul, nI_add, b_og (show 12 * r + i < 48 by omega) (show 48 < 2 ^ 31 by decide), wm_1, wm_3, e1, e3, hk6]
      by_cases q1 : A.1 i = 0
      · simp only [if_pos q1]
      · by_cases q2 : zk s r i = 6
        · by_cases q3 : A.2.2 i = 0
          · simp only [if_neg q1, if_pos q2, if_pos q3]
          · simp only [if_neg q1, if_pos q2, if_neg q3]
        · simp only [if_neg q1, if_neg q2]
    have e0' : D_M_branches_196 f (nI r) (nI i) (fun v30 s31 => D_M_branches_137 f (nI r) k v30 (nI i + nI 1) s31) f (nI 0) (nI 0) (wm s m1 m2 m3) = some (nI 0, wm s m1 m2 m3) := by
      rw [e0, nI_add]; exact fz
    by_cases q1 : A.1 i = 0
    · rw [if_pos q1, e0'] at ev
      exact bad (fun z => z.1 q1) ev
    by_cases q2 : zk s r i = 6 ∧ A.2.2 i = 0
    · rw [if_neg q1, if_pos q2.1, if_pos q2.2, e0'] at ev
      exact bad (fun z => z.2.1 q2.1 q2.2) ev
    have e1' : (if A.1 i = 0 then nI 0 else if zk s r i = 6 then (if A.2.2 i = 0 then nI 0 else nI 1) else nI 1) = nI 1 := by
      rw [if_neg q1]
      by_cases q3 : zk s r i = 6
      · rw [if_pos q3, if_neg (fun z => q2 ⟨q3, z⟩)]
      · rw [if_neg q3]
    rw [e1', e9, nI_add] at ev
    rcases t9 with ⟨rfl, q9⟩ | ⟨rfl, q9⟩
    · rw [ev]
      exact ih (i + 1) k (by omega) (by omega) (fun q hq2 => by
        by_cases e : q = i
        · rw [e]; exact ⟨q1, fun z w => q2 ⟨z, w⟩, q9⟩
        · exact hq q (by omega))
    · rw [fz] at ev
      exact bad (fun z => q9 z.2.2) ev
theorem wb_M (hI : Iv K W bd s) {r : Nat} (hr : r < 4) (hS : SR s r) (hf : 2 ^ 31 ≤ f) : ∃ y m1 m2 m3, D_M_branches f (nI r) s = some (y, wm s m1 m2 m3) ∧ TF y (mGood (nt (s 7 r)) (zk s r) (zn s r) (zo s r)) ∧ (mGood (nt (s 7 r)) (zk s r) (zn s r) (zo s r) → MA m1 m2 m3 (aRnds (mg s r) (nt (s 7 r)) (nt (s 7 r) + 1) A0).2) := by
  have m7 := hI.i7 r hr
  have ml := m7.lt
  have id3 : wm s (s 41) (s 42) (s 43) = s := by
    funext k
    unfold wm
    split
    · next z => rw [z]
    split
    · next z => rw [z]
    split
    · next z => rw [z]
    rfl
  have ini : ∀ (kk : rx_S → Option (Int32 × rx_S)) d i k m1 m2 m3, i + d = 12 → d < k → (∀ j, j < i → m1 j = -1 ∧ m2 j = -1 ∧ m3 j = -1) → ∃ e1 e2 e3, D_M_branches_2 f (nI r) kk k (nI i) (wm s m1 m2 m3) = kk (wm s e1 e2 e3) ∧ ∀ j, j < 12 → e1 j = -1 ∧ e2 j = -1 ∧ e3 j = -1 := by
    intro kk d
    induction d with
    | zero =>
      intro i k m1 m2 m3 hi hk hg
      obtain ⟨k, rfl⟩ : ∃ k', k = k' + 1 := ⟨k - 1, by omega⟩
      have e : i = 12 := by omega
      subst e
      exact ⟨m1, m2, m3, by rw [D_M_branches_2, if_pos (Int32.le_refl _)], hg⟩
    | succ d ih =>
      intro i k m1 m2 m3 hi hk hg
      obtain ⟨k, rfl⟩ : ∃ k', k = k' + 1 := ⟨k - 1, by omega⟩
      obtain ⟨e1, e2, e3, w1, w2⟩ := ih (i + 1) k (upd m1 i (-1)) (upd m2 i (-1)) (upd m3 i (-1)) (by omega) (by omega) (fun j hj => by
        by_cases e : j = i
        · rw [e, upd_s, upd_s, upd_s]; exact ⟨rfl, rfl, rfl⟩
        · rw [upd_o e, upd_o e, upd_o e]; exact hg j (by omega))
      refine ⟨e1, e2, e3, ?_, w2⟩
      rw [D_M_branches_2, if_neg (nI_ge (by omega) (by decide)), b_og (by omega) (by decide), wm_u1, wm_u2, wm_u3, nI_add]
      exact w1
  obtain ⟨a1, a2, a3, w1, w2⟩ := ini (fun (s2 : rx_S) => og 12 (nI 0) fun j3 => og 48 ((nI 12) * (nI r)) fun j4 => oj (fun (x6 : Int32) => D_M_branches_64 f (nI r) (fun (v19 : Int32) (s20 : rx_S) => D_M_branches_137 f (nI r) f v19 (nI 0) s20) f x6 (nI 0) (rx_up s2 41 j3 (nI 0))) fun J5 => if ((rx_up s2 41 j3 (nI 0)) 9 j4) = (nI 6) then J5 (nI 0) else J5 (nI 1)) 12 0 f (s 41) (s 42) (s 43) (by omega) (by omega) (fun j hj => by omega)
  rw [id3] at w1
  have hA : MA (upd a1 0 (nI 0)) a2 a3 A0 := ⟨Ec_up (x := fun _ => 0) (v := 1) (fun j hj => ⟨(w2 j hj).1, Nat.zero_le _⟩) rfl (by omega), fun j hj => ⟨(w2 j hj).2.1, Nat.zero_le _⟩, fun j hj => ⟨(w2 j hj).2.2, Nat.zero_le _⟩⟩
  have k10 := hI.i9 r hr 0 hS.1
  have hk6 : (wm s (upd a1 0 (nI 0)) a2 a3 9 (12 * r) = nI 6) = (zk s r 0 = 6) := by
    show (s 9 (12 * r + 0) = nI 6) = _
    rw [k10.eq, nI_eq (by have := k10.lt; omega) (by decide)]
  have ev : D_M_branches f (nI r) s = if zk s r 0 = 6 then D_M_branches_64 f (nI r) (fun (v19 : Int32) (s20 : rx_S) => D_M_branches_137 f (nI r) f v19 (nI 0) s20) f (nI 0) (nI 0) (wm s (upd a1 0 (nI 0)) a2 a3) else D_M_branches_64 f (nI r) (fun (v19 : Int32) (s20 : rx_S) => D_M_branches_137 f (nI r) f v19 (nI 0) s20) f (nI 1) (nI 0) (wm s (upd a1 0 (nI 0)) a2 a3) := by
    unfold D_M_branches
    have w1 : D_M_branches_2 f (nI r) _ f (nI 0) s = _ := w1
    rw [w1]
    simp only [b_og (show 0 < 12 by decide) (show 12 < 2 ^ 31 by decide), pk_mul, b_og (show 12 * r < 48 by omega) (show 48 < 2 ^ 31 by decide), b_oj, wm_u1, hk6]
  rw [ev]
  by_cases k6 : zk s r 0 = 6
  · rw [if_pos k6]
    obtain ⟨F, rfl⟩ : ∃ F, f = F + 1 := ⟨f - 1, by omega⟩
    have e7 : wm s (upd a1 0 (nI 0)) a2 a3 7 r = nI (nt (s 7 r)) := m7.eq
    have fz := fin_0 (f := F + 1) hI hr hf (m1 := upd a1 0 (nI 0)) (m2 := a2) (m3 := a3) (nt (s 7 r)) 0 (F + 1) (by omega) (by omega)
    refine ⟨nI 0, upd a1 0 (nI 0), a2, a3, ?_, TF.n (fun z => z.1 k6), fun z => absurd k6 z.1⟩
    rw [D_M_branches_64, b_og hr (by decide), e7, if_neg (nI_nlt (by omega) (by omega)), if_pos (show nI 0 = 0 from rfl)]
    exact fz
  · rw [if_neg k6]
    have hm0 := mI_A0 (n := nt (s 7 r)) k6
    obtain ⟨e1, e2, e3, v1, v2⟩ := brnd_M (f := f) (kk := fun v19 s20 => D_M_branches_137 f (nI r) f v19 (nI 0) s20) hI hr hS hf (nt (s 7 r) + 1) 0 f (upd a1 0 (nI 0)) a2 a3 A0 (by omega) (by omega) hA hm0
    have v2 : D_M_branches_64 f (nI r) _ f (nI 1) (nI 0) (wm s (upd a1 0 (nI 0)) a2 a3) = _ := v2
    rw [v2]
    unfold mGood
    cases hg : (aRnds (mg s r) (nt (s 7 r)) (nt (s 7 r) + 1) A0).1 with
    | false =>
      refine ⟨nI 0, e1, e2, e3, ?_, TF.n (fun z => ?_), fun z => ?_⟩
      · rw [b01_f]
        exact fin_0 hI hr hf (nt (s 7 r)) 0 f (by omega) (by omega)
      · have := z.2.1
        exact absurd this (by decide)
      · have := z.2.1
        exact absurd this (by decide)
    | true =>
      have hm := (aRnds_ok mLead_ok mC_ext mLead_stay (nt (s 7 r) + 1) A0 1 hm0 (Or.inr (cnt_A0 hS.1)) (by omega) hg).1
      obtain ⟨y, u1, u2⟩ := fin_M (f := f) hI hr hf v1 (fun t ht => (hm.2.2.2.2 t ht).2.1) (nt (s 7 r)) 0 f (by omega) (by omega) (fun q hq => by omega)
      refine ⟨y, e1, e2, e3, ?_, u2.iff ⟨fun z => ⟨k6, rfl, z⟩, fun z => z.2.2⟩, fun _ => v1⟩
      rw [b01_t]; exact u1
end BRM
