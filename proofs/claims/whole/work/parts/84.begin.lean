/-! a phase begins -/
section BEG
variable {f : Nat} {K : kx} {W : Nat → Nat → Nat} {bd : Nat} {c : cx_S} {s : rx_S}
/-- the roles of a phase, as bits -/
def mR (s : rx_S) (r i : Nat) : Nat := if zk s r i = 2 then 1 <<< za s r i ||| 1 <<< zb s r i else 1 <<< za s r i
theorem bt1 : ∀ a, a < 3 → ∀ q, q < 3 → ((1 <<< a).testBit q = decide (a = q)) ∧ 1 <<< a < 8 := by decide
theorem bt2 : ∀ a, a < 3 → ∀ b, b < 3 → ∀ q, q < 3 → ((1 <<< a ||| 1 <<< b).testBit q = (decide (a = q) || decide (b = q))) ∧ 1 <<< a ||| 1 <<< b < 8 := by decide
theorem bt3 : ∀ x, x < 8 → ∀ y, y < 8 → ((x &&& y = 0) ↔ ∀ q, q < 3 → ¬ (x.testBit q = true ∧ y.testBit q = true)) := by decide
theorem bt4 : ∀ x, x < 8 → ∀ y, y < 8 → ∀ m, m < 8 → (((x ||| y) &&& m = 0) ↔ (x &&& m = 0 ∧ y &&& m = 0)) ∧ x ||| y < 8 := by decide
theorem ib_or : ∀ x, x < 8 → ∀ y, y < 8 → nI x ||| nI y = nI (x ||| y) := by decide
theorem ib_and : ∀ x, x < 8 → ∀ y, y < 8 → (nI x &&& nI y = 0) = (x &&& y = 0) := by decide
theorem ib_shl : ∀ b, b < 3 → nI 1 <<< (nI b &&& 31) = nI (1 <<< b) := by decide
/-- a released recipe's step -/
theorem rel_ss (hI : Iv K W bd s) {t : Nat} (ht : t < nt (s 15 0)) {i : Nat} (hi : i < nt (s 7 (nt (s 16 t)))) : SS s (nt (s 16 t)) i := (hI.iw _ (hI.ib t ht).1.lt (hI.ib t ht).2.1).2.1 i hi
theorem mR_lt {r i : Nat} (h : SS s r i) (hk : zk s r i ≤ 4) : mR s r i < 8 := by
  have a := h.1 hk
  unfold mR
  split
  · next q => exact (bt2 _ a.1.lt _ (h.2.2.2.1 q).1.lt 0 (by decide)).2
  · exact (bt1 _ a.1.lt 0 (by decide)).2
theorem use_C (h : CRep K c s) (hI : Iv K W bd s) {r i q : Nat} (hr : r < 4) (hi : i < nt (s 7 r)) (hS : SS s r i) (hk : zk s r i ≤ 4) (hq : q < 3) : D_S_usesRole f (kS K r i) (nI q) c = some (b01 ((mR s r i).testBit q), c) := by
  have hst := h.sh r hr i hi
  have k10 := hI.i9 r hr i hi
  have a := hS.1 hk
  have al := a.1.lt
  have ea : (s 10 (12 * r + i) = nI q) = (za s r i = q) := by rw [a.1.eq]; exact propext (nI_eq (by omega) (by omega))
  have k4 : ¬ nI 4 < s 9 (12 * r + i) := by rw [k10.eq]; exact nI_nlt hk (by decide)
  have k2 : (s 9 (12 * r + i) = nI 2) = (zk s r i = 2) := by rw [k10.eq]; exact propext (nI_eq (by have := k10.lt; omega) (by decide))
  unfold D_S_usesRole mR
  simp only [b_oc hst.2, b_oj, h.s0 r hr i hi, h.s1 r hr i hi, h.s2 r hr i hi, if_neg k4, ea, k2]
  by_cases q2 : zk s r i = 2
  · have b := (hS.2.2.2.1 q2).1
    have eb : (s 11 (12 * r + i) = nI q) = (zb s r i = q) := by rw [b.eq]; exact propext (nI_eq (by have := b.lt; omega) (by omega))
    simp only [if_pos q2, eb]
    rw [show (1 <<< za s r i ||| 1 <<< zb s r i).testBit q = _ from (bt2 (za s r i) al (zb s r i) b.lt q hq).1]
    by_cases z1 : za s r i = q
    · simp only [if_true, ozb_1, z1, decide_true, Bool.true_or, b01_t]
    · by_cases z2 : zb s r i = q
      · simp only [if_neg z1, if_true, ozb_1, z2, decide_true, Bool.or_true, b01_t]
      · simp only [if_false, ozb_0, z1, z2, decide_false, Bool.or_false, b01_f]
  · simp only [if_neg q2]
    rw [show (1 <<< za s r i).testBit q = _ from (bt1 (za s r i) al q hq).1]
    by_cases z1 : za s r i = q
    · simp only [if_true, ozb_1, z1, decide_true, b01_t]
    · simp only [if_false, ozb_0, z1, decide_false, b01_f]
theorem share_C (h : CRep K c s) (hI : Iv K W bd s) {r i j : Nat} (hr : r < 4) (hi : i < nt (s 7 r)) (hj : j < nt (s 7 r)) (hS : SS s r i) (hS2 : SS s r j) (hk : zk s r i ≤ 4) (hk2 : zk s r j ≤ 4) (hf : 2 ^ 31 ≤ f) : ∃ y, D_B_sharesRole f (some (kS K r i)) (some (kS K r j)) c = some (y, c) ∧ TF y (¬ mR s r i &&& mR s r j = 0) := by
  have m1 := mR_lt hS hk
  have m2 := mR_lt hS2 hk2
  have hst := h.sh r hr i hi
  have hst2 := h.sh r hr j hj
  have key : ∀ d q k, q + d = 3 → d < k → (∀ p, p < q → ¬ ((mR s r i).testBit p = true ∧ (mR s r j).testBit p = true)) → ∃ y, D_B_sharesRole_2 f (some (kS K r i)) (some (kS K r j)) k (nI q) c = some (y, c) ∧ TF y (¬ mR s r i &&& mR s r j = 0) := by
    intro d
    induction d with
    | zero =>
      intro q k hq hk hp
      obtain ⟨k, rfl⟩ : ∃ k', k = k' + 1 := ⟨k - 1, by omega⟩
      have e : q = 3 := by omega
      subst e
      exact ⟨nI 0, by rw [D_B_sharesRole_2, if_pos (Int32.le_refl _)], TF.n (fun z => z ((bt3 _ m1 _ m2).mpr hp))⟩
    | succ d ih =>
      intro q k hq hk hp
      obtain ⟨k, rfl⟩ : ∃ k', k = k' + 1 := ⟨k - 1, by omega⟩
      have u1 := use_C (f := f) (q := q) h hI hr hi hS ‹_› (by omega)
      have u2 := use_C (f := f) (q := q) h hI hr hj hS2 hk2 (by omega)
      have go : ¬ ((mR s r i).testBit q = true ∧ (mR s r j).testBit q = true) → ∃ y, D_B_sharesRole_2 f (some (kS K r i)) (some (kS K r j)) k (nI (q + 1)) c = some (y, c) ∧ TF y (¬ mR s r i &&& mR s r j = 0) := fun z => ih (q + 1) k (by omega) (by omega) (fun p hp2 => by
        by_cases e : p = q
        · rw [e]; exact z
        · exact hp p (by omega))
      rw [D_B_sharesRole_2, if_neg (nI_ge (by omega) (by decide)), b_oc hst.2, u1, b_ob, b_oj]
      cases z1 : (mR s r i).testBit q with
      | false =>
        simp only [b01_f, b_00, if_true, nI_add]
        exact go (fun z => by rw [z1] at z; exact absurd z.1 (by decide))
      | true =>
        simp only [b01_t, b_10, if_false, nI_add]
        rw [b_oc hst2.2, u2, b_ob]
        cases z2 : (mR s r j).testBit q with
        | false =>
          simp only [b01_f, b_00, if_true]
          exact go (fun z => by rw [z2] at z; exact absurd z.2 (by decide))
        | true =>
          simp only [b01_t, b_10, if_false]
          exact ⟨_, rfl, TF.y (fun z => (bt3 _ m1 _ m2).mp z q (by omega) ⟨z1, z2⟩)⟩
  exact key 3 0 f (by omega) (by omega) (fun p hp => by omega)
/-- the roles that begun tokens use -/
def tkn (s : rx_S) (t : Nat) : Nat → Nat
  | 0 => 0
  | n + 1 => tkn s t n ||| if s 26 (8 * t + n) = 0 then 0 else mR s (nt (s 16 t)) (nt (s 23 (8 * t + n)))
theorem begun_k (hI : Iv K W bd s) {t i : Nat} (ht : t < nt (s 15 0)) (hi : i < nt (s 19 t)) (hb : ¬ s 26 (8 * t + i) = 0) : zk s (nt (s 16 t)) (nt (s 23 (8 * t + i))) ≤ 4 ∧ s 26 (8 * t + i) = nI 1 := by
  have it := hI.it t ht i hi
  have e := it.2.1.eq
  have l := it.2.1.lt
  have e1 : s 26 (8 * t + i) = nI 1 := by
    rw [e] at hb ⊢
    have : nt (s 26 (8 * t + i)) = 0 ∨ nt (s 26 (8 * t + i)) = 1 := by omega
    rcases this with w | w
    · rw [w] at hb; exact absurd rfl hb
    · rw [w]
  exact ⟨(it.2.2 e1).2.1, e1⟩
theorem tkn_lt (hI : Iv K W bd s) {t : Nat} (ht : t < nt (s 15 0)) : ∀ n, n ≤ nt (s 19 t) → tkn s t n < 8
  | 0, _ => (by decide : 0 < 8)
  | n + 1, hn => by
    rw [tkn]
    have a := tkn_lt hI ht n (by omega)
    split
    · exact (bt4 _ a 0 (by decide) 0 (by decide)).2
    · next q =>
      have z := begun_k hI ht (show n < nt (s 19 t) by omega) q
      exact (bt4 _ a _ (mR_lt (rel_ss hI ht (hI.it t ht n (by omega)).1.lt) z.1) 0 (by decide)).2
theorem free_C (h : CRep K c s) (hI : Iv K W bd s) {t i : Nat} (ht : t < nt (s 15 0)) (hi : i < nt (s 7 (nt (s 16 t)))) (hk : zk s (nt (s 16 t)) i ≤ 4) (hf : 2 ^ 31 ≤ f) : ∃ y, D_B_hasRolesFree f (kB K t) (some (kS K (nt (s 16 t)) i)) c = some (y, c) ∧ TF y (tkn s t (nt (s 19 t)) &&& mR s (nt (s 16 t)) i = 0) := by
  have b := hI.ib t ht
  have r4 := b.1.lt
  have l9 := b.2.2.2.2.1.lt
  have m12 := (hI.i7 _ r4).lt
  have hS := rel_ss hI ht hi
  have mi := mR_lt hS hk
  obtain ⟨hb1, hb2, hb3, hb4, hb5, hb6, hb7, hb8, hb9, hb10, hb11⟩ := h.bh t ht
  have e5 : cI c 21 (kB K t) 0 = nI (nt (s 19 t)) := by rw [h.b5 t ht]; exact b.2.2.2.2.1.eq
  have key : ∀ d n k, n + d = nt (s 19 t) → d < k → tkn s t n &&& mR s (nt (s 16 t)) i = 0 → ∃ y, D_B_hasRolesFree_2 f (kB K t) (some (kS K (nt (s 16 t)) i)) k (nI n) c = some (y, c) ∧ TF y (tkn s t (nt (s 19 t)) &&& mR s (nt (s 16 t)) i = 0) := by
    intro d
    induction d with
    | zero =>
      intro n k hn hk hp
      obtain ⟨k, rfl⟩ : ∃ k', k = k' + 1 := ⟨k - 1, by omega⟩
      have e : n = nt (s 19 t) := by omega
      rw [e] at hp ⊢
      exact ⟨nI 1, by rw [D_B_hasRolesFree_2, b_oc hb2, e5, if_pos (Int32.le_refl _)], TF.y hp⟩
    | succ d ih =>
      intro n k hn hk hp
      obtain ⟨k, rfl⟩ : ∃ k', k = k' + 1 := ⟨k - 1, by omega⟩
      have hn2 : n < nt (s 19 t) := by omega
      have it := hI.it t ht n hn2
      have al := it.1.lt
      have hT := h.th t ht n (by omega)
      have hst := h.sh _ r4 _ al
      have eat : cI c 144 (kT K t n) 0 = nI (nt (s 23 (8 * t + n))) := by rw [h.ta t ht n hn2]; exact it.1.eq
      have tl := tkn_lt hI ht n (by omega)
      by_cases q : s 26 (8 * t + n) = 0
      · have ev : D_B_hasRolesFree_2 f (kB K t) (some (kS K (nt (s 16 t)) i)) (k + 1) (nI n) c = D_B_hasRolesFree_2 f (kB K t) (some (kS K (nt (s 16 t)) i)) k (nI (n + 1)) c := by
          rw [D_B_hasRolesFree_2, b_oc hb2, e5, if_neg (nI_ge hn2 (by omega)), hb4, b_oa hb8 (by omega) (by decide), hT.1, b_oc hT.2, b_oj, h.tb t ht n hn2, if_pos q, nI_add]
        rw [ev]
        exact ih (n + 1) k (by omega) (by omega) (by rw [tkn, if_pos q]; exact (bt4 _ tl 0 (by decide) _ mi).1.mpr ⟨hp, Nat.zero_and _⟩)
      · have bk := begun_k hI ht hn2 q
        have hS2 := rel_ss hI ht al
        obtain ⟨y, u1, u2⟩ := share_C (f := f) h hI r4 hi al hS hS2 ‹_› bk.1 hf
        have ev : D_B_hasRolesFree_2 f (kB K t) (some (kS K (nt (s 16 t)) i)) (k + 1) (nI n) c = if y = 0 then D_B_hasRolesFree_2 f (kB K t) (some (kS K (nt (s 16 t)) i)) k (nI (n + 1)) c else some (nI 0, c) := by
          rw [D_B_hasRolesFree_2, b_oc hb2, e5, if_neg (nI_ge hn2 (by omega)), hb4, b_oa hb8 (by omega) (by decide), hT.1, b_oc hT.2, b_oj, h.tb t ht n hn2, if_neg q, hb3, b_oc (h.fix.hRec _ r4), h.fix.stp _ r4, eat, b_oa (h.fix.hStp _ r4) (by omega) (by decide), hst.1, u1, b_ob, nI_add]
        rw [ev]
        rcases u2 with ⟨rfl, z⟩ | ⟨rfl, z⟩
        · rw [if_neg (by decide)]
          refine ⟨_, rfl, TF.n (fun w => z ?_)⟩
          have mono : ∀ p, n < p → p ≤ nt (s 19 t) → tkn s t p &&& mR s (nt (s 16 t)) i = 0 → tkn s t (n + 1) &&& mR s (nt (s 16 t)) i = 0 := by
            intro p
            induction p with
            | zero => intro h; omega
            | succ p ihp =>
              intro h1 h2 h3
              by_cases e : p = n
              · rw [e] at h3; exact h3
              · refine ihp (by omega) (by omega) ?_
                rw [tkn] at h3
                refine ((bt4 _ (tkn_lt hI ht p (by omega)) _ ?_ _ mi).1.mp h3).1
                split
                · decide
                · next q2 => exact mR_lt (rel_ss hI ht (hI.it t ht p (by omega)).1.lt) (begun_k hI ht (show p < nt (s 19 t) by omega) q2).1
          have w1 := mono _ hn2 (Nat.le_refl _) w
          rw [tkn, if_neg q] at w1
          have w2 := ((bt4 _ tl _ (mR_lt hS2 bk.1) _ mi).1.mp w1).2
          rw [Nat.and_comm]; exact w2
        · rw [if_pos (show nI 0 = 0 from rfl)]
          refine ih (n + 1) k (by omega) (by omega) ?_
          rw [tkn, if_neg q]
          refine (bt4 _ tl _ (mR_lt hS2 bk.1) _ mi).1.mpr ⟨hp, ?_⟩
          rw [Nat.and_comm]
          exact Decidable.byContradiction z
  exact key (nt (s 19 t)) 0 f (by omega) (by omega) (Nat.zero_and _)
theorem roles_M (hI : Iv K W bd s) {r i : Nat} (hr : r < 4) (hi : i < nt (s 7 r)) (hS : SS s r i) (hk : zk s r i ≤ 4) : D_M_rolesOf f (nI (12 * r + i)) s = some (nI (mR s r i), s) := by
  have k10 := hI.i9 r hr i hi
  have m12 := (hI.i7 r hr).lt
  have a := hS.1 hk
  have al := a.1.lt
  have ae := a.1.eq
  have k2 : (s 9 (12 * r + i) = nI 2) = (zk s r i = 2) := by rw [k10.eq]; exact propext (nI_eq (by have := k10.lt; omega) (by decide))
  unfold D_M_rolesOf mR
  rw [b_og (show 12 * r + i < 48 by omega) (by decide)]
  simp only [b_oj, k2]
  by_cases q2 : zk s r i = 2
  · have b := (hS.2.2.2.1 q2).1
    have be := b.eq
    rw [if_pos q2, if_pos q2, ae, be, ib_shl _ al, ib_shl _ b.lt, ib_or _ (bt1 _ al 0 (by decide)).2 _ (bt1 _ b.lt 0 (by decide)).2]
  · rw [if_neg q2, if_neg q2, ae, ib_shl _ al]
end BEG
