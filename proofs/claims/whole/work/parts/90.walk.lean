/-! a token's turn, both sides -/
section WLK
variable {f : Nat} {K : kx} {W : Nat → Nat → Nat} {bd : Nat} {c : cx_S} {s : rx_S}
theorem Mv.tr {K1 K2 : kx} {t : Nat} {c1 c2 : cx_S} {s1 s2 : rx_S} (h : Mv K W bd t c s K1 c1 s1) (g : Mv K1 W bd t c1 s1 K2 c2 s2) : Mv K W bd t c s K2 c2 s2 :=
  ⟨g.1, g.2.1, h.2.2.1.tr g.2.2.1, h.2.2.2.1.tr g.2.2.2.1, h.2.2.2.2.1.tr g.2.2.2.2.1, by rw [g.2.2.2.2.2, h.2.2.2.2.2]⟩
theorem Ps_same {s2 : rx_S} {t : Nat} (h : Fr t s s2) (h19 : s2 19 = s 19) (h23 : s2 23 = s 23) (h21 : s2 21 = s 21) : Ps W s2 t = Ps W s t := by
  have e7 := h.1 7 (by decide)
  have e9 := h.1 9 (by decide)
  have e10 := h.1 10 (by decide)
  have e16 := h.1 16 (by decide)
  unfold Ps kdS xT za zk
  rw [e7, e9, e10, e16, h19, h23, h21]
/-- what a turn leaves -/
def Tn (K : kx) (W : Nat → Nat → Nat) (t i : Nat) (s : rx_S) (K2 : kx) (s2 : rx_S) (j : Nat) : Prop :=
  (s2 18 t = nI 2 ∧ s2 30 0 = s 30 0 ∧ j < nt (s2 19 t) ∧ kT K2 t j = kT K t i ∧ Ps W s2 t + (nt (s2 19 t) - j) ≤ Ps W s t + (nt (s 19 t) - i)) ∨ ((s2 18 t = nI 6 ∨ s2 18 t = nI 7) ∧ s2 19 t = nI 0 ∧ s2 30 0 = nI 1 ∧ j < 8)
abbrev enC (f : Nat) (l1 : Option Nat) : cx_S → Option (Int32 × cx_S) := (fun  (s27 : cx_S) => oc 2 (some 12) s27 fun p28 => ob (D_F_finish f p28 l1 (nI 7) s27) fun x29 s30 => some (0, s30))
theorem walk_0 {t i n : Nat} {s : rx_S} (hn : 0 < n) : D_M_walk_5 f (nI t) n (nI i) (nI 0) s = some (nI i, s) := by
  obtain ⟨n, rfl⟩ : ∃ k', n = k' + 1 := ⟨n - 1, by omega⟩
  rw [D_M_walk_5, b_oj, if_pos (show nI 0 = 0 from rfl)]
theorem walk_x {t i n : Nat} {s : rx_S} (hn : 0 < n) (t16 : t < 16) (h : s 18 t ≠ nI 2) : D_M_walk_5 f (nI t) n (nI i) (nI 1) s = some (nI i, s) := by
  obtain ⟨n, rfl⟩ : ∃ k', n = k' + 1 := ⟨n - 1, by omega⟩
  rw [D_M_walk_5, b_oj, if_neg (by decide), b_og t16 (by decide), if_neg h]
theorem walk_both (hf : 2 ^ 31 ≤ f) (hbd : bd < 2 ^ 31) {t : Nat} : ∀ d K c s i m n1 n2, CRep K c s → Iv K W bd s → t < nt (s 15 0) → s 18 t = nI 2 → i < nt (s 19 t) → s 26 (8 * t + i) = 0 → Ps W s t ≤ d → m + d < 2 ^ 30 → d < n1 → d + 1 < n2 →
    ∃ K2 c2 s2 j, D_F_takeTurn_2 f 12 (some (kB K t)) (some (kT K t i)) (enC f (some (kB K t))) (phC f (some (kB K t)) (some (kT K t i))) n1 (nI m) c = some (0, c2) ∧ D_M_walk_5 f (nI t) n2 (nI i) (nI 1) s = some (nI j, s2) ∧ Mv K W bd t c s K2 c2 s2 ∧ Tn K W t i s K2 s2 j := by
  intro d
  induction d using Nat.strongRecOn with
  | ind d ih =>
    intro K c s i m n1 n2 h hI ht hst hi hb hP hm hn1 hn2
    obtain ⟨n1, rfl⟩ : ∃ k', n1 = k' + 1 := ⟨n1 - 1, by omega⟩
    obtain ⟨n2, rfl⟩ : ∃ k', n2 = k' + 1 := ⟨n2 - 1, by omega⟩
    have t16 := hI.t16 ht
    have b := hI.ib t ht
    have r4 := b.1.lt
    have l9 := b.2.2.2.2.1.lt
    have e19 := b.2.2.2.2.1.eq
    have it := hI.it t ht i hi
    have al := it.1.lt
    have ate := it.1.eq
    have m12 := (hI.i7 _ r4).lt
    have hS := rel_ss hI ht al
    have hT := h.th t ht i (by omega)
    have hstp := h.sh _ r4 _ al
    have k10 := hI.i9 _ r4 _ al
    have kl := k10.lt
    have wg := (hI.iw _ r4 b.2.1).2.2
    obtain ⟨hb1, hb2, hb3, hb4, hb5, hb6, hb7, hb8, hb9, hb10, hb11⟩ := h.bh t ht
    have cE := h.s0 _ r4 _ al
    have aE := h.s1 _ r4 _ al
    have bE := h.s2 _ r4 _ al
    have nE := h.s4 _ r4 _ al
    have oE := h.s5 _ r4 _ al
    have nb : s 26 (8 * t + i) ≠ nI 1 := by rw [hb]; decide
    have fw : ∀ {x y : Nat}, x < 2 ^ 31 → y < 2 ^ 31 → x ≠ y → ¬ nI x = nI y := fun hx hy e z => e ((nI_eq hx hy).mp z)
    have wg1 := wg.1
    have wg2 := wg.2 _ al
    rw [D_F_takeTurn_2, if_neg (nI_ge (by omega) (by omega)), b_oc hb2, hb3, b_oc (h.fix.hRec _ r4), b_oc hT.2, h.fix.stp _ r4, h.ta t ht i hi, ate, b_oa (h.fix.hStp _ r4) (by omega) (by decide), hstp.1, b_oc hstp.2, b_oj, cE, nI_add]
    rw [D_M_walk_5, b_oj, if_neg (show ¬ nI 1 = 0 by decide), b_og t16 (by decide), if_pos hst, b_stepAt hI ht hi, b_ob, b_og (show 12 * nt (s 16 t) + nt (s 23 (8 * t + i)) < 48 by omega) (by decide), b_oj]
    generalize hpp : nt (s 23 (8 * t + i)) = p at *
    generalize hrr : nt (s 16 t) = r at *
    have zkl : zk s r p < 10 := kl
    -- on from a step
    have next : ∀ {K1 : kx} {c1 : cx_S} {s1 : rx_S} {j : Nat}, Nx K W bd t i c s K1 c1 s1 j → ∃ K2 c2 s2 j2, D_F_takeTurn_2 f 12 (some (kB K t)) (some (kT K t i)) (enC f (some (kB K t))) (phC f (some (kB K t)) (some (kT K t i))) n1 (nI (m + 1)) c1 = some (0, c2) ∧ D_M_walk_5 f (nI t) n2 (nI j) (nI 1) s1 = some (nI j2, s2) ∧ Mv K W bd t c s K2 c2 s2 ∧ Tn K W t i s K2 s2 j2 := by
      rintro K1 c1 s1 j ⟨q1, q2, q3, q4, q5, q6, q7, q8⟩
      have e15 : s1 15 = s 15 := q1.2.2.2.2.1.1 15 (by decide)
      have e1 : kB K1 t = kB K t := by rw [q1.2.2.1.2.1]
      obtain ⟨K2, c2, s2, j2, u1, u2, u3, u4⟩ := ih (d - 1) (by omega) K1 c1 s1 j (m + 1) n1 n2 q1.1 q1.2.1 (by rw [e15]; exact ht) q2 q4 q5 (by omega) (by omega) (by omega) (by omega)
      rw [e1, q6] at u1
      refine ⟨K2, c2, s2, j2, u1, u2, q1.tr u3, ?_⟩
      rcases u4 with ⟨x1, x2, x3, x4, x5⟩ | x
      · exact Or.inl ⟨x1, by rw [x2, q3], x3, by rw [x4, q6], by omega⟩
      · exact Or.inr x
    have kcase : zk s r p ≤ 4 ∨ zk s r p = 5 ∨ zk s r p = 6 ∨ zk s r p = 7 ∨ zk s r p = 8 ∨ zk s r p = 9 := by omega
    have k9 : s 9 (12 * r + p) = nI (zk s r p) := k10.eq
    rcases kcase with k0 | k0 | k0 | k0 | k0 | k0
    · -- a phase
      have bb := begin_both (f := f) h hI hf ht hst hi hb (by rw [hpp, hrr]; exact k0)
      rw [hpp, hrr] at bb
      obtain ⟨K2, c2, s2, b1, b2, b3, b4, b5⟩ := bb
      have ne : ∀ x, 5 ≤ x → x < 10 → ¬ s 9 (12 * r + p) = nI x := fun x hx hx2 => by rw [k9]; exact fw (by omega) (by omega) (by omega)
      refine ⟨K2, c2, s2, i, ?_, ?_, b3, ?_⟩
      · rw [if_neg (ne 5 (by omega) (by omega)), if_neg (ne 6 (by omega) (by omega)), if_neg (ne 7 (by omega) (by omega)), if_neg (ne 8 (by omega) (by omega)), if_neg (ne 9 (by omega) (by omega))]
        exact b1
      · simp only [b_oj, eq_false (ne 6 (by omega) (by omega)), eq_false (ne 9 (by omega) (by omega)), eq_true (show s 9 (12 * r + p) ≤ nI 4 by rw [k9]; exact nI_le k0 (by decide)), eq_false (show ¬ nI 4 < s 9 (12 * r + p) by rw [k9]; exact nI_nlt k0 (by decide)), if_true, if_false]
        rw [b2, b_ob]
        exact walk_0 (by omega)
      · rcases b5 with ⟨x1, x2, x3, x4, x5⟩ | ⟨x1, x2, x3⟩
        · exact Or.inl ⟨x1, x2, by rw [x3]; exact hi, by rw [b4], by rw [Ps_same b3.2.2.2.2.1 x3 x4 x5, x3]; exact Nat.le_refl _⟩
        · exact Or.inr ⟨Or.inl x1, x2, x3, by omega⟩
    · -- FORK
      have ke : s 9 (12 * r + p) = nI 5 := by rw [k9, k0]
      have q4 : (s 9 (12 * r + p) ≤ nI 4) = False := eq_false (by rw [ke]; decide)
      have p4 : (nI 4 < s 9 (12 * r + p)) = True := eq_true (by rw [ke]; decide)
      have q5 : (s 9 (12 * r + p) = nI 5) = True := eq_true ke
      have q6 : (s 9 (12 * r + p) = nI 6) = False := eq_false (by rw [ke]; decide)
      have q9 : (s 9 (12 * r + p) = nI 9) = False := eq_false (by rw [ke]; decide)
      have sn := hS.2.2.2.2.2.2.2.1 (by omega)
      have so := hS.2.2.2.2.2.2.2.2.1 (Or.inl k0)
      have ne := sn.1.eq
      have nl : zn s r p < nt (s 7 r) := sn.1.lt
      have oe := so.1.eq
      have ol : zo s r p < nt (s 7 r) := so.1.lt
      have ww := wg2.2.2 k0
      obtain ⟨f1, f2⟩ := nx_fork (K := K) (W := W) (bd := bd) (c := c) (s := s) (t := t) (i := i) (p := p) (q := zn s r p) (o := zo s r p) (m := nt (s 19 t)) h hI ht hst rfl hi hb hpp sn.2 (by rw [hrr]; exact nl) so.2 (by rw [hrr]; exact ol) (by rw [hrr]; exact fun x hx => (wg1 x hx).1) (by rw [hrr]; exact ww)
      have nn := next f2
      have hT1 : cH (cA K c t (nt (s 19 t)) (nI (zo s r p))) (kT K t i) = some (9, 0) := hT.2
      have n132 : cI (cA K c t (nt (s 19 t)) (nI (zo s r p))) 132 (kS K r p) 0 = nI (zn s r p) := nE.trans ne
      have r13 : ∀ y : Int32, rx_up (rx_up (rx_up s 23 (8 * t + nt (s 19 t)) (nI (zo s r p))) 26 (8 * t + nt (s 19 t)) (nI 0)) 19 t y 13 (12 * r + p) = nI (zn s r p) := fun y => ne
      have r19 : rx_up (rx_up s 23 (8 * t + nt (s 19 t)) (nI (zo s r p))) 26 (8 * t + nt (s 19 t)) (nI 0) 19 t + nI 1 = nI (nt (s 19 t) + 1) := by
        show s 19 t + nI 1 = _
        rw [e19, nI_add]
        rw [nt_nI (show nt (s 19 t) < 2 ^ 31 by omega)]
      have oe2 : s 14 (12 * r + p) = nI (zo s r p) := oe
      have j16 : nI 8 * nI t + s 19 t = nI (8 * t + nt (s 19 t)) := by rw [pk_mul, e19, nI_add, nt_nI (show nt (s 19 t) < 2 ^ 31 by omega)]
      rw [if_pos ke, oE, oe2, add_C (m := nt (s 19 t)) h ht e19 f1, b_ob, b_oc (show cH (cA K c t (nt (s 19 t)) (nI (zo s r p))) (kS K r p) = some (8, 0) from hstp.2), b_oc hT1, n132]
      simp only [b_oj, q4, p4, q5, q6, q9, if_true, if_false]
      rw [j16, b_og (show 8 * t + nt (s 19 t) < 128 by omega) (by decide), pk_mul, nI_add, b_og (show 8 * t + i < 128 by omega) (by decide)]
      rw [oe2, r19, r13]
      exact nn
    · -- JOIN
      have ke : s 9 (12 * r + p) = nI 6 := by rw [k9, k0]
      have q4 : (s 9 (12 * r + p) ≤ nI 4) = False := eq_false (by rw [ke]; decide)
      have p4 : (nI 4 < s 9 (12 * r + p)) = True := eq_true (by rw [ke]; decide)
      have q5 : (s 9 (12 * r + p) = nI 5) = False := eq_false (by rw [ke]; decide)
      have q6 : (s 9 (12 * r + p) = nI 6) = True := eq_true ke
      have q9 : (s 9 (12 * r + p) = nI 9) = False := eq_false (by rw [ke]; decide)
      have sn := hS.2.2.2.2.2.2.2.1 (by omega)
      have ne := sn.1.eq
      have nl : zn s r p < nt (s 7 r) := sn.1.lt
      have ww := wg2.2.1 k0
      have ne2 : s 13 (12 * r + p) = nI (zn s r p) := ne
      rw [if_neg (show ¬ s 9 (12 * r + p) = nI 5 by rw [ke]; decide), if_pos ke, if_pos ke]
      have fb := fellow_both (f := f) (k49 := (fun  (s7 : cx_S) => some (none, s7))) (k36 := (fun (v8 : Int32) (s9 : cx_S) => oc 1 (some (kB K t)) s9 fun p10 => oa 408 (cR s9 22 p10 0) v8 s9 fun a11 j12 => some (cR s9 408 a11 j12, s9))) h ht t16 e19 (by omega) hi (nt (s 19 t)) 0 f f (by omega) (by omega) (by omega)
      rcases fb with ⟨g1, g2⟩ | ⟨k, hk, hki, hkp, g1, g2⟩
      · refine ⟨K, c, s, i, ?_, ?_, ⟨h, hI, KS.rfl, Gw.same rfl cq.rfl rfl, Fr.rfl, rfl⟩, Or.inl ⟨hst, rfl, hi, rfl, Nat.le_refl _⟩⟩
        · unfold D_B_findPartner
          rw [g1, b_ob, if_pos rfl]
        · unfold D_M_fellow
          rw [g2, b_ob]
          simp only [b_oj, q4, p4, q5, q6, q9, if_true, if_false]
          rw [if_pos (show nI 0 = 0 from rfl)]
          exact walk_0 (by omega)
      · obtain ⟨c1, s1, v1, v2, v3, v4, v5⟩ := nx_join (f := f) (q := zn s r p) h hI hf hbd ht hst rfl hi hk hki hkp hb hpp sn.2 (by rw [hrr]; exact nl) (by rw [hrr]; exact (wg1 p al).1) (by rw [hrr]; exact ww)
        have nn := next v5
        have hTk := h.th t ht k (by omega)
        have jx : (if nI i ≤ nI k then nI i else nI i - nI 1) = nI (if i < k then i else i - 1) := by
          by_cases z : i < k
          · rw [if_pos z, if_pos (nI_le (by omega) (by omega))]
          · rw [if_neg z, if_neg (nI_ge (by omega) (by omega)), nI_sub (by omega)]
        have jy : ∀ {β : Type} (g : Int32 → β), (if nI i ≤ nI k then g (nI i) else g (nI i - nI 1)) = g (nI (if i < k then i else i - 1)) := fun g => by
          rw [← jx]; split <;> rfl
        unfold D_B_findPartner
        rw [g1, b_oc hb2, hb4, b_oa hb8 (show k < 8 by omega) (by decide), hTk.1, b_ob, if_neg (by intro z; cases z), b_oc hb2, v1, b_ob, b_oc (by rw [v2]; exact hstp.2), b_oc (by rw [v2]; exact hT.2), v3, nE, ne2]
        unfold D_M_fellow
        rw [g2, b_ob]
        simp only [b_oj, q4, p4, q5, q6, q9, if_true, if_false]
        rw [if_neg (nI_m1 (by omega)), if_neg (show ¬ nI 1 = 0 by decide), pk_mul, nI_add, b_og (show 8 * t + i < 128 by omega) (by decide), ne2, v4, b_ob]
        rw [jy (fun x => D_M_walk_5 f (nI t) n2 x (nI 1) s1)]
        exact nn
    · -- CHOICE
      have ke : s 9 (12 * r + p) = nI 7 := by rw [k9, k0]
      have q4 : (s 9 (12 * r + p) ≤ nI 4) = False := eq_false (by rw [ke]; decide)
      have p4 : (nI 4 < s 9 (12 * r + p)) = True := eq_true (by rw [ke]; decide)
      have q5 : (s 9 (12 * r + p) = nI 5) = False := eq_false (by rw [ke]; decide)
      have q6 : (s 9 (12 * r + p) = nI 6) = False := eq_false (by rw [ke]; decide)
      have q9 : (s 9 (12 * r + p) = nI 9) = False := eq_false (by rw [ke]; decide)
      have sn := hS.2.2.2.2.2.2.2.1 (by omega)
      have so := hS.2.2.2.2.2.2.2.2.1 (Or.inr k0)
      have sa := hS.2.2.2.2.2.1 k0
      have ne2 : s 13 (12 * r + p) = nI (zn s r p) := sn.1.eq
      have nl : zn s r p < nt (s 7 r) := sn.1.lt
      have oe2 : s 14 (12 * r + p) = nI (zo s r p) := so.1.eq
      have ol : zo s r p < nt (s 7 r) := so.1.lt
      have ae2 : s 10 (12 * r + p) = nI (za s r p) := sa.eq
      have al4 : za s r p < 4 := sa.lt
      have ww := wg2.1 (by omega) (by omega)
      have vE := h.bv t ht (za s r p) al4
      rw [if_neg (show ¬ s 9 (12 * r + p) = nI 5 by rw [ke]; decide), if_neg (show ¬ s 9 (12 * r + p) = nI 6 by rw [ke]; decide), if_pos ke, hb5, aE, ae2, b_oa hb9 al4 (by decide), b_oj, bE, vE, oE, nE, oe2, ne2]
      simp only [b_oj, q4, p4, q5, q6, q9, if_true, if_false]
      have go : ∀ q, p < q → q < nt (s 7 r) → W r q ≤ W r p → ∃ K2 c2 s2 j, D_F_takeTurn_2 f 12 (some (kB K t)) (some (kT K t i)) (enC f (some (kB K t))) (phC f (some (kB K t)) (some (kT K t i))) n1 (nI (m + 1)) (cx_ui c 144 (kT K t i) 0 (nI q)) = some (0, c2) ∧ D_M_walk_5 f (nI t) n2 (nI i) (nI 1) (rx_up s 23 (8 * t + i) (nI q)) = some (nI j, s2) ∧ Mv K W bd t c s K2 c2 s2 ∧ Tn K W t i s K2 s2 j := by
        intro q q1 q2 q3
        have e : sL s t i p q (s 21 (12 * t + p)) = rx_up s 23 (8 * t + i) (nI q) := by unfold sL; rw [up_id rfl]
        have i2 := inv_go (x := s 21 (12 * t + p)) hI ht hst hi hb hpp (by rw [hrr]; exact q2) (by rw [hrr]; exact q3) (fun z => by rw [hrr] at z; omega)
        have pf := Ps_fwd (x := s 21 (12 * t + p)) hI ht hi hpp q1 (by rw [hrr]; exact q2) (by rw [hrr]; exact q3) (Or.inl rfl)
        rw [hrr] at pf
        have w1 := (wg1 p al).1
        have nx := nx_go (c := c) (c2 := cx_ui c 144 (kT K t i) 0 (nI q)) hI (by rw [e]; exact p_at h ht hi nb) i2 rfl ⟨rfl, rfl⟩ hst hi hb (by omega)
        rw [e] at nx
        exact next nx
      have wm : D_M_way f (nI t) (nI (12 * r + p)) s = some (if s 11 (12 * r + p) ≤ s 20 (4 * t + za s r p) then nI (zo s r p) else nI (zn s r p), s) := by
        unfold D_M_way
        rw [b_og t16 (by decide), b_og (show 12 * r + p < 48 by omega) (by decide), if_pos ke, ae2, pk_mul, nI_add, b_og (show 4 * t + za s r p < 64 by omega) (by decide), b_oj, oe2, ne2]
        split <;> rfl
      rw [wm, b_ob, pk_mul, nI_add, b_og (show 8 * t + i < 128 by omega) (by decide)]
      by_cases z : s 11 (12 * r + p) ≤ s 20 (4 * t + za s r p)
      · rw [if_pos z, if_pos z]
        exact go _ so.2 ol (ww _ (Or.inr ⟨Or.inr (Or.inl k0), rfl⟩))
      · rw [if_neg z, if_neg z]
        exact go _ sn.2 nl (ww _ (Or.inl ⟨by omega, rfl⟩))
    · -- LOOP
      have ke : s 9 (12 * r + p) = nI 8 := by rw [k9, k0]
      have q4 : (s 9 (12 * r + p) ≤ nI 4) = False := eq_false (by rw [ke]; decide)
      have p4 : (nI 4 < s 9 (12 * r + p)) = True := eq_true (by rw [ke]; decide)
      have q5 : (s 9 (12 * r + p) = nI 5) = False := eq_false (by rw [ke]; decide)
      have q6 : (s 9 (12 * r + p) = nI 6) = False := eq_false (by rw [ke]; decide)
      have q9 : (s 9 (12 * r + p) = nI 9) = False := eq_false (by rw [ke]; decide)
      have sn := hS.2.2.2.2.2.2.2.1 (by omega)
      have so := hS.2.2.2.2.2.2.2.2.2 k0
      have sa := (hS.2.2.2.2.2.2.1 k0).1
      have ne2 : s 13 (12 * r + p) = nI (zn s r p) := sn.1.eq
      have nl : zn s r p < nt (s 7 r) := sn.1.lt
      have oe2 : s 14 (12 * r + p) = nI (zo s r p) := so.1.eq
      have ol : zo s r p < nt (s 7 r) := so.1.lt
      have ae2 : s 10 (12 * r + p) = nI (za s r p) := sa.eq
      have al6 : za s r p < 6 := sa.lt
      have ww := wg2.1 (by omega) (by omega)
      have hl : rg (s 21 (12 * t + p)) (za s r p + 1) := by
        have z := b.2.2.2.2.2.2.2.2.1 p (by rw [hrr]; exact al) (by rw [hrr]; exact k0)
        rw [hrr] at z; exact z
      have le := hl.eq
      have ll := hl.lt
      have lE := h.br t ht p (by omega)
      have w1 := (wg1 p al).1
      have cr : D_B_countRound f (kB K t) (nI p) (some (kS K r p)) c = if za s r p ≤ nt (s 21 (12 * t + p)) then some (nI (zn s r p), cx_ui c 400 (kB K t + 3) p (nI 0)) else some (nI (zo s r p), cx_ui c 400 (kB K t + 3) p (nI (nt (s 21 (12 * t + p)) + 1))) := by
        unfold D_B_countRound
        rw [b_oc hb2, hb6, b_oa hb10 (by omega) (by decide), b_oc hstp.2, aE, ae2, lE, le, nI_add]
        rw [show ∀ y : Int32, cI (cx_ui c 400 (kB K t + 3) p y) 132 (kS K r p) 0 = nI (zn s r p) from fun y => nE.trans ne2, show ∀ y : Int32, cI (cx_ui c 400 (kB K t + 3) p y) 133 (kS K r p) 0 = nI (zo s r p) from fun y => oE.trans oe2]
        by_cases z : za s r p ≤ nt (s 21 (12 * t + p))
        · rw [if_pos (nI_le z (by omega)), nt_nI (by omega), if_pos z]
        · rw [if_neg (nI_ge (by omega) (by omega)), nt_nI (by omega), if_neg z]
      have wm : D_M_way f (nI t) (nI (12 * r + p)) s = if za s r p ≤ nt (s 21 (12 * t + p)) then some (nI (zn s r p), rx_up s 21 (12 * t + p) (nI 0)) else some (nI (zo s r p), rx_up s 21 (12 * t + p) (nI (nt (s 21 (12 * t + p)) + 1))) := by
        have e16 : s 16 t = nI r := by rw [b.1.eq, hrr]
        unfold D_M_way
        rw [b_og t16 (by decide), b_og (show 12 * r + p < 48 by omega) (by decide), if_neg (show ¬ s 9 (12 * r + p) = nI 7 by rw [ke]; decide), e16, pk_mul, pk_mul, nI_sub (by omega), nI_add, show 12 * t + (12 * r + p - 12 * r) = 12 * t + p by omega, b_og (show 12 * t + p < 192 by omega) (by decide)]
        simp only [b_oj]
        have r10 : ∀ y : Int32, rx_up s 21 (12 * t + p) y 10 (12 * r + p) = nI (za s r p) := fun y => ae2
        have r13 : ∀ y : Int32, rx_up s 21 (12 * t + p) y 13 (12 * r + p) = nI (zn s r p) := fun y => ne2
        have r14 : ∀ y : Int32, rx_up s 21 (12 * t + p) y 14 (12 * r + p) = nI (zo s r p) := fun y => oe2
        rw [ae2]
        simp only [r10, r13, r14]
        by_cases z : za s r p ≤ nt (s 21 (12 * t + p))
        · rw [le, if_pos (nI_le z (by omega)), if_pos (nI_le z (by omega)), nt_nI (by omega), if_pos z]
        · rw [le, if_neg (nI_ge (by omega) (by omega)), if_neg (nI_ge (by omega) (by omega)), nt_nI (by omega), if_neg z, nI_add]
      rw [if_neg (show ¬ s 9 (12 * r + p) = nI 5 by rw [ke]; decide), if_neg (show ¬ s 9 (12 * r + p) = nI 6 by rw [ke]; decide), if_neg (show ¬ s 9 (12 * r + p) = nI 7 by rw [ke]; decide), if_pos ke]
      rw [cr]
      simp only [b_oj, q4, p4, q5, q6, q9, if_true, if_false]
      rw [wm]
      have hx2 : ∀ q x, CRep K (cx_ui (cx_ui c 400 (kB K t + 3) p x) 144 (kT K t i) 0 (nI q)) (sL s t i p q x) := fun q x => p_at (s := rx_up s 21 (12 * t + p) x) (p_rounds h ht (show p < 12 by omega)) ht hi nb
      have cq3 : ∀ {q : Nat} x, cq (cx_ui (cx_ui c 400 (kB K t + 3) p x) 144 (kT K t i) 0 (nI q)) c := fun {q} x => ⟨rfl, by
        have kb := h.bg.1 t ht
        funext g
        show cI (cx_ui c 400 (kB K t + 3) p x) 400 21 g = _
        rw [ui_o (by omega)]⟩
      by_cases z : za s r p ≤ nt (s 21 (12 * t + p))
      · rw [if_pos z, if_pos z, b_ob, b_ob, b_oc (show cH (cx_ui c 400 (kB K t + 3) p (nI 0)) (kT K t i) = some (9, 0) from hT.2), pk_mul, nI_add, b_og (show 8 * t + i < 128 by omega) (by decide)]
        have i2 := inv_go (x := nI 0) (q := zn s r p) hI ht hst hi hb hpp (by rw [hrr]; exact nl) (by rw [hrr]; exact ww _ (Or.inl ⟨by omega, rfl⟩)) (fun _ => by rw [hrr]; exact rg_of (by omega) (by omega))
        have pf := Ps_fwd (x := nI 0) hI ht hi hpp sn.2 (by rw [hrr]; exact nl) (by rw [hrr]; exact ww _ (Or.inl ⟨by omega, rfl⟩)) (Or.inr (Or.inr (by rw [hrr]; omega)))
        rw [hrr] at pf
        exact next (nx_go (c := c) hI (hx2 _ _) i2 rfl (cq3 _) hst hi hb (by omega))
      · rw [if_neg z, if_neg z, b_ob, b_ob, b_oc (show cH (cx_ui c 400 (kB K t + 3) p _) (kT K t i) = some (9, 0) from hT.2), pk_mul, nI_add, b_og (show 8 * t + i < 128 by omega) (by decide)]
        have i2 := inv_go (x := nI (nt (s 21 (12 * t + p)) + 1)) (q := zo s r p) hI ht hst hi hb hpp (by rw [hrr]; exact ol) (by rw [hrr]; exact ww _ (Or.inr ⟨Or.inr (Or.inr k0), rfl⟩)) (fun _ => by rw [hrr]; exact rg_of (by omega) (by omega))
        have pf := Ps_back hI ht hi hpp so.2 (by rw [hrr]; exact al) (by rw [hrr]; exact ww _ (Or.inr ⟨Or.inr (Or.inr k0), rfl⟩)) (by rw [hrr]; exact w1) (by rw [hrr]; exact k0) (by rw [hrr]; omega)
        exact next (nx_go (c := c) hI (hx2 _ _) i2 rfl (cq3 _) hst hi hb pf)
    · -- END
      have ke : s 9 (12 * r + p) = nI 9 := by rw [k9, k0]
      have q4 : (s 9 (12 * r + p) ≤ nI 4) = False := eq_false (by rw [ke]; decide)
      have p4 : (nI 4 < s 9 (12 * r + p)) = True := eq_true (by rw [ke]; decide)
      have q5 : (s 9 (12 * r + p) = nI 5) = False := eq_false (by rw [ke]; decide)
      have q6 : (s 9 (12 * r + p) = nI 6) = False := eq_false (by rw [ke]; decide)
      have q9 : (s 9 (12 * r + p) = nI 9) = True := eq_true ke
      obtain ⟨c2, s2, w1, w2, w3, w4, w5, w6, w7, w8, w9, w10, w11, w12⟩ := close_both (f := f) h hI hf ht (show s 18 t ≠ nI 0 by rw [hst]; decide) (how := 7) (by decide)
      refine ⟨K, c2, s2, i, ?_, ?_, ⟨w3, w4, KS.rfl, Gw.same w5 w6 w10, w12, w11⟩, Or.inr ⟨Or.inr w7, w8, w9, by omega⟩⟩
      · rw [if_neg (show ¬ s 9 (12 * r + p) = nI 5 by rw [ke]; decide), if_neg (show ¬ s 9 (12 * r + p) = nI 6 by rw [ke]; decide), if_neg (show ¬ s 9 (12 * r + p) = nI 7 by rw [ke]; decide), if_neg (show ¬ s 9 (12 * r + p) = nI 8 by rw [ke]; decide), if_pos ke]
        unfold enC
        rw [b_oc h.fix.h12, w1, b_ob]
      · simp only [b_oj, q4, p4, q5, q6, q9, if_true, if_false]
        rw [w2, b_ob]
        exact walk_x (by omega) t16 (by rw [w7]; decide)
end WLK
