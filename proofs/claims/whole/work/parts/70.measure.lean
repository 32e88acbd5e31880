/-! measure -/
section MEA
variable {f : Nat} {K : kx} {W : Nat → Nat → Nat} {bd : Nat} {c : cx_S} {s : rx_S}
theorem b_over (h : CRep K c s) (hI : Iv K W bd s) {t : Nat} (ht : t < nt (s 15 0)) : D_B_isOver f (kB K t) c = some (if nt (s 18 t) ≤ 4 then nI 0 else nI 1, c) := by
  obtain ⟨b1, b2, b3, b4, _⟩ := hI.ib t ht
  have e := b4.eq
  have l := b4.lt
  unfold D_B_isOver
  have hb := h.bh t ht
  simp only [b_oc hb.2.1, b_oj, h.b4 t ht]
  rw [e]
  generalize nt (s 18 t) = n at *
  have : n = 0 ∨ n = 1 ∨ n = 2 ∨ n = 3 ∨ n = 4 ∨ n = 5 ∨ n = 6 ∨ n = 7 := by omega
  rcases this with rfl | rfl | rfl | rfl | rfl | rfl | rfl | rfl <;> first | rfl | (simp only [ozb_0, ozb_1]; rfl)
theorem b_stepAt (hI : Iv K W bd s) {t i : Nat} (ht : t < nt (s 15 0)) (hi : i < nt (s 19 t)) : D_M_stepAt f (nI t) (nI i) s = some (nI (12 * nt (s 16 t) + nt (s 23 (8 * t + i))), s) := by
  have t16 := hI.t16 ht
  have b := hI.ib t ht
  have l9 := b.2.2.2.2.1.lt
  have e1 := b.1.eq
  have e2 := (hI.it t ht i hi).1.eq
  unfold D_M_stepAt
  simp only [pk_mul, nI_add, b_og t16 (show 16 < 2 ^ 31 by decide), b_og (show 8 * t + i < 128 by omega) (show 128 < 2 ^ 31 by decide)]
  rw [e1, e2, pk_mul, nI_add, nt_nI (by have := b.1.lt; omega), nt_nI (by have := (hI.it t ht i hi).1.lt; have := (hI.i7 _ b.1.lt).lt; omega)]
theorem inv_told (h : Iv K W bd s) {t i : Nat} {x : Int32} (hx : x = nI 0 ∨ x = nI 1) : Iv K W bd (rx_up s 27 (8 * t + i) x) := by
  refine ⟨⟨h.i3, h.i6, h.i7, h.i8, h.i9, h.i15, h.i31, h.i32, i27_up h.i27 hx⟩, h.iw, h.if, h.ib, fun t2 ht2 i2 hi2 => ?_, h.iu, h.iq, h.il, h.ln⟩
  have q := h.it t2 ht2 i2 hi2
  refine ⟨q.1, q.2.1, fun hb => ?_⟩
  obtain ⟨a, b⟩ := q.2.2 hb
  refine ⟨?_, b⟩
  show rg (rx_up s 27 (8 * t + i) x 27 (8 * t2 + i2)) 2
  by_cases e : 8 * t2 + i2 = 8 * t + i
  · rw [e, up_s]
    rcases hx with rfl | rfl <;> exact rg_of (by decide) (by decide)
  · rw [up_o e]; exact a
theorem note_loop {t name m : Nat} : ∀ d i k c s, CRep K c s → Iv K W bd s → t < nt (s 15 0) → nt (s 19 t) = m → i + d = m → d < k →
    ∃ c2 s2, D_B_noteMeasured_9 f (kB K t) (nI name) k (nI i) c = some (0, c2) ∧ D_M_measure_48 f (nI t) (nI name) k (nI i) s = some (nI 1, s2) ∧ CRep K c2 s2 ∧ Iv K W bd s2 ∧ cN c2 = cN c ∧ cZ c2 = cZ c ∧ s2 31 0 = s 31 0 ∧ s2 30 0 = s 30 0 := by
  intro d
  induction d with
  | zero =>
    intro i k c s h hI ht hm hi hk
    obtain ⟨k, rfl⟩ : ∃ k', k = k' + 1 := ⟨k - 1, by omega⟩
    have b := hI.ib t ht
    have e5 : s 19 t = nI m := by rw [← hm]; exact b.2.2.2.2.1.eq
    have hb := h.bh t ht
    refine ⟨c, s, ?_, ?_, h, hI, rfl, rfl, rfl, rfl⟩
    · rw [D_B_noteMeasured_9, b_oc hb.2.1, h.b5 t ht, e5, if_pos]
      rw [show i = m by omega]; exact Int32.le_refl _
    · rw [D_M_measure_48, b_og (hI.t16 ht) (by decide), e5, if_pos]
      rw [show i = m by omega]; exact Int32.le_refl _
  | succ d ih =>
    intro i k c s h hI ht hm hi hk
    obtain ⟨k, rfl⟩ : ∃ k', k = k' + 1 := ⟨k - 1, by omega⟩
    have b := hI.ib t ht
    have r4 := b.1.lt
    have t16 := hI.t16 ht
    have l9 := b.2.2.2.2.1.lt
    have e5 : s 19 t = nI m := by rw [← hm]; exact b.2.2.2.2.1.eq
    have hin : i < nt (s 19 t) := by omega
    have it := hI.it t ht i hin
    have m13 := (hI.i7 _ r4).lt
    have atl := it.1.lt
    have ate := it.1.eq
    obtain ⟨hb1, hb2, hb3, hb4, hb5, hb6, hb7, hb8, hb9, hb10, hb11⟩ := h.bh t ht
    have hT := h.th t ht i (by omega)
    have hS := h.sh _ r4 _ atl
    have eat : cI c 144 (kT K t i) 0 = nI (nt (s 23 (8 * t + i))) := by rw [h.ta t ht i hin]; exact ate
    have kE : cI c 128 (kS K (nt (s 16 t)) (nt (s 23 (8 * t + i)))) 0 = ka s t i := h.s0 _ r4 _ atl
    have bE := h.s2 _ r4 _ atl
    have kE2 : s 9 (12 * nt (s 16 t) + nt (s 23 (8 * t + i))) = ka s t i := rfl
    rw [D_B_noteMeasured_9, D_M_measure_48]
    simp only [b_oc hb2, h.b5 t ht, e5, if_neg (nI_ge (show i < m by omega) (show m < 2 ^ 31 by omega)), hb3, b_oc (h.fix.hRec _ r4), hb4, b_oa hb8 (show i < 8 by omega) (show 8 < 2 ^ 31 by decide), hT.1, b_oc hT.2, h.fix.stp _ r4, eat, b_oa (h.fix.hStp _ r4) (show nt (s 23 (8 * t + i)) < 12 by omega) (show 12 < 2 ^ 31 by decide), hS.1, b_oc hS.2, b_oj, h.tb t ht i hin, kE, bE, nI_add,
      b_og t16 (show 16 < 2 ^ 31 by decide), b_stepAt hI ht hin, b_ob, pk_mul, b_og (show 8 * t + i < 128 by omega) (show 128 < 2 ^ 31 by decide), b_og (show 12 * nt (s 16 t) + nt (s 23 (8 * t + i)) < 48 by omega) (show 48 < 2 ^ 31 by decide), kE2]
    have go : ∀ c2 x, CRep K c2 (rx_up s 27 (8 * t + i) x) → (x = nI 0 ∨ x = nI 1) → cN c2 = cN c → cZ c2 = cZ c → ∃ c3 s3, D_B_noteMeasured_9 f (kB K t) (nI name) k (nI (i + 1)) c2 = some (0, c3) ∧ D_M_measure_48 f (nI t) (nI name) k (nI (i + 1)) (rx_up s 27 (8 * t + i) x) = some (nI 1, s3) ∧ CRep K c3 s3 ∧ Iv K W bd s3 ∧ cN c3 = cN c ∧ cZ c3 = cZ c ∧ s3 31 0 = s 31 0 ∧ s3 30 0 = s 30 0 := by
      intro c2 x hc hx n1 n2
      obtain ⟨c3, s3, w1, w2, w3, w4, w5, w6, w7, w8⟩ := ih (i + 1) k c2 _ hc (inv_told hI hx) ht hm (by omega) (by omega)
      exact ⟨c3, s3, w1, w2, w3, w4, by rw [w5, n1], by rw [w6, n2], w7, w8⟩
    have bgn := it.2.1
    have bg1 : ¬ s 26 (8 * t + i) = 0 → s 26 (8 * t + i) = nI 1 := by
      intro q
      have e := bgn.eq
      have l := bgn.lt
      rw [e] at q ⊢
      have : nt (s 26 (8 * t + i)) = 0 ∨ nt (s 26 (8 * t + i)) = 1 := by omega
      rcases this with w | w
      · rw [w] at q; exact absurd rfl q
      · rw [w]
    have nb1 : s 26 (8 * t + i) = 0 → s 26 (8 * t + i) ≠ nI 1 := fun q => by rw [q]; decide
    by_cases q4 : ka s t i = nI 4
    · by_cases qn : s 11 (12 * nt (s 16 t) + nt (s 23 (8 * t + i))) = nI name
      · have e0 : (if s 27 (8 * t + i) = 0 then (if ka s t i = nI 4 then if s 11 (12 * nt (s 16 t) + nt (s 23 (8 * t + i))) = nI name then nI 1 else nI 0 else nI 0) else nI 1) = nI 1 := by
          rw [if_pos q4, if_pos qn]; split <;> rfl
        have z : ∀ (J : Int32 → Option (Int32 × rx_S)), (if s 27 (8 * t + i) = 0 then (if ka s t i = nI 4 then if s 11 (12 * nt (s 16 t) + nt (s 23 (8 * t + i))) = nI name then J (nI 1) else J (nI 0) else J (nI 0)) else J (nI 1)) = J (nI 1) := by
          intro J; rw [if_pos q4, if_pos qn]; split <;> rfl
        simp only [if_pos q4, if_pos qn, ozb_1, ite_self]
        by_cases qb : s 26 (8 * t + i) = 0
        · simp only [if_pos qb]
          exact go c _ (p_told2 h ht hin (fun w => absurd w (nb1 qb))) (Or.inr rfl) rfl rfl
        · simp only [if_neg qb]
          exact go _ _ (p_told h ht hin q4) (Or.inr rfl) rfl rfl
      · simp only [if_pos q4, if_neg qn, ite_self]
        by_cases q7 : s 27 (8 * t + i) = 0
        · simp only [if_pos q7, ozb_0]
          exact go c _ (p_told2 h ht hin (fun _ _ => q7.symm)) (Or.inl rfl) rfl rfl
        · simp only [if_neg q7, ozb_1]
          refine go c _ (p_told2 h ht hin (fun w _ => ?_)) (Or.inr rfl) rfl rfl
          have g := (it.2.2 w).1
          have e := g.eq
          have l := g.lt
          rw [e] at q7 ⊢
          have : nt (s 27 (8 * t + i)) = 0 ∨ nt (s 27 (8 * t + i)) = 1 := by omega
          rcases this with w | w
          · rw [w] at q7; exact absurd rfl q7
          · rw [w]
    · simp only [if_neg q4, ite_self]
      by_cases q7 : s 27 (8 * t + i) = 0
      · simp only [if_pos q7, ozb_0]
        exact go c _ (p_told2 h ht hin (fun _ w => absurd w q4)) (Or.inl rfl) rfl rfl
      · simp only [if_neg q7, ozb_1]
        exact go c _ (p_told2 h ht hin (fun _ w => absurd w q4)) (Or.inr rfl) rfl rfl
theorem b_measure (h : St K W bd c s) (hf : 2 ^ 31 ≤ f) (x y v : Int32) : Sim K W bd bd c s (D_H_measure f 2 x y v c) (D_M_measure f x y v s) := by
  obtain ⟨h, hI⟩ := h
  unfold D_H_measure D_M_measure
  have g := hI.i15
  have e3 : cI c 2 2 0 = s 15 0 := h.bn
  rcases bat_cases (f := f) h g x with ⟨t, ht, t16, rfl, e1, e2⟩ | ⟨e1, e2⟩
  · rcases in_cases y (n := 4) (m := 3) rfl (by decide) f with ⟨y, hy, rfl, e4, e5⟩ | ⟨e4, e5⟩
    · obtain ⟨hb1, hb2, hb3, hb4, hb5, hb6, hb7, hb8, hb9, hb10, hb11⟩ := h.bh t ht
      have st := (hI.ib t ht).2.2.2.1
      have sl := st.lt
      simp only [b_oc h.fix.h2, e3, e1, e2 (rx_up s 0 0 (nI 0)) rfl, e4, e5, b_ob, b_oj, b_10, if_false, h.fix.f1, b_oa h.fix.h4 t16 (show 16 < 2 ^ 31 by decide), hb1, b_oc hb2, b_over h hI ht, b_og t16 (show 16 < 2 ^ 31 by decide)]
      by_cases q : nt (s 18 t) ≤ 4
      · have q2 : rx_up s 0 0 (nI 0) 18 t ≤ nI 4 := by
          show s 18 t ≤ nI 4
          rw [st.eq]; exact nI_le q (by decide)
        simp only [if_pos q, if_pos q2, b_00, if_true, b_oc h.fix.h2, h.fix.f1, b_oa h.fix.h4 t16 (show 16 < 2 ^ 31 by decide), hb1, b_oc hb2, D_B_noteMeasured, hb5, b_oa hb9 hy (show 4 < 2 ^ 31 by decide), pk_mul, nI_add, b_og (show 4 * t + y < 64 by omega) (show 64 < 2 ^ 31 by decide)]
        have h9 := (hI.ib t ht).2.2.2.2.1.lt
        obtain ⟨c2, s2, w1, w2, w3, w4, w5, w6, w7, w8⟩ := note_loop (f := f) (K := K) (W := W) (bd := bd) (t := t) (name := y) (m := nt (s 19 t)) (nt (s 19 t)) 0 f (cx_ui c 400 (kB K t + 2) y v) (rx_up (R0 s) 20 (4 * t + y) v) (p_values (s := R0 s) h ht hy) ⟨hI.ir, hI.iw, fun t2 a b => by
            have a : nt (s 15 0) ≤ t2 := a
            have z := hI.if t2 a b
            refine ⟨z.1, z.2.1, fun j hj => ?_, z.2.2.2⟩
            show rx_up (R0 s) 20 (4 * t + y) v 20 (4 * t2 + j) = nI 0
            rw [up_o (by omega)]; exact z.2.2.1 j hj, hI.ib, hI.it, hI.iu, hI.iq, hI.il, hI.ln⟩ ht rfl (by omega) (by omega)
        rw [show nI 0 = nI 0 from rfl] at w1
        simp only [w1, w2, b_ob]
        exact ⟨nI 1, K, W, c2, s2, rfl, rfl, ⟨w3, w4⟩, w8, ⟨by rw [w7]; exact Nat.le_refl _, by rw [w5]; show cN c ≤ _; omega, by rw [w6]; show cZ c ≤ _; omega⟩⟩
      · have q2 : ¬ rx_up s 0 0 (nI 0) 18 t ≤ nI 4 := by
          show ¬ s 18 t ≤ nI 4
          rw [st.eq]; exact nI_ge (by omega) (by omega)
        simp only [if_neg q, if_neg q2, b_10, if_false]
        exact sim_same ⟨h, hI⟩ rfl rfl
    · simp only [b_oc h.fix.h2, e3, e1, e2 (rx_up s 0 0 (nI 0)) rfl, e4, e5, b_ob, b_oj, b_10, b_00, if_false, if_true]
      exact sim_same ⟨h, hI⟩ rfl rfl
  · simp only [b_oc h.fix.h2, e3, e1, e2 (rx_up s 0 0 (nI 0)) rfl, b_ob, b_oj, b_10, b_00, if_false, if_true]
    exact sim_same ⟨h, hI⟩ rfl rfl
end MEA
