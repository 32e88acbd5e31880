/-! tools for a token's work -/
section TLS
variable {f : Nat} {K : kx} {W : Nat → Nat → Nat} {bd bd2 : Nat} {c : cx_S} {s s2 : rx_S}
theorem Iv_b (hI : Iv K W bd s) (h1 : bd % 1099511627776 ≤ bd2 % 1099511627776) (h2 : bd / 1099511627776 = bd2 / 1099511627776 ∨ bd / 1099511627776 = 0) : Iv K W bd2 s := by
  refine ⟨hI.ir, hI.iw, hI.if, hI.ib, fun t ht i hi => ?_, hI.iu, Nat.le_trans hI.iq h1, hI.il, hI.ln⟩
  obtain ⟨a, b, d⟩ := hI.it t ht i hi
  refine ⟨a, b, fun z => ?_⟩
  obtain ⟨d1, d2, d3, d4⟩ := d z
  refine ⟨d1, d2, fun y => ⟨(d3 y).1, ?_⟩, d4⟩
  rcases (d3 y).2 with e | e
  · exact Or.inl e
  · rcases h2 with w | w
    · exact Or.inr (by omega)
    · omega
theorem Iv_up (hI : Iv K W bd s) (h1 : bd ≤ bd2) (h2 : bd2 < 1099511627776) : Iv K W bd2 s := Iv_b hI (by omega) (by omega)
theorem inv_24 (hI : Iv K W bd s) {t i : Nat} {x : Int32} (ht : t < nt (s 15 0)) (on : On (s 18 t)) (hx : s 26 (8 * t + i) = nI 1 → ka s t i = nI 1 ∨ ka s t i = nI 3 → rg x 21 ∧ (1 ≤ nt x ∨ bd / 1099511627776 = 8 * t + i + 1)) (hi : i < 8) : Iv K W bd (rx_up s 24 (8 * t + i) x) := by
  have b := hI.ib t ht
  have l9 := b.2.2.2.2.1.lt
  have l16 := hI.t16 ht
  refine Iv_tok (T := kT K) (t := t) hI (fun k hk => ?_) (fun _ _ => rfl) (fun _ _ _ _ => rfl) (fun k hk t2 e j hj => up_o (by omega)) on ht b.2.2.2.2.1 (fun j hj z => b.2.2.2.2.2.2.2.2.1 j hj z) b.2.2.2.2.2.2.2.2.2 (fun j hj => ?_) hI.i27
  · funext j; exact up_k hk.2.2.2.1
  · have hj : j < nt (s 19 t) := hj
    obtain ⟨a1, a2, a3⟩ := hI.it t ht j hj
    by_cases e : j = i
    · subst e
      refine ⟨a1, a2, fun z => ?_⟩
      obtain ⟨d1, d2, d3, d4⟩ := a3 z
      refine ⟨d1, d2, fun y => ?_, d4⟩
      rw [up_s]
      exact hx z y
    · unfold IT
      rw [up_o (k := 24) (j := 8 * t + i) (k2 := 24) (j2 := 8 * t + j) (by omega)]
      exact ⟨a1, a2, a3⟩
theorem inv_done (hI : Iv K W bd s) {t i p q : Nat} (hb : bd / 1099511627776 = 0 ∨ bd / 1099511627776 = 8 * t + i + 1) (ht : t < nt (s 15 0)) (on : On (s 18 t)) (hi : i < nt (s 19 t)) (hp : nt (s 23 (8 * t + i)) = p) (hq : q < nt (s 7 (nt (s 16 t)))) (hW : W (nt (s 16 t)) q ≤ W (nt (s 16 t)) p) : Iv K W (bd % 1099511627776) (rx_up (rx_up s 26 (8 * t + i) (nI 0)) 23 (8 * t + i) (nI q)) := by
  have b := hI.ib t ht
  have l9 := b.2.2.2.2.1.lt
  have l16 := hI.t16 ht
  have m12 := (hI.i7 _ b.1.lt).lt
  have r23 : ∀ j, j < 8 → rx_up (rx_up s 26 (8 * t + i) (nI 0)) 23 (8 * t + i) (nI q) 23 (8 * t + j) = if j = i then nI q else s 23 (8 * t + j) := fun j hj => by
    by_cases e : j = i
    · rw [e, if_pos rfl]; exact up_s
    · rw [if_neg e]; exact up_o (by omega)
  have key : Iv K W bd (rx_up (rx_up s 26 (8 * t + i) (nI 0)) 23 (8 * t + i) (nI q)) := by
    refine Iv_tok (T := kT K) (t := t) hI (fun k hk => ?_) (fun _ _ => rfl) (fun _ _ _ _ => rfl) (fun k hk t2 e j hj => ?_) on ht b.2.2.2.2.1 (fun j hj z => b.2.2.2.2.2.2.2.2.1 j hj z) ?_ (fun j hj => ?_) hI.i27
    · funext j; rw [up_k hk.2.2.1, up_k hk.2.2.2.2.2.1]
    · rw [up_o (by omega), up_o (by omega)]
    · have e := gs_set (g := W (nt (s 16 t))) (x := xT s t) (y := xT (rx_up (rx_up s 26 (8 * t + i) (nI 0)) 23 (8 * t + i) (nI q)) t) hi (fun k hk hki => by
        show nt (rx_up (rx_up s 26 (8 * t + i) (nI 0)) 23 (8 * t + i) (nI q) 23 (8 * t + k)) = _
        rw [r23 k (by omega), if_neg hki])
      have e1 : xT (rx_up (rx_up s 26 (8 * t + i) (nI 0)) 23 (8 * t + i) (nI q)) t i = q := by
        show nt (rx_up (rx_up s 26 (8 * t + i) (nI 0)) 23 (8 * t + i) (nI q) 23 (8 * t + i)) = q
        rw [r23 i (by omega), if_pos rfl, nt_nI (by omega)]
      have e2 : xT s t i = p := hp
      rw [e1, e2] at e
      have := b.2.2.2.2.2.2.2.2.2
      show gs (W (nt (s 16 t))) (xT (rx_up (rx_up s 26 (8 * t + i) (nI 0)) 23 (8 * t + i) (nI q)) t) (nt (s 19 t)) ≤ 8
      have h8 : gs (W (nt (s 16 t))) (xT s t) (nt (s 19 t)) ≤ 8 := this
      omega
    · have hj : j < nt (s 19 t) := hj
      have z := hI.it t ht j hj
      have hr := r23 j (by omega)
      have h26 : rx_up (rx_up s 26 (8 * t + i) (nI 0)) 23 (8 * t + i) (nI q) 26 (8 * t + j) = if j = i then nI 0 else s 26 (8 * t + j) := by
        show rx_up s 26 (8 * t + i) (nI 0) 26 (8 * t + j) = _
        by_cases e : j = i
        · rw [e, if_pos rfl]; exact up_s
        · rw [if_neg e]; exact up_o (by omega)
      by_cases e : j = i
      · rw [if_pos e] at hr h26
        refine ⟨?_, ?_, fun w => ?_⟩
        · rw [hr]; exact rg_of hq (show nt (s 7 (nt (s 16 t))) < 2 ^ 31 by omega)
        · rw [h26]; exact rg_of (by decide) (by decide)
        · rw [h26] at w; exact absurd w (by decide)
      · rw [if_neg e] at hr h26
        have ek : ka (rx_up (rx_up s 26 (8 * t + i) (nI 0)) 23 (8 * t + i) (nI q)) t j = ka s t j := by
          show s 9 (12 * nt (s 16 t) + nt (rx_up (rx_up s 26 (8 * t + i) (nI 0)) 23 (8 * t + i) (nI q) 23 (8 * t + j))) = _
          rw [hr]; rfl
        unfold IT
        rw [hr, ek, h26]; exact z
  refine ⟨key.ir, key.iw, key.if, key.ib, fun t2 ht2 i2 hi2 => ?_, key.iu, by have := key.iq; omega, key.il, key.ln⟩
  have hi3 : i2 < nt (s 19 t2) := hi2
  have l92 := (hI.ib t2 ht2).2.2.2.2.1.lt
  obtain ⟨a, d, g⟩ := key.it t2 ht2 i2 hi2
  refine ⟨a, d, fun z => ?_⟩
  obtain ⟨d1, d2, d3, d4⟩ := g z
  refine ⟨d1, d2, fun y => ⟨(d3 y).1, ?_⟩, d4⟩
  rcases (d3 y).2 with e | e
  · exact Or.inl e
  · have e3 : 8 * t2 + i2 = 8 * t + i := by omega
    rw [e3] at z
    have z : rx_up s 26 (8 * t + i) (nI 0) 26 (8 * t + i) = nI 1 := z
    rw [up_s] at z
    exact absurd z (by decide)
theorem inv_units (hI : Iv K W bd s) (hk : ∀ k, k ≠ 3 → k ≠ 4 → k ≠ 5 → k ≤ 37 → s2 k = s k) (h3 : RN 6 101 (s2 3)) (hU : ∀ u, u < 6 → IU s2 u) (hb : bd / 1099511627776 = bd2 / 1099511627776) (hq : tU s2 0 + tU s2 1 + tU s2 2 + tU s2 3 + tU s2 4 + tU s2 5 ≤ bd2 % 1099511627776) : Iv K W bd2 s2 := by
  have e := fun k a b c d => hk k a b c d
  have e6 := e 6 (by decide) (by decide) (by decide) (by decide)
  have e7 := e 7 (by decide) (by decide) (by decide) (by decide)
  have e8 := e 8 (by decide) (by decide) (by decide) (by decide)
  have e9 := e 9 (by decide) (by decide) (by decide) (by decide)
  have e10 := e 10 (by decide) (by decide) (by decide) (by decide)
  have e11 := e 11 (by decide) (by decide) (by decide) (by decide)
  have e12 := e 12 (by decide) (by decide) (by decide) (by decide)
  have e13 := e 13 (by decide) (by decide) (by decide) (by decide)
  have e14 := e 14 (by decide) (by decide) (by decide) (by decide)
  have e15 := e 15 (by decide) (by decide) (by decide) (by decide)
  have e16 := e 16 (by decide) (by decide) (by decide) (by decide)
  have e17 := e 17 (by decide) (by decide) (by decide) (by decide)
  have e18 := e 18 (by decide) (by decide) (by decide) (by decide)
  have e19 := e 19 (by decide) (by decide) (by decide) (by decide)
  have e20 := e 20 (by decide) (by decide) (by decide) (by decide)
  have e21 := e 21 (by decide) (by decide) (by decide) (by decide)
  have e22 := e 22 (by decide) (by decide) (by decide) (by decide)
  have e23 := e 23 (by decide) (by decide) (by decide) (by decide)
  have e24 := e 24 (by decide) (by decide) (by decide) (by decide)
  have e25 := e 25 (by decide) (by decide) (by decide) (by decide)
  have e26 := e 26 (by decide) (by decide) (by decide) (by decide)
  have e27 := e 27 (by decide) (by decide) (by decide) (by decide)
  have e28 := e 28 (by decide) (by decide) (by decide) (by decide)
  have e29 := e 29 (by decide) (by decide) (by decide) (by decide)
  have e31 := e 31 (by decide) (by decide) (by decide) (by decide)
  have e32 := e 32 (by decide) (by decide) (by decide) (by decide)
  have e35 := e 35 (by decide) (by decide) (by decide) (by decide)
  have e36 := e 36 (by decide) (by decide) (by decide) (by decide)
  refine ⟨by unfold IR; rw [e6, e7, e8, e9, e15, e27, e31, e32]; exact ⟨h3, hI.i6, hI.i7, hI.i8, hI.i9, hI.i15, hI.i31, hI.i32, hI.i27⟩, ?_, ?_, ?_, ?_, hU, hq, ?_, ?_⟩
  · have := hI.iw
    unfold IW SS zk za zb zn zo at this ⊢
    rw [e6, e7, e8, e9, e10, e11, e12, e13, e14]; exact this
  · unfold IF; rw [e15, e18, e19, e20, e21, e22]; exact hI.if
  · have := hI.ib
    unfold IB zk za at this ⊢
    rw [e6, e7, e8, e9, e10, e15, e16, e17, e18, e19, e21, e22, e23]; exact this
  · have := hI.it
    unfold IT ka at this ⊢
    rw [e7, e9, e15, e16, e19, e23, e24, e25, e26, e27, e31, ← hb]; exact this
  · have := hI.il
    unfold IL at this ⊢
    rw [e31, e32, e35, e36]; exact this
  · rw [e15, e18, e28, e29]; exact hI.ln
/-- a token that is no more may be written to -/
theorem p_stale (h : CRep K c s) {t i F : Nat} {x : Int32} (ht : t < nt (s 15 0)) (hi : i < 8) (h0 : s 19 t = nI 0) (hF : F = 144 ∨ F = 145) : CRep K (cx_ui c F (kT K t i) 0 x) s := by
  have z : nt (s 19 t) = 0 := by rw [h0]; rfl
  have ne : ∀ t2, t2 < nt (s 15 0) → ∀ i2, i2 < nt (s 19 t2) → kT K t2 i2 ≠ kT K t i := fun t2 ht2 i2 hi2 e => by
    have l8 := h.t8 t2 ht2
    obtain ⟨e1, _⟩ := tgne h ht2 ht (by omega) hi e
    rw [e1] at hi2; omega
  have q : ∀ F2, F2 ≠ 144 → F2 ≠ 145 → cI (cx_ui c F (kT K t i) 0 x) F2 = cI c F2 := fun F2 a b => by
    funext p j; exact ui_F (by omega)
  refine ⟨h.fix, ?_⟩
  rw [q 160 (by decide) (by decide), q 161 (by decide) (by decide), q 162 (by decide) (by decide), q 400 (by decide) (by decide), q 96 (by decide) (by decide), q 97 (by decide) (by decide), q 128 (by decide) (by decide), q 129 (by decide) (by decide), q 130 (by decide) (by decide), q 131 (by decide) (by decide), q 132 (by decide) (by decide), q 133 (by decide) (by decide), q 2 (by decide) (by decide), q 16 (by decide) (by decide), q 17 (by decide) (by decide), q 19 (by decide) (by decide), q 20 (by decide) (by decide), q 21 (by decide) (by decide), q 146 (by decide) (by decide), q 147 (by decide) (by decide), q 64 (by decide) (by decide), q 48 (by decide) (by decide), q 49 (by decide) (by decide), q 52 (by decide) (by decide), q 36 (by decide) (by decide)]
  exact ⟨h.ug, h.uo, h.uh, h.ul, h.ua, h.rr, h.rm, h.rgr, h.sh, h.sg, h.s0, h.s1, h.s2, h.s3, h.s4, h.s5, h.bn, h.bh, h.bg, h.b0, h.b1, h.b3, h.b4, h.b5, h.bv, h.br, h.bo, h.th, h.tg, h.t8, fun t2 ht2 i2 hi2 => by rw [ui_o (ne t2 ht2 i2 hi2)]; exact h.ta t2 ht2 i2 hi2, fun t2 ht2 i2 hi2 => by rw [ui_o (ne t2 ht2 i2 hi2)]; exact h.tb t2 ht2 i2 hi2, h.tl, h.tc, h.ln, h.lh, h.lg, h.lb, h.lt, h.lu, h.lp, h.lq, h.nn, h.nl⟩
theorem stepAt_w {t i r p : Nat} (ht : t < 16) (hi : i < 8) (e16 : s 16 t = nI r) (e23 : s 23 (8 * t + i) = nI p) : D_M_stepAt f (nI t) (nI i) s = some (nI (12 * r + p), s) := by
  unfold D_M_stepAt
  simp only [b_og ht (show 16 < 2 ^ 31 by decide), pk_mul, nI_add, b_og (show 8 * t + i < 128 by omega) (by decide), e16, e23]
theorem isOn_t {t : Nat} (ht : t < 16) (h : s 18 t = nI 2 ∨ s 18 t = nI 4) : D_M_isOn f (nI t) s = some (nI 1, s) := by
  unfold D_M_isOn
  rw [b_og ht (by decide)]
  simp only [b_oj]
  rcases h with h | h
  · rw [if_pos h, ozb_1]
  · rw [h, if_neg (by decide), if_pos rfl, ozb_1]
theorem isOn_f {t : Nat} (ht : t < 16) (h1 : s 18 t ≠ nI 2) (h2 : s 18 t ≠ nI 4) : D_M_isOn f (nI t) s = some (nI 0, s) := by
  unfold D_M_isOn
  rw [b_og ht (by decide)]
  simp only [b_oj]
  rw [if_neg h1, if_neg h2, ozb_0]
def z10 (x : Int32) : Int32 := if nI 10 ≤ x then nI 10 else x
theorem z10_c {x : Int32} : (if x < nI 10 then x else nI 10) = z10 x := by
  unfold z10
  by_cases h : nI 10 ≤ x
  · rw [if_pos h, if_neg (Int32.not_lt.mpr h)]
  · rw [if_neg h, if_pos (Int32.not_le.mp h)]
theorem z10_pos {x : Int32} (h : ¬ z10 x ≤ 0) : ∃ A, 1 ≤ A ∧ A ≤ 10 ∧ z10 x = nI A := by
  unfold z10 at h ⊢
  by_cases h1 : nI 10 ≤ x
  · rw [if_pos h1]; exact ⟨10, by decide, by decide, rfl⟩
  · rw [if_neg h1] at h ⊢
    rcases pk_ix x (n := 10) (by decide) with e | e | ⟨j, e1, e2⟩
    · exact absurd (Int32.le_of_lt e) h
    · exact absurd e h1
    · refine ⟨j, ?_, by omega, e2⟩
      rcases Nat.eq_zero_or_pos j with z | z
      · exact absurd (by rw [e2, z]; decide) h
      · exact z
theorem z10_big {x : Int32} (h : nI 10 ≤ x) : ∃ j, 10 ≤ j ∧ j < 2 ^ 31 ∧ x = nI j := by
  rcases pk_ix x (n := 2 ^ 31 - 1) (by decide) with e | e | ⟨j, e1, e2⟩
  · exact absurd (Int32.lt_of_le_of_lt h e) (by decide)
  · refine ⟨2 ^ 31 - 1, by decide, by decide, ?_⟩
    rw [Int32.le_iff_toInt_le] at e
    have e4 : (nI (2 ^ 31 - 1)).toInt = 2147483647 := by decide
    have e5 := Int32.toInt_lt x
    rw [← Int32.toInt_inj, e4]
    omega
  · refine ⟨j, ?_, by omega, e2⟩
    rw [e2] at h
    exact (nI_leI (by decide) (by omega)).mp h
theorem z10_left {x : Int32} : x - z10 x ≤ 0 ↔ x - z10 x = 0 := by
  by_cases h : nI 10 ≤ x
  · obtain ⟨j, j1, j2, rfl⟩ := z10_big h
    unfold z10
    rw [if_pos h, nI_sub (by omega)]
    refine ⟨fun z => ?_, fun z => by rw [z]; exact Int32.le_refl _⟩
    have z : nI (j - 10) ≤ nI 0 := z
    have := (nI_leI (by omega) (by decide)).mp z
    rw [show j - 10 = 0 by omega]; rfl
  · unfold z10
    rw [if_neg h, Int32.sub_self]
    exact ⟨fun _ => rfl, fun _ => Int32.le_refl _⟩
end TLS
