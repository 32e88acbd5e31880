/-! a batch's tokens change -/
section TKC
variable {f : Nat} {K : kx} {W : Nat → Nat → Nat} {bd : Nat} {c : cx_S} {s : rx_S}
def kT2 (K : kx) (T : Nat → Nat → Nat) : kx := (kS K, kB K, T, K.2.2.2)
theorem kT2_id : kT2 K (kT K) = K := rfl
theorem CRep_tok {c2 : cx_S} {s2 : rx_S} {T : Nat → Nat → Nat} (h : CRep K c s) (hC : ∀ F, (F ≠ 21 ∧ F ≠ 144 ∧ F ≠ 145 ∧ F ≠ 146 ∧ F ≠ 147) → cI c2 F = cI c F) (hR : ∀ F, F ≠ 408 → cR c2 F = cR c F) (hH : cH c2 = cH c) (hN : cN c2 = cN c) (hs : ∀ k, (1 ≤ k ∧ k ≠ 19 ∧ k ≠ 23 ∧ k ≠ 24 ∧ k ≠ 25 ∧ k ≠ 26 ∧ k ≠ 27) → s2 k = s k)
    (g_b5 : B1 (kT2 K T) (nt (s2 15 0)) (cI c2 21) (s2 19)) (g_th : TH (kT2 K T) (nt (s2 15 0)) (cR c2 408) (cH c2)) (g_tg : TG (kT2 K T) (nt (s2 15 0))) (g_t8 : T8 (nt (s2 15 0)) (s2 19)) (g_ta : T1 (kT2 K T) (nt (s2 15 0)) (s2 19) (cI c2 144) (s2 23)) (g_tb : T1 (kT2 K T) (nt (s2 15 0)) (s2 19) (cI c2 145) (s2 26)) (g_tl : TL (kT2 K T) (nt (s2 15 0)) (cI c2 146) s2) (g_tc : TC (kT2 K T) (nt (s2 15 0)) (cI c2 147) s2) : CRep (kT2 K T) c2 s2 :=
  ⟨⟨fun q hq => by rw [hR q.1 ((by decide : ∀ q ∈ fixR, q.1 ≠ 408) q hq)]; exact h.fix.1 q hq, fun q hq => by rw [hH]; exact h.fix.2.1 q hq, by rw [hN]; exact h.fix.2.2⟩,
    by rw [hC 160 (by decide), hs 1 (by decide)]; exact h.ug,
    by rw [hC 161 (by decide), hs 2 (by decide)]; exact h.uo,
    by rw [hC 162 (by decide), hs 3 (by decide)]; exact h.uh,
    by rw [hC 400 (by decide), hs 3 (by decide), hs 4 (by decide)]; exact h.ul,
    by rw [hC 400 (by decide), hs 3 (by decide), hs 5 (by decide)]; exact h.ua,
    by rw [hC 96 (by decide), hs 8 (by decide)]; exact h.rr,
    by rw [hC 97 (by decide), hs 7 (by decide)]; exact h.rm,
    by rw [hC 400 (by decide), hs 6 (by decide)]; exact h.rgr,
    by rw [hR 407 (by decide), hH, hs 7 (by decide)]; exact h.sh,
    by rw [hN, hs 7 (by decide)]; exact h.sg,
    by rw [hC 128 (by decide), hs 7 (by decide), hs 9 (by decide)]; exact h.s0,
    by rw [hC 129 (by decide), hs 7 (by decide), hs 10 (by decide)]; exact h.s1,
    by rw [hC 130 (by decide), hs 7 (by decide), hs 11 (by decide)]; exact h.s2,
    by rw [hC 131 (by decide), hs 7 (by decide), hs 12 (by decide)]; exact h.s3,
    by rw [hC 132 (by decide), hs 7 (by decide), hs 13 (by decide)]; exact h.s4,
    by rw [hC 133 (by decide), hs 7 (by decide), hs 14 (by decide)]; exact h.s5,
    by rw [hC 2 (by decide), hs 15 (by decide)]; exact h.bn,
    by unfold BH; rw [hR 404 (by decide), hR 18 (by decide), hR 22 (by decide), hR 23 (by decide), hR 24 (by decide), hR 25 (by decide), hH, hs 15 (by decide), hs 16 (by decide)]; exact h.bh,
    by rw [hN, hs 15 (by decide)]; exact h.bg,
    by rw [hC 16 (by decide), hs 15 (by decide)]; exact h.b0,
    by rw [hC 17 (by decide), hs 15 (by decide), hs 16 (by decide)]; exact h.b1,
    by rw [hC 19 (by decide), hs 15 (by decide), hs 17 (by decide)]; exact h.b3,
    by rw [hC 20 (by decide), hs 15 (by decide), hs 18 (by decide)]; exact h.b4,
    g_b5,
    by rw [hC 400 (by decide), hs 15 (by decide), hs 20 (by decide)]; exact h.bv,
    by rw [hC 400 (by decide), hs 15 (by decide), hs 21 (by decide)]; exact h.br,
    by rw [hC 400 (by decide), hs 15 (by decide), hs 22 (by decide)]; exact h.bo,
    g_th,
    g_tg,
    g_t8,
    g_ta,
    g_tb,
    g_tl,
    g_tc,
    by rw [hC 64 (by decide), hs 31 (by decide)]; exact h.ln,
    by unfold LH; rw [hR 406 (by decide), hR 50 (by decide), hR 51 (by decide), hH, hs 31 (by decide), hs 35 (by decide)]; exact h.lh,
    by rw [hN, hs 31 (by decide), hs 15 (by decide)]; exact h.lg,
    by rw [hC 48 (by decide), hs 31 (by decide), hs 33 (by decide)]; exact h.lb,
    by rw [hC 49 (by decide), hs 31 (by decide), hs 34 (by decide)]; exact h.lt,
    by rw [hC 52 (by decide), hs 31 (by decide), hs 36 (by decide), hs 32 (by decide)]; exact h.lu,
    by rw [hC 400 (by decide), hs 31 (by decide), hs 35 (by decide), hs 36 (by decide)]; exact h.lp,
    by rw [hC 400 (by decide), hs 31 (by decide), hs 35 (by decide), hs 37 (by decide)]; exact h.lq,
    by rw [hC 36 (by decide)]; exact h.nn,
    by rw [hR 404 (by decide)]; exact h.nl⟩
theorem Iv_tok {s2 : rx_S} {T : Nat → Nat → Nat} {t : Nat} (hI : Iv K W bd s) (hs : ∀ k, (k ≠ 19 ∧ k ≠ 21 ∧ k ≠ 23 ∧ k ≠ 24 ∧ k ≠ 25 ∧ k ≠ 26 ∧ k ≠ 27) → s2 k = s k) (h19 : ∀ q, q ≠ t → s2 19 q = s 19 q) (h21 : ∀ q, q ≠ t → ∀ i, i < 12 → s2 21 (12 * q + i) = s 21 (12 * q + i)) (h23 : ∀ k, 23 ≤ k ∧ k ≤ 27 → ∀ q, q ≠ t → ∀ i, i < 8 → s2 k (8 * q + i) = s k (8 * q + i))
    (on : On (s 18 t)) (ht : t < nt (s 15 0)) (r19 : rg (s2 19 t) 9) (r21 : ∀ i, i < nt (s 7 (nt (s 16 t))) → zk s (nt (s 16 t)) i = 8 → rg (s2 21 (12 * t + i)) (za s (nt (s 16 t)) i + 1)) (rw8 : gs (W (nt (s 16 t))) (fun i => nt (s2 23 (8 * t + i))) (nt (s2 19 t)) ≤ 8) (it : ∀ i, i < nt (s2 19 t) → IT bd s2 t i) (g27 : ∀ j, j < 128 → s2 27 j = nI 0 ∨ s2 27 j = nI 1) : Iv (kT2 K T) W bd s2 := by
  have e3 := hs 3 (by decide)
  have e4 := hs 4 (by decide)
  have e5 := hs 5 (by decide)
  have e6 := hs 6 (by decide)
  have e7 := hs 7 (by decide)
  have e8 := hs 8 (by decide)
  have e9 := hs 9 (by decide)
  have e10 := hs 10 (by decide)
  have e11 := hs 11 (by decide)
  have e12 := hs 12 (by decide)
  have e13 := hs 13 (by decide)
  have e14 := hs 14 (by decide)
  have e15 := hs 15 (by decide)
  have e16 := hs 16 (by decide)
  have e17 := hs 17 (by decide)
  have e18 := hs 18 (by decide)
  have e20 := hs 20 (by decide)
  have e22 := hs 22 (by decide)
  have e28 := hs 28 (by decide)
  have e29 := hs 29 (by decide)
  have e31 := hs 31 (by decide)
  have e32 := hs 32 (by decide)
  have e35 := hs 35 (by decide)
  have e36 := hs 36 (by decide)
  have m12 : ∀ r, r < 4 → nt (s 7 r) ≤ 12 := fun r hr => by have := (hI.i7 r hr).lt; omega
  refine ⟨by unfold IR; rw [e3, e6, e7, e8, e9, e15, e31, e32]; exact ⟨hI.i3, hI.i6, hI.i7, hI.i8, hI.i9, hI.i15, hI.i31, hI.i32, g27⟩, ?_, ?_, ?_, ?_, ?_, ?_, ?_, ?_⟩
  · have := hI.iw
    unfold IW SS zk za zb zn zo at this ⊢
    rw [e6, e7, e8, e9, e10, e11, e12, e13, e14]; exact this
  · intro q hq hq2
    rw [e15] at hq
    have z := hI.if q hq hq2
    rw [e18, e20, e22, h19 q (by omega)]
    exact ⟨z.1, z.2.1, z.2.2.1, fun j hj => by rw [h21 q (by omega) j hj]; exact z.2.2.2.1 j hj, z.2.2.2.2⟩
  · intro q hq
    rw [e15] at hq
    obtain ⟨b1, b2, b3, b4, b5, b6, b7, b8, b9, b10⟩ := hI.ib q hq
    have m := m12 _ b1.lt
    unfold IB
    rw [e6, e7, e8, e16, e17, e18, e22]
    by_cases e : q = t
    · subst e
      refine ⟨b1, b2, b3, b4, r19, ?_, b7, b8, fun i hi z => ?_, rw8⟩
      · rcases on with z | z | z
        · exact Or.inl z
        · exact Or.inr (Or.inl z)
        · exact Or.inr (Or.inr (Or.inl z))
      · unfold zk za at *
        rw [e9] at z
        rw [e10]; exact r21 i hi z
    · rw [h19 q e]
      refine ⟨b1, b2, b3, b4, b5, b6, b7, b8, fun i hi z => ?_, ?_⟩
      · unfold zk za at *
        rw [e9] at z
        rw [e10, h21 q e i (by omega)]; exact b9 i hi z
      · refine Nat.le_trans (Nat.le_of_eq (gs_congr (fun k hk => ?_))) b10
        have := b5.lt
        show nt (s2 23 (8 * q + k)) = nt (s 23 (8 * q + k))
        rw [h23 23 (by decide) q e k (by omega)]
  · intro q hq i hi
    rw [e15] at hq
    by_cases e : q = t
    · subst e; exact it i hi
    · rw [h19 q e] at hi
      have := (hI.ib q hq).2.2.2.2.1.lt
      have g : ∀ k, 23 ≤ k ∧ k ≤ 27 → s2 k (8 * q + i) = s k (8 * q + i) := fun k hk => h23 k hk q e i (by omega)
      have z := hI.it q hq i hi
      unfold IT ka at z ⊢
      rw [g 23 (by decide), g 24 (by decide), g 25 (by decide), g 26 (by decide), g 27 (by decide), e7, e9, e16, e31]
      exact z
  · intro u hu
    have z := hI.iu u hu
    unfold IU at z ⊢
    rw [e3, e4, e5, e31]; exact z
  · have z := hI.iq
    unfold tU at z ⊢
    rw [e3, e5]; exact z
  · have z := hI.il
    unfold IL at z ⊢
    rw [e31, e32, e35, e36]; exact z
  · rw [e15, e18, e28, e29]; exact hI.ln
end TKC
