/-! a waiting batch gets its units and goes -/
section SRV
variable {f : Nat} {K : kx} {W : Nat → Nat → Nat} {bd : Nat} {c : cx_S} {s : rx_S}
theorem inv_claim {s3 : rx_S} {t : Nat} (hI : Iv K W bd s) (ht : t < nt (s 15 0)) (h1 : s 18 t = nI 1) (hs : ∀ k, (k ≠ 2 ∧ k ≠ 18 ∧ k ≠ 19 ∧ k ≠ 22 ∧ k ≠ 23 ∧ k ≠ 26 ∧ k ≠ 28 ∧ k ≠ 29) → s3 k = s k) (h18 : s3 18 = rx_up s 18 t (nI 2) 18) (h19 : ∀ q, s3 19 q = if q = t then nI 1 else s 19 q) (h22 : ∀ j, (j < 3 * t ∨ 3 * t + 3 ≤ j) → s3 22 j = s 22 j)
    (h22m : ∀ k, k < 3 → rgm (s3 22 (3 * t + k)) 6) (h22r : ∀ k, k < 3 → nt (s 6 (3 * nt (s 16 t) + k)) < 3 → rg (s3 22 (3 * t + k)) 6) (h22d : ∀ k, k < 3 → ∀ j, j < 3 → s3 22 (3 * t + k) ≠ -1 → s3 22 (3 * t + k) = s3 22 (3 * t + j) → k = j)
    (h23 : ∀ j, s3 23 j = if j = 8 * t then nI 0 else s 23 j) (h26 : ∀ j, s3 26 j = if j = 8 * t then nI 0 else s 26 j) (hl : NW K (s3 18) (s3 28 0) (s3 29)) : Iv K W bd s3 := by
  have e3 := hs 3 (by decide)
  have e4 := hs 4 (by decide)
  have e5 := hs 5 (by decide)
  have e6 := hs 6 (by decide)
  have e7 := hs 7 (by decide)
  have e8 := hs 8 (by decide)
  have e9 := hs 9 (by decide)
  have e10 := hs 10 (by decide)
  have e11 := hs 11 (by decide)
  have e12 := hs 12 (by decide)
  have e13 := hs 13 (by decide)
  have e14 := hs 14 (by decide)
  have e15 := hs 15 (by decide)
  have e16 := hs 16 (by decide)
  have e17 := hs 17 (by decide)
  have e20 := hs 20 (by decide)
  have e21 := hs 21 (by decide)
  have e24 := hs 24 (by decide)
  have e25 := hs 25 (by decide)
  have e27 := hs 27 (by decide)
  have e31 := hs 31 (by decide)
  have e32 := hs 32 (by decide)
  have e35 := hs 35 (by decide)
  have e36 := hs 36 (by decide)
  have st : ∀ q, q ≠ t → s3 18 q = s 18 q := fun q e => by rw [h18, up_o e]
  have stt : s3 18 t = nI 2 := by rw [h18, up_s]
  have iw := hI.iw _ (hI.ib t ht).1.lt (hI.ib t ht).2.1
  refine ⟨by have := hI.ir; unfold IR at this ⊢; rw [e3, e6, e7, e8, e9, e15, e27, e31, e32]; exact this, ?_, ?_, ?_, ?_, ?_, ?_, ?_, ?_⟩
  · have := hI.iw
    unfold IW SS zk za zb zn zo at this ⊢
    rw [e6, e7, e8, e9, e10, e11, e12, e13, e14]; exact this
  · intro q hq hq2
    rw [e15] at hq
    have z := hI.if q hq hq2
    rw [e20, e21, h19, if_neg (by omega), st q (by omega)]
    exact ⟨z.1, z.2.1, z.2.2.1, z.2.2.2.1, fun j hj => by rw [h22 _ (by omega)]; exact z.2.2.2.2 j hj⟩
  · intro q hq
    rw [e15] at hq
    obtain ⟨b1, b2, b3, b4, b5, b6, b7, b8, b9, b10⟩ := hI.ib q hq
    unfold IB
    unfold zk za at *
    rw [e6, e7, e8, e9, e10, e16, e17, e21, h19]
    by_cases e : q = t
    · subst e
      rw [stt, if_pos rfl]
      refine ⟨b1, b2, b3, rg_of (by decide) (by decide), rg_of (by decide) (by decide), Or.inl rfl, fun _ => ⟨h22r, h22d⟩, h22m, b9, ?_⟩
      show gs (W (nt (s 16 q))) (fun i => nt (s3 23 (8 * q + i))) 1 ≤ 8
      rw [gs, gs, h23, if_pos (by omega), nt_nI (by decide)]
      have := (iw.2.2.1 0 iw.1).2
      omega
    · rw [st q e, if_neg e]
      have x22 : ∀ k, k < 3 → s3 22 (3 * q + k) = s 22 (3 * q + k) := fun k hk => h22 _ (by omega)
      refine ⟨b1, b2, b3, b4, b5, ?_, fun w => ⟨fun k hk z => by rw [x22 k hk]; exact (b7 w).1 k hk z, fun k hk j hj z1 z2 => ?_⟩, fun k hk => by rw [x22 k hk]; exact b8 k hk, b9, ?_⟩
      · rcases b6 with z | z | z | z
        · exact Or.inl z
        · exact Or.inr (Or.inl z)
        · exact Or.inr (Or.inr (Or.inl z))
        · exact Or.inr (Or.inr (Or.inr ⟨z.1, fun k hk => by rw [x22 k hk]; exact z.2 k hk⟩))
      · rw [x22 k hk] at z1 z2
        rw [x22 j hj] at z2
        exact (b7 w).2 k hk j hj z1 z2
      · refine Nat.le_trans (Nat.le_of_eq (gs_congr (fun k hk => ?_))) b10
        have := b5.lt
        show nt (s3 23 (8 * q + k)) = nt (s 23 (8 * q + k))
        rw [h23, if_neg (by omega)]
  · intro q hq i hi
    rw [e15] at hq
    rw [h19] at hi
    by_cases e : q = t
    · subst e
      rw [if_pos rfl, nt_nI (by decide)] at hi
      have i0 : i = 0 := by omega
      subst i0
      refine ⟨?_, ?_, fun w => ?_⟩
      · rw [h23, if_pos (by omega), e16, e7]
        have := (hI.i7 _ (hI.ib q hq).1.lt).lt
        exact rg_of iw.1 (by omega)
      · rw [h26, if_pos (by omega)]; exact rg_of (by decide) (by decide)
      · rw [h26, if_pos (by omega)] at w; exact absurd w (by decide)
    · rw [if_neg e] at hi
      have := (hI.ib q hq).2.2.2.2.1.lt
      have z := hI.it q hq i hi
      unfold IT ka at z ⊢
      rw [h23, if_neg (by omega), h26, if_neg (by omega), e7, e9, e16, e24, e25, e27, e31]
      exact z
  · intro u hu
    have z := hI.iu u hu
    unfold IU at z ⊢
    rw [e3, e4, e5, e31]; exact z
  · have z := hI.iq
    unfold tU at z ⊢
    rw [e3, e5]; exact z
  · have z := hI.il
    unfold IL at z ⊢
    rw [e31, e32, e35, e36]; exact z
  · obtain ⟨l1, l2, l3, l4, l5⟩ := hI.ln
    rw [e15]
    refine ⟨l1, l2, l3, fun q hq => ?_, hl⟩
    by_cases e : q = t
    · subst e
      rw [stt]
      have := l4 q hq
      rw [h1] at this
      exact ⟨fun z => absurd z (by decide), fun z => absurd (this.mpr z) (by decide)⟩
    · rw [st q e]; exact l4 q hq
/-- both go from waiting to running, and move -/
theorem go_both (h : CRep K c s) (hI : Iv K W bd s) (hf : 2 ^ 31 ≤ f) (hbd : bd < 2 ^ 31) {t : Nat} (ht : t < nt (s 15 0)) (h1 : s 18 t = nI 1) {c2 : cx_S} {s2 : rx_S} (h2 : CRep K c2 s2) (hN : cN c2 = cN c) (hq : cq c2 c) (hR : RI t s (nt (s 16 t)) 3 s2 true) :
    ∃ K3 c3 s3 s12, D_B_addToken f (kB K t) (nI 0) (cx_ui c2 20 (kB K t) 0 (nI 2)) = some (0, cA K (cx_ui c2 20 (kB K t) 0 (nI 2)) t 0 (nI 0)) ∧ D_F_moveTokens f 12 (some (kB K t)) (cA K (cx_ui c2 20 (kB K t) 0 (nI 2)) t 0 (nI 0)) = some (0, c3) ∧
      D_M_leaveLine f (nI t) s2 = some (0, s12) ∧ D_M_move f (nI t) (rx_up (rx_up (rx_up (rx_up s12 18 t (nI 2)) 19 t (nI 1)) 23 (8 * t) (nI 0)) 26 (8 * t) (nI 0)) = some (0, s3) ∧ CRep K3 c3 s3 ∧ Iv K3 W bd s3 ∧ KS K K3 ∧ Gw c s c3 s3 ∧ s3 0 0 = s 0 0 ∧ (∀ k, k = 1 ∨ k = 6 ∨ k = 15 ∨ k = 16 → s3 k = s k) ∧ (∀ q, q ≠ t → s3 18 q = s 18 q) ∧ s3 18 t ≠ nI 1 ∧ ∀ u, u < 6 → s3 2 u = -1 → s 2 u = -1 := by
  have t16 := hI.t16 ht
  obtain ⟨a1, a2, a3, a4, a5, a6, a7, a8⟩ := hR
  have w22 := wait_22 hI ht h1
  have q15 : s2 15 = s 15 := a1 15 (by decide) (by decide)
  have q18 : s2 18 = s 18 := a1 18 (by decide) (by decide)
  have q19 : s2 19 = s 19 := a1 19 (by decide) (by decide)
  have ht2 : t < nt (s2 15 0) := by rw [q15]; exact ht
  have hst := p_state h2 ht2 (x := nI 2)
  have had := p_add (s := rx_up s2 18 t (nI 2)) (m := 0) (x := nI 0) hst ht2 (by show s2 19 t = _; rw [q19]; exact w22.1) (by decide)
  have ln := hI.ln
  obtain ⟨l16, lx⟩ := nw_len ln
  have g15 := hI.i15.lt
  obtain ⟨s12, v1, v2, v3, v4⟩ := leave (f := f) (s := s2) t t16 (nw K (s 18)) l16 (fun e he => by have := lx e he; omega) (by rw [a1 28 (by decide) (by decide)]; exact ln.2.2.2.2.1) (by rw [a1 29 (by decide) (by decide)]; exact ln.2.2.2.2.2) hf
  have f18 : rx_up (rx_up (rx_up (rx_up s12 18 t (nI 2)) 19 t (nI 1)) 23 (8 * t) (nI 0)) 26 (8 * t) (nI 0) 18 = rx_up s 18 t (nI 2) 18 := by
    show rx_up s12 18 t (nI 2) 18 = _
    funext j
    by_cases e : j = t
    · rw [e, up_s, up_s]
    · rw [up_o e, up_o e, v2 18 (by decide) (by decide), q18]
  have f19 : ∀ q, rx_up (rx_up (rx_up (rx_up s12 18 t (nI 2)) 19 t (nI 1)) 23 (8 * t) (nI 0)) 26 (8 * t) (nI 0) 19 q = if q = t then nI 1 else s 19 q := fun q => by
    show rx_up s12 19 t (nI 1) 19 q = _
    by_cases e : q = t
    · rw [e, up_s, if_pos rfl]
    · rw [up_o e, if_neg e, v2 19 (by decide) (by decide), q19]
  have f23 : ∀ q, rx_up (rx_up (rx_up (rx_up s12 18 t (nI 2)) 19 t (nI 1)) 23 (8 * t) (nI 0)) 26 (8 * t) (nI 0) 23 q = if q = 8 * t then nI 0 else s 23 q := fun q => by
    show rx_up s12 23 (8 * t) (nI 0) 23 q = _
    by_cases e : q = 8 * t
    · rw [e, up_s, if_pos rfl]
    · rw [up_o e, if_neg e, v2 23 (by decide) (by decide), a1 23 (by decide) (by decide)]
  have f26 : ∀ q, rx_up (rx_up (rx_up (rx_up s12 18 t (nI 2)) 19 t (nI 1)) 23 (8 * t) (nI 0)) 26 (8 * t) (nI 0) 26 q = if q = 8 * t then nI 0 else s 26 q := fun q => by
    show rx_up s12 26 (8 * t) (nI 0) 26 q = _
    by_cases e : q = 8 * t
    · rw [e, up_s, if_pos rfl]
    · rw [up_o e, if_neg e, v2 26 (by decide) (by decide), a1 26 (by decide) (by decide)]
  have f22 : rx_up (rx_up (rx_up (rx_up s12 18 t (nI 2)) 19 t (nI 1)) 23 (8 * t) (nI 0)) 26 (8 * t) (nI 0) 22 = s2 22 := by
    show s12 22 = _
    exact v2 22 (by decide) (by decide)
  have f2 : rx_up (rx_up (rx_up (rx_up s12 18 t (nI 2)) 19 t (nI 1)) 23 (8 * t) (nI 0)) 26 (8 * t) (nI 0) 2 = s2 2 := by
    show s12 2 = _
    exact v2 2 (by decide) (by decide)
  have f28 : rx_up (rx_up (rx_up (rx_up s12 18 t (nI 2)) 19 t (nI 1)) 23 (8 * t) (nI 0)) 26 (8 * t) (nI 0) 28 = s12 28 := rfl
  have f29 : rx_up (rx_up (rx_up (rx_up s12 18 t (nI 2)) 19 t (nI 1)) 23 (8 * t) (nI 0)) 26 (8 * t) (nI 0) 29 = s12 29 := rfl
  have fo : ∀ k, (k ≠ 2 ∧ k ≠ 18 ∧ k ≠ 19 ∧ k ≠ 22 ∧ k ≠ 23 ∧ k ≠ 26 ∧ k ≠ 28 ∧ k ≠ 29) → rx_up (rx_up (rx_up (rx_up s12 18 t (nI 2)) 19 t (nI 1)) 23 (8 * t) (nI 0)) 26 (8 * t) (nI 0) k = s k := fun k hk => by
    funext j
    rw [up_k (by omega), up_k (by omega), up_k (by omega), up_k (by omega), v2 k (by omega) (by omega), a1 k (by omega) (by omega)]
  generalize hsb : rx_up (rx_up (rx_up (rx_up s12 18 t (nI 2)) 19 t (nI 1)) 23 (8 * t) (nI 0)) 26 (8 * t) (nI 0) = sb at *
  have hB : CRep K (cA K (cx_ui c2 20 (kB K t) 0 (nI 2)) t 0 (nI 0)) sb := by
    refine CRep_s had (fun k hk => ?_)
    by_cases e18 : k = 18
    · subst e18
      rw [f18]
      show _ = rx_up s2 18 t (nI 2) 18
      funext j
      by_cases e : j = t
      · rw [e, up_s, up_s]
      · rw [up_o e, up_o e, q18]
    · by_cases e19 : k = 19
      · subst e19
        funext j
        rw [f19]
        show _ = rx_up s2 19 t (nI 1) 19 j
        by_cases e : j = t
        · rw [e, up_s, if_pos rfl]
        · rw [up_o e, if_neg e, q19]
      · by_cases e23 : k = 23
        · subst e23
          funext j
          rw [f23]
          show _ = rx_up s2 23 (8 * t) (nI 0) 23 j
          by_cases e : j = 8 * t
          · rw [e, up_s, if_pos rfl]
          · rw [up_o e, if_neg e, a1 23 (by decide) (by decide)]
        · by_cases e26 : k = 26
          · subst e26
            funext j
            rw [f26]
            show _ = rx_up s2 26 (8 * t) (nI 0) 26 j
            by_cases e : j = 8 * t
            · rw [e, up_s, if_pos rfl]
            · rw [up_o e, if_neg e, a1 26 (by decide) (by decide)]
          · have ek : sb k = s2 k := by
              by_cases e2 : k = 2
              · subst e2; exact f2
              · by_cases e22 : k = 22
                · subst e22; exact f22
                · rw [fo k (by omega), a1 k e2 e22]
            rw [ek]
            funext j
            unfold sA
            rw [up_k e19, up_k e26, up_k e23, up_k e18]
  have hIB : Iv K W bd sb := by
    refine inv_claim hI ht h1 fo f18 f19 (fun j hj => by rw [f22]; exact a2 j hj) (fun k hk => ?_) (fun k hk hc => ?_) (fun k hk j hj z1 z2 => ?_) f23 f26 ?_
    · rw [f22]
      rcases a4 k hk with q | ⟨u, u1, u2, _⟩
      · exact Or.inl q.1
      · exact Or.inr (by rw [u2]; exact rg_of u1 (by decide))
    · rw [f22]
      rcases a4 k hk with q | ⟨u, u1, u2, _⟩
      · rw [q.2 rfl, nt_nI (by decide)] at hc; omega
      · rw [u2]; exact rg_of u1 (by decide)
    · rw [f22] at z1 z2
      exact a6 k hk j hj z1 z2
    · unfold NW
      rw [f18, f28, f29, nw_out (by decide)]
      exact ⟨v3, v4⟩
  have fb18 : sb 18 t = nI 2 := by rw [f18, up_s]
  have q15b : sb 15 = s 15 := fo 15 (by decide)
  obtain ⟨K3, c3, s3, m1, m2, m3, m4⟩ := move_all (f := f) hB hIB hf hbd (t := t) (by rw [q15b]; exact ht) fb18
  obtain ⟨n1, n2, n3, n4, n5, n6⟩ := m3
  refine ⟨K3, c3, s3, s12, ?_, m1, v1, hsb ▸ m2, n1, n2, n3, ?_, ?_, fun k hk => ?_, fun q e => ?_, ?_, fun u hu z => ?_⟩
  · exact add_C hst ht2 (by show s2 19 t = _; rw [q19]; exact w22.1) (by decide)
  · have g31 : sb 31 0 = s 31 0 := by rw [fo 31 (by decide)]
    obtain ⟨g1, g2, g3, g4⟩ := n4
    have x1 : cN (cA K (cx_ui c2 20 (kB K t) 0 (nI 2)) t 0 (nI 0)) = cN c := hN
    have x2 : cZ (cA K (cx_ui c2 20 (kB K t) 0 (nI 2)) t 0 (nI 0)) = cZ c := hq.1
    rw [g31] at g1 g2 g3
    rw [x1] at g2
    rw [x2] at g3
    exact ⟨g1, g2, g3, by rw [g4]; exact hq.2⟩
  · rw [n6, fo 0 (by decide)]
  · rw [n5.1 k (by omega), fo k (by omega)]
  · rw [n5.2.1 q e, f18, up_o e]
  · rcases m4 with ⟨z, _⟩ | ⟨z, _⟩
    · rw [z, fb18]; decide
    · rcases z with z | z <;> rw [z] <;> decide
  · have back : ∀ j, j < 3 → s2 22 (3 * t + j) = nI u → s 2 u = -1 := fun j hj w => by
      rcases a4 j hj with q | ⟨v, v1, v2, v3, _⟩
      · rw [q.1] at w; exact absurd w.symm (nI_m1 (by omega))
      · rw [v2, nI_eq (by omega) (by omega)] at w
        rw [← w]; exact v3
    rcases n5.2.2.1 u hu with w | ⟨_, j, hj, w⟩
    · rw [f2] at w
      rcases a5 u with y | ⟨_, y, _⟩
      · rw [← y, ← w]; exact z
      · exact y
    · rw [f22] at w
      exact back j hj w
/-- the line's others stand as they stood -/
theorem later {K3 : kx} {s3 : rx_S} {i : Nat} (hI : Iv K W bd s) (hi : i < kM K) (hK : KS K K3) (hk : ∀ k, k = 1 ∨ k = 6 ∨ k = 15 ∨ k = 16 → s3 k = s k) (ho : ∀ q, q ≠ kN K i → s3 18 q = s 18 q) (h1 : s3 18 (kN K i) ≠ nI 1) (h2 : ∀ u, u < 6 → s3 2 u = -1 → s 2 u = -1) (hF : Fl K s i) : acc K3 s3 (i + 1) = acc K s i ∧ Fl K3 s3 (i + 1) := by
  have kN3 : kN K3 = kN K := hK.2.2.1
  have ne : ∀ j, j < i → kN K j ≠ kN K i := fun j hj e => by have := hI.ln.2.2.1 j (by omega) i hi e; omega
  have e6 := hk 6 (by decide)
  have e16 := hk 16 (by decide)
  have e1 := hk 1 (by decide)
  have ndE : ∀ r, nd s3 r = nd s r := fun r => by
    unfold nd
    rw [show nm s3 r 3 = nm s r 3 by unfold nm nm nm nm; rw [e6]]
  have ac : ∀ j, j ≤ i → acc K3 s3 j = acc K s j := by
    intro j
    induction j with
    | zero => intro _; rfl
    | succ j ih =>
      intro hj
      rw [acc, acc, kN3, ho _ (ne j (by omega)), ih (by omega), ndE, e16]
  have nRE : ∀ r g, nR s3 r g = nR s r g := fun r g => by
    unfold nR pR; rw [e6]
  have nFE : ∀ g, nF s3 g ≤ nF s g := fun g => ctb_mono (fun u hu z => by
    obtain ⟨z1, z2⟩ := pF_iff.mp z
    exact pF_iff.mpr ⟨by rw [← e1]; exact z1, h2 u hu z2⟩)
  refine ⟨by rw [acc, kN3, if_neg h1]; exact ac i (Nat.le_refl _), fun j hj hw => ?_⟩
  rw [kN3] at hw ⊢
  by_cases e : j = i
  · rw [e] at hw; exact absurd hw h1
  · rw [ac j (by omega)]
    rw [ho _ (ne j (by omega))] at hw
    intro z
    refine hF j (by omega) hw (fun g hg q => ?_)
    have := z g hg
    unfold okG at this
    rw [e16, nRE] at this
    have w := this q
    exact ⟨w.1, Nat.le_trans w.2 (nFE g)⟩
/-- what serving leaves -/
def Sv (K : kx) (W : Nat → Nat → Nat) (bd : Nat) (c : cx_S) (s : rx_S) (K2 : kx) (c2 : cx_S) (s2 : rx_S) : Prop := CRep K2 c2 s2 ∧ Iv K2 W bd s2 ∧ KS K K2 ∧ (nt (s 31 0) ≤ nt (s2 31 0) ∧ cN c2 ≤ cN c + 3 * (nt (s2 31 0) - nt (s 31 0)) ∧ cZ c2 ≤ cZ c + 300 * (nt (s2 31 0) - nt (s 31 0))) ∧ s2 0 0 = s 0 0 ∧ s2 15 = s 15
theorem Sv.tr {K1 K2 : kx} {c1 c2 : cx_S} {s1 s2 : rx_S} (h : Sv K W bd c s K1 c1 s1) (g : Sv K1 W bd c1 s1 K2 c2 s2) : Sv K W bd c s K2 c2 s2 := by
  obtain ⟨a1, a2, a3, a4, a5, a6⟩ := h
  obtain ⟨b1, b2, b3, b4, b5, b6⟩ := g
  exact ⟨b1, b2, a3.tr b3, ⟨by omega, by omega, by omega⟩, by rw [b5, a5], by rw [b6, a6]⟩
theorem serve_both (hf : 2 ^ 31 ≤ f) (hbd : bd < 2 ^ 31) {k130 : rx_S → Option (Int32 × rx_S)} : ∀ d i n1 n2 K c s, i + d = kM K → d < n1 → d + 1 < n2 → CRep K c s → Iv K W bd s → Bk c (acc K s i) → Fl K s i →
    ∃ K2 c2 s2, D_F_serveWaiting_10 f 12 n1 (nI i) c = some (0, c2) ∧ D_M_claim_2 f k130 n2 (nI 1) s = k130 s2 ∧ Sv K W bd c s K2 c2 s2 := by
  intro d
  induction d with
  | zero =>
    intro i n1 n2 K c s hi h1 h2 h hI hB hF
    obtain ⟨n1, rfl⟩ : ∃ k', n1 = k' + 1 := ⟨n1 - 1, by omega⟩
    obtain ⟨n2, rfl⟩ : ∃ k', n2 = k' + 2 := ⟨n2 - 2, by omega⟩
    have e : i = kM K := by omega
    have lw : wp K (s 18) (kM K) ≤ 16 := by
      have l := (nw_len hI.ln).1
      have l2 : (nwp K (s 18) (kM K)).length ≤ 16 := l
      rw [nwp_len] at l2; exact l2
    refine ⟨K, c, s, ?_, ?_, h, hI, KS.rfl, ⟨Nat.le_refl _, by omega, by omega⟩, rfl, rfl⟩
    · rw [D_F_serveWaiting_10, b_oc h.fix.h12, h.nn, e, if_pos (Int32.le_refl _)]
    · rw [D_M_claim_2, if_neg (by decide)]
      have p := fun kk => pass_M (f := f) (kk := kk) h hI hf (kM K) (Nat.le_refl _) (e ▸ hF) (f - wp K (s 18) (kM K))
      rw [show f - wp K (s 18) (kM K) + wp K (s 18) (kM K) = f by omega] at p
      rw [p]
      obtain ⟨m, hm⟩ : ∃ k', f - wp K (s 18) (kM K) = k' + 1 := ⟨f - wp K (s 18) (kM K) - 1, by omega⟩
      rw [hm, D_M_claim_12, line_n hI, if_pos (Int32.le_refl _), D_M_claim_2, if_pos (show nI 0 = 0 from rfl)]
  | succ d ih =>
    intro i n1 n2 K c s hi h1 h2 h hI hB hF
    obtain ⟨n1, rfl⟩ : ∃ k', n1 = k' + 1 := ⟨n1 - 1, by omega⟩
    have ik : i < kM K := by omega
    have k16 := hI.ln.1
    have t15 := hI.ln.2.1 i ik
    have t16 := hI.t16 t15
    have aB := acc_lt hI i (by omega)
    obtain ⟨hb1, hb2, hb3, _⟩ := h.bh _ t15
    have r4 := (hI.ib _ t15).1.lt
    rw [D_F_serveWaiting_10, b_oc h.fix.h12, h.nn, if_neg (nI_ge ik (by omega)), h.fix.f35, b_oa h.fix.h20 (by omega) (by decide), h.nl i ik, b_oc hb2, b_oj, h.b4 _ t15, nI_add]
    by_cases hw : s 18 (kN K i) = nI 1
    · rw [if_pos hw, hb3]
      obtain ⟨x, w1, w2⟩ := may_C (f := f) h hf r4 hB 3 0 f (by omega) (by omega)
      have w1 : D_F_mayClaim f 12 (some (40 + 3 * nt (s 16 (kN K i)))) c = some (x, c) := w1
      rw [w1, b_ob]
      rcases w2 with ⟨rfl, ok⟩ | ⟨rfl, ok⟩
      · -- it may
        rw [if_neg (show ¬ nI 1 = 0 by decide), b_oc h.fix.h12]
        have ok2 : Ok s (kN K i) (acc K s i) := fun g hg => ok g (Nat.zero_le _) hg
        have ok3 := (Ok_iff hI t15 aB).mp ok2
        have w22 := wait_22 hI t15 hw
        rcases claim_one (f := f) h hI hf t15 w22.2 with ⟨q, _⟩ | ⟨_, c2, s2, v1, v2, v3, v4, v5, v6⟩
        · exact absurd ok3.2 q
        · obtain ⟨K3, c3, s3, s12, u1, u2, u3, u4, u5, u6, u7, u8, u9, u10, u11, u12, u13⟩ := go_both (f := f) h hI hf hbd t15 hw v3 v4 v5 v6
          have q15 : s2 15 = s 15 := v6.1 15 (by decide) (by decide)
          have hb2' : cH c2 (kB K (kN K i)) = some (1, 0) := (v3.bh _ (by rw [q15]; exact t15)).2.1
          obtain ⟨y1, y2⟩ := later hI ik u7 u10 u11 u12 u13 hF
          obtain ⟨g1, g2, g3, g4⟩ := u8
          have kM3 : kM K3 = kM K := u7.2.2.2
          have hB3 : Bk c3 (acc K3 s3 (i + 1)) := fun g hg => by rw [y1, g4]; exact hB g hg
          obtain ⟨n2, rfl⟩ : ∃ k', n2 = k' + 1 := ⟨n2 - 1, by omega⟩
          obtain ⟨K4, c4, s4, z1, z2, z3⟩ := ih (i + 1) n1 n2 K3 c3 s3 (by omega) (by omega) (by omega) u5 u6 hB3 y2
          have h12 : cH (cA K (cx_ui c2 20 (kB K (kN K i)) 0 (nI 2)) (kN K i) 0 (nI 0)) 12 = some (2, 0) := v3.fix.h12
          refine ⟨K4, c4, s4, ?_, ?_, Sv.tr ⟨u5, u6, u7, ⟨g1, g2, g3⟩, u9, u10 15 (by decide)⟩ z3⟩
          · rw [v1, b_ob, b_oc hb2', u1, b_ob, b_oc h12, u2, b_ob]
            exact z1
          · rw [← z2, D_M_claim_2, if_neg (by decide)]
            obtain ⟨l1, l2, l3⟩ := line_at hI ik hw
            have p := fun kk => pass_M (f := f) (kk := kk) h hI hf i (by omega) hF (f - wp K (s 18) i)
            rw [show f - wp K (s 18) i + wp K (s 18) i = f by omega] at p
            rw [p]
            obtain ⟨m, hm⟩ : ∃ k', f - wp K (s 18) i = k' + 2 := ⟨f - wp K (s 18) i - 2, by omega⟩
            have b := (hI.ib _ t15).1
            obtain ⟨n1', n2'⟩ := nd_ok hI.i6 b.lt
            have nm := needs_M (f := f) hI.i6 hf t16 b
            have nm2 := needs_M (f := f) (s := s2) (by rw [v6.1 6 (by decide) (by decide)]; exact hI.i6) hf t16 (by rw [v6.1 16 (by decide) (by decide)]; exact b)
            rw [hm, D_M_claim_12, line_n hI, if_neg (nI_ge l2 (by omega)), if_pos (show nI 0 = 0 from rfl), b_og (by omega) (by decide), l1, nm, b_ob]
            simp only [b_oj]
            rw [if_pos (by rw [ib_and _ aB _ n1']; exact ok3.1), v2, b_ob, if_neg (show ¬ nI 1 = 0 by decide), nm2, b_ob, if_neg (show ¬ nI 1 = 0 by decide), u3, b_ob, b_og t16 (by decide), pk_mul, b_og (show 8 * kN K i < 128 by omega) (by decide), u4, b_ob, D_M_claim_12]
            by_cases z : s3 28 0 ≤ nI (wp K (s 18) i) + nI 1
            · rw [if_pos z]
            · rw [if_neg z, if_neg (show ¬ nI 1 = 0 by decide)]
      · -- it may not
        rw [if_pos (show nI 0 = 0 from rfl), b_oc hb2, b_oc h.fix.h12, hb3]
        obtain ⟨g, v1, v2⟩ := block_C (f := f) h hI hf r4 aB hB
        rw [v1, b_ob]
        have ac : acc K s (i + 1) = acc K s i ||| nd s (nt (s 16 (kN K i))) := by rw [acc, if_pos hw]
        obtain ⟨K4, c4, s4, z1, z2, z3⟩ := ih (i + 1) n1 n2 K (ws c 21 g) s (by omega) (by omega) (by omega) (CRep_ws h (by unfold Sc; omega)) hI (by rw [ac]; exact v2) (fun j hj hj2 => by
          by_cases e : j = i
          · rw [e]; exact fun z => ok (fun g _ hg => z g hg)
          · exact hF j (by omega) hj2)
        exact ⟨K4, c4, s4, z1, z2, z3⟩
    · rw [if_neg hw]
      have ac : acc K s (i + 1) = acc K s i := by rw [acc, if_neg hw]
      exact ih (i + 1) n1 n2 K c s (by omega) (by omega) (by omega) h hI (by rw [ac]; exact hB) (fun j hj hj2 => by
        by_cases e : j = i
        · rw [e] at hj2; exact absurd hj2 hw
        · exact hF j (by omega) hj2)
theorem serve_all (h : CRep K c s) (hI : Iv K W bd s) (hf : 2 ^ 31 ≤ f) (hbd : bd < 2 ^ 31) : ∃ K2 c2 s2, D_F_serveWaiting f 12 c = some (0, c2) ∧ D_M_claim f s = some (0, s2) ∧ Sv K W bd c s K2 c2 s2 ∧ s2 30 0 = nI 0 := by
  obtain ⟨g, w1, w2⟩ := b_fill (f := f) (v := nI 0) h.fix.h21 (by decide) hf
  have k16 := hI.ln.1
  obtain ⟨K2, c2, s2, z1, z2, z3⟩ := serve_both (f := f) (W := W) (bd := bd) hf hbd (k130 := (fun  (s23 : rx_S) => some (0, rx_up s23 30 0 (nI 0)))) (kM K) 0 f f K (ws c 21 g) s (by omega) (by omega) (by omega) (CRep_ws h (by unfold Sc; omega)) hI (fun q hq => by
    rw [ws_at, w2 q hq]
    exact ⟨fun z => absurd z (by decide), fun z => by rw [acc, Nat.zero_testBit] at z; exact absurd z (by decide)⟩) (fun j hj => by omega)
  obtain ⟨a1, a2, a3, a4, a5, a6⟩ := z3
  refine ⟨K2, c2, rx_up s2 30 0 (nI 0), ?_, z2, ⟨CRep_s a1 (fun k hk => by funext j; rw [up_k (by omega)]), ?_, a3, a4, a5, a6⟩, up_s⟩
  · rw [D_F_serveWaiting, b_oc h.fix.h12, h.fix.f37, w1, b_ob]; exact z1
  · exact a2
end SRV
