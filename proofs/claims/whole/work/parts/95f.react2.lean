/-! a reaction, both sides, whole -/
section RE2
variable {f : Nat} {K : kx} {W : Nat → Nat → Nat} {bd : Nat} {c : cx_S} {s : rx_S}
theorem cn_congr {a b : Nat → Int32} {l : Nat} : ∀ n, (∀ x, x < n → a x = b x) → cn a l n = cn b l n := by
  intro n
  induction n with
  | zero => intro _; rfl
  | succ n ih => intro h; rw [cn, cn, ih (fun x hx => h x (by omega)), h n (by omega)]
theorem sm_tU {u : Nat} (hU : ∀ j, j < nt (s 3 u) → s 5 (100 * u + j) = nI (nt (s 5 (100 * u + j)))) : sm (s 5) (100 * u) (nt (s 3 u)) = nI (tU s u) := by
  have : ∀ n, n ≤ nt (s 3 u) → sm (s 5) (100 * u) n = nI (gs (fun v => v) (fun j => nt (s 5 (100 * u + j))) n) := by
    intro n
    induction n with
    | zero => intro _; rfl
    | succ n ih =>
      intro hn
      rw [sm, ih (by omega), gs, ← nI_add]
      congr 1
      exact hU n (by omega)
  exact this _ (Nat.le_refl _)
/-- what a phase's work leaves -/
def Wk (K : kx) (W : Nat → Nat → Nat) (bd2 t : Nat) (c : cx_S) (s : rx_S) (K2 : kx) (c2 : cx_S) (s2 : rx_S) : Prop := CRep K2 c2 s2 ∧ Iv K2 W bd2 s2 ∧ KS K K2 ∧ kT K2 = kT K ∧ (nt (s 31 0) ≤ nt (s2 31 0) ∧ cN c2 ≤ cN c + 3 * (nt (s2 31 0) - nt (s 31 0)) ∧ cZ c2 ≤ cZ c + 300 * (nt (s2 31 0) - nt (s 31 0))) ∧ s2 0 0 = s 0 0 ∧ s2 15 = s 15 ∧ ((∀ k, 6 ≤ k ∧ k ≤ 30 → s2 k = s k) ∨ (s2 18 t = nI 6 ∧ s2 19 t = nI 0 ∧ s2 30 0 = nI 1 ∧ s2 7 = s 7))
theorem react_both (h : CRep K c s) (hI : Iv K W bd s) (hf : 2 ^ 31 ≤ f) (hbd : bd % 1099511627776 < 2 ^ 31) {t u : Nat} {y : Int32} (ht : t < nt (s 15 0)) (hon : On (s 18 t)) (hu : u < 6) :
    ∃ K2 c2 s2, D_F_react f 12 (some (kB K t)) y (some (22 + 3 * u)) c = some (0, c2) ∧ D_M_react f (nI t) (nI u) y s = some (0, s2) ∧ Wk K W bd t c s K2 c2 s2 := by
  have g3 := hI.i3 u hu
  have m101 := g3.lt
  have hm := g3.eq
  obtain ⟨U1, U2, U3⟩ := hI.iu u hu
  have totM : D_M_total f (nI u) s = some (nI (tU s u), s) := by
    rw [b_totM hf hu g3, sm_tU (fun j hj => (U3 j hj).1.eq)]
  have hb := h.bh t ht
  have tbd : tU s u ≤ bd % 1099511627776 := by
    have z := hI.iq
    have cs : u = 0 ∨ u = 1 ∨ u = 2 ∨ u = 3 ∨ u = 4 ∨ u = 5 := by omega
    rcases cs with e | e | e | e | e | e <;> rw [e] <;> omega
  unfold D_F_react D_M_react
  rw [b_oc (h.fix.hUn u hu), h.uh u hu, totM, b_ob, b_oj]
  generalize hmm : nt (s 3 u) = m at *
  rcases Nat.eq_zero_or_pos m with m0 | m0
  · have t0 : tU s u = 0 := by unfold tU; rw [hmm, m0]; rfl
    rw [if_pos (by rw [hm, m0]; rfl), t0, if_pos (show nI 0 = 0 from rfl)]
    dsimp only
    rw [if_pos rfl]
    exact ⟨K, c, s, rfl, rfl, h, hI, KS.rfl, rfl, ⟨Nat.le_refl _, by omega, by omega⟩, rfl, rfl, Or.inl (fun _ _ => rfl)⟩
  have t1 : 1 ≤ tU s u := by
    have := gs_ge (g := fun v => v) (x := fun j => nt (s 5 (100 * u + j))) (m := m) (fun k hk => (U3 k hk).2)
    unfold tU
    rw [hmm]; omega
  rw [if_neg (by rw [hm]; exact nI_ne0 m0 (by omega)), if_neg (nI_ne0 (by omega) (by omega)), b_oc h.fix.h12, h.fix.f33, b_oc h.fix.h14]
  have g31 := hI.i31
  have l31 := g31.lt
  have e31 := g31.eq
  by_cases full : nt (s 31 0) = 100
  · obtain ⟨c2, s2, w1, w2, w3, w4, w5, w6, w7, w8, w9, w10, w11, w12⟩ := close_both (f := f) h hI hf ht (on_ne hon).1 (how := 6) (by decide)
    have e31 : s 31 0 = nI 100 := by rw [g31.eq, full]
    have isf : D_K_isFull f 14 c = some (nI 1, c) := by
      unfold D_K_isFull
      rw [b_oc h.fix.h14]
      simp only [b_oj, h.ln, e31, if_neg (show ¬ nI 100 < nI 100 by decide), ozb_1]
    rw [isf, b_ob, if_neg (by decide), b_oc h.fix.h12, w1, b_ob, D_M_newLot, e31, if_pos rfl, w2, b_ob, b_ob]
    dsimp only
    rw [if_pos rfl]
    exact ⟨K, c2, s2, rfl, rfl, w3, w4, KS.rfl, rfl, ⟨by rw [w10]; exact Nat.le_refl _, by rw [w5]; omega, by rw [w6.1]; omega⟩, w11, w12.1 15 (by decide), Or.inr ⟨w7, w8, w9, w12.1 7 (by decide)⟩⟩
  have l100 : nt (s 31 0) < 100 := by omega
  generalize hl : nt (s 31 0) = l at *
  have isf : D_K_isFull f 14 c = some (nI 0, c) := by
    unfold D_K_isFull
    rw [b_oc h.fix.h14]
    simp only [b_oj, h.ln]
    rw [if_pos (by rw [e31]; exact nI_lt l100 (by decide)), ozb_0]
  have il := hI.il
  rw [IL, hl] at il
  have cnn := cn_new hI
  rw [hl] at cnn
  have ml : m ≤ l := php_f l m (fun j => nt (s 4 (100 * u + j))) (fun i hi => (U1 i hi).lt) (fun i hi j hj e => U2 i hi j hj (by
    have e : nt (s 4 (100 * u + i)) = nt (s 4 (100 * u + j)) := e
    rw [(U1 i hi).eq, (U1 j hj).eq, e]))
  have n32 := hI.i32
  have n32e := n32.eq
  generalize hn : nt (s 32 0) = n at *
  have l99 : l * (l - 1) ≤ 99 * 98 := Nat.mul_le_mul (by omega) (by omega)
  have hn2 : 2 * n ≤ l * (l - 1) := il.2.2.2.2.1
  have h1 := p_open (x := nI t) (y := y) h e31 l100 il.2.2.2.1 (by rw [hn]; exact cnn)
  have hI1 : Iv (kL2 K l (cN c)) W bd (sO s l (nI t) y) := inv_open hI e31 l100 _ rfl rfl
  have c16 : cI c 16 (kB K t) 0 = nI t := h.b0 t ht
  rw [isf, b_ob, if_pos (show nI 0 = 0 from rfl), b_oc h.fix.h12, b_oc hb.2.1, h.fix.f33, b_oc h.fix.h14, c16, open_C h e31 l100, b_ob, open_M e31 l100, b_ob]
  dsimp only
  rw [if_neg (nI_m1 (by omega))]
  have x31 : sO s l (nI t) y 31 0 = nI (l + 1) := by
    show rx_up (rx_up (rx_up s 33 l (nI t)) 34 l y) 31 0 (nI (l + 1)) 31 0 = _
    exact up_s
  have x35 : ∀ q, q ≤ l → sO s l (nI t) y 35 q = s 35 q := fun q hq => by
    show rx_up s 35 (l + 1) (s 32 0) 35 q = _
    exact up_o (by omega)
  have nx31 : nt (sO s l (nI t) y 31 0) = l + 1 := by rw [x31, nt_nI (by omega)]
  have kLl : kL (kL2 K l (cN c)) l = cN c := kL2_n
  have n96 := h.fix.n
  have cN1 : cN (cO c l (nI t) y) = cN c + 1 := rfl
  generalize hK1 : kL2 K l (cN c) = K1 at *
  generalize hc1 : cO c l (nI t) y = c1 at *
  have hs1 : ∀ k, k ≠ 31 → k ≠ 33 → k ≠ 34 → k ≠ 35 → sO s l (nI t) y k = s k := fun k a b c d => by
    show rx_up (rx_up (rx_up (rx_up s 33 l (nI t)) 34 l y) 31 0 (nI (l + 1))) 35 (l + 1) (s 32 0) k = s k
    funext j; rw [up_k d, up_k a, up_k c, up_k b]
  generalize hsO : sO s l (nI t) y = s1 at *
  have hm1 : s1 3 u = nI m := by rw [hs1 3 (by decide) (by decide) (by decide) (by decide)]; exact hm
  have hM : CRep K1 (cM2 c1 u m) s1 := CRep_ext h1 (fun F p hp _ => cM2_I hp) (fun F p hp => cM2_R hp) (fun p hp => cM2_H hp) (by show cN c1 ≤ cN c1 + 1 + 1; omega)
  have lhl := h1.lh l (by omega)
  rw [kLl] at lhl
  -- the parts are put
  obtain ⟨c3, v1, v2, v3, v4⟩ := uses_C (f := f) (m := m) (n := n) (p := cN c) (l := l) h1 hu hm1 (by omega) x31 l100 (fun j hj => by rw [hs1 4 (by decide) (by decide) (by decide) (by decide)]; exact U1 j hj) m 0 f (cM4 c1 u m (cN c)) (by omega) (by omega) (fun _ _ => rfl) rfl (fun q hq => by
    have z := h1.lu q (by omega)
    rw [cM4_I, cM2_I (h1.lg.1 q (by omega)).2.1, z]
    rw [hs1 32 (by decide) (by decide) (by decide) (by decide), hn]
    exact congrArg nI (cn_congr n (fun x hx => by
      show s1 36 x = if n ≤ x then s1 4 (100 * u + (x - n)) else s1 36 x
      rw [if_neg (by omega)])))
  have R3 : cR c3 = cR (cM4 c1 u m (cN c)) := congrArg (fun z => z.1) v3
  have H3 : cH c3 = cH (cM2 c1 u m) := congrArg (fun z => z.2.1) v3
  have N3 : cN c3 = cN c1 + 2 := congrArg (fun z => z.2.2.1) v3
  have Z3 : cZ c3 = cZ c1 + m + m := congrArg (fun z => z.2.2.2) v3
  have put : D_K_putInto f 14 (nI l) (some (22 + 3 * u)) c1 = some (0, c3) := by
    unfold D_K_putInto
    rw [b_oc h1.fix.h14, h1.fix.f65, b_oa h1.fix.h15 l100 (by decide), b_oc (h1.fix.hUn u hu), h1.fix.lots u hu, h1.uh u hu, hm1, copy_C (h1.fix.hLots u hu) (by omega) (by omega) (by omega), b_ob, lhl.1]
    have H1 : ∀ p, p < cN c1 → cH (cM1 c1 u m) p = cH c1 p := fun p hp => by
      show cH (cx_mk c1 (400, m) m) p = _
      rw [cH_mk, if_neg (by omega)]
    have R1 : ∀ F p j, p < cN c1 → ¬ (F = 50 ∧ p = cN c) → cR (cM3 c1 u m (cN c)) F p j = cR c1 F p j := fun F p j hp hF => by
      rw [cR_ur, if_neg (fun z => hF ⟨z.1, z.2.1⟩)]
      show cR (cx_mk c1 (400, m) m) F p j = _
      rw [cR_mk, if_neg (by omega)]
    have I1 : ∀ F p j, p < cN c1 → cI (cM3 c1 u m (cN c)) F p j = cI c1 F p j := fun F p j hp => by
      show cI (cM1 c1 u m) F p j = _
      rw [cp_I, if_neg (by omega), cI_mk, if_neg (by omega)]
    rw [b_oc (show cH (cM1 c1 u m) (cN c) = some (3, 0) by rw [H1 _ (by omega)]; exact lhl.2.1), b_oc (show cH (cM1 c1 u m) 14 = some (4, 0) by rw [H1 _ (by omega)]; exact h1.fix.h14)]
    rw [show cR (cx_ur (cM1 c1 u m) 50 (cN c) 0 (some (cN c1))) 65 14 0 = some 15 by rw [R1 65 14 0 (by omega) (by omega)]; exact h1.fix.f65, b_oa (show cH (cM1 c1 u m) 15 = some (406, 100) by rw [H1 _ (by omega)]; exact h1.fix.h15) l100 (by decide), b_oc (show cH (cM1 c1 u m) (22 + 3 * u) = some (10, 0) by rw [H1 _ (by omega)]; exact h1.fix.hUn u hu)]
    rw [show cR (cx_ur (cM1 c1 u m) 50 (cN c) 0 (some (cN c1))) 164 (22 + 3 * u) 0 = some (24 + 3 * u) by rw [R1 164 _ 0 (by omega) (by omega)]; exact h1.fix.amts u hu, show cI (cx_ur (cM1 c1 u m) 50 (cN c) 0 (some (cN c1))) 162 (22 + 3 * u) 0 = nI m by rw [I1 162 _ 0 (by omega), h1.uh u hu]; exact hm1]
    rw [copy_C (c := cM3 c1 u m (cN c)) (show cH (cM1 c1 u m) (24 + 3 * u) = some (400, 100) by rw [H1 _ (by omega)]; exact h1.fix.hAmts u hu) (by omega) (by omega) (show 96 ≤ cN c1 + 1 by omega), b_ob]
    rw [show cR (cx_ur (cM1 c1 u m) 50 (cN c) 0 (some (cN c1))) 406 15 l = some (cN c) by rw [R1 406 15 l (by omega) (by omega)]; exact lhl.1]
    rw [b_oc (show cH (cx_cp (cx_mk (cM3 c1 u m (cN c)) (400, m) m) (cN (cM3 c1 u m (cN c))) (24 + 3 * u) m) (cN c) = some (3, 0) by
      show cH (cM2 c1 u m) (cN c) = _
      rw [cM2_H (by omega)]; exact lhl.2.1)]
    exact v1
  -- the reference's rows
  obtain ⟨sM, q1, q2, q3, q4⟩ := react_34M (f := f) (s := s1) (n := n) (x1 := nI (tU s u)) (x4 := nI l) (kk := (fun  (s10 : rx_S) => og 101 (s10 31 0) fun j11 => og 6 (nI u) fun j12 => og 600 ((nI 100) * nI u) fun j13 => some (0, rx_up (rx_up (rx_up (rx_up s10 35 j11 (s10 32 0)) 3 j12 (nI 1)) 4 j13 (nI l)) 5 j13 (nI (tU s u))))) hu hm1 (by omega) (by omega) m 0 f s1 (by omega) (by omega) (fun _ _ _ _ => rfl) (by rw [hs1 32 (by decide) (by decide) (by decide) (by decide)]; exact n32e) (fun x hx => by
    show s1 36 x = (if n ≤ x then s1 4 (100 * u + (x - n)) else s1 36 x) ∧ s1 37 x = (if n ≤ x then s1 5 (100 * u + (x - n)) else s1 37 x)
    rw [if_neg (by omega), if_neg (by omega)]; exact ⟨rfl, rfl⟩) (fun _ _ => rfl)
  have sM31 : sM 31 0 = nI (l + 1) := by rw [q2 31 (by decide) (by decide) (by decide)]; exact x31
  rw [b_oc h1.fix.h12, h1.fix.f33, b_oc h1.fix.h14, put, b_ob, q1, sM31, b_og (show l + 1 < 101 by omega) (by decide), b_og hu (by decide), pk_mul, b_og (show 100 * u < 600 by omega) (by decide), q3]
  have sX35 : ∀ q, q ≤ l → rx_up sM 35 (l + 1) (nI (n + m)) 35 q = s 35 q := fun q hq => by
    rw [up_o (by omega), q2 35 (by decide) (by decide) (by decide)]; exact x35 q hq
  have sX35l : rx_up sM 35 (l + 1) (nI (n + m)) 35 (l + 1) = nI (n + m) := up_s
  have sXo : ∀ k, k ≠ 32 → k ≠ 35 → k ≠ 36 → k ≠ 37 → rx_up sM 35 (l + 1) (nI (n + m)) k = s1 k := fun k a b c d => by
    funext j; rw [up_k b, q2 k a c d]
  have sX32 : rx_up sM 35 (l + 1) (nI (n + m)) 32 0 = nI (n + m) := q3
  have sX36 : ∀ x, x < n + m → rx_up sM 35 (l + 1) (nI (n + m)) 36 x = row s1 u n 4 (s1 36) x ∧ rx_up sM 35 (l + 1) (nI (n + m)) 37 x = row s1 u n 5 (s1 37) x := fun x hx => q4 x hx
  have il1 := il.2.2.1
  have n35 : nt (s 35 l) = n := by rw [il.2.2.2.1, n32e, nt_nI (by omega)]
  have le35 : ∀ d q, q + d = l → nt (s 35 q) ≤ n := by
    intro d
    induction d with
    | zero => intro q hq; rw [show q = l by omega, n35]; exact Nat.le_refl _
    | succ d ih =>
      intro q hq
      have := ih (q + 1) (by omega)
      have := il1 q (by omega)
      omega
  generalize hsX : rx_up sM 35 (l + 1) (nI (n + m)) = sX at *
  have pll : pl (sX 35) l = m := by
    unfold pl
    rw [sX35 l (by omega), sX35l, nt_nI (by omega), n35]; omega
  have plo : ∀ q, q < l → pl (sX 35) q = pl (s1 35) q := fun q hq => by
    unfold pl
    rw [sX35 q (by omega), sX35 (q + 1) (by omega), x35 q (by omega), x35 (q + 1) (by omega)]
  have X31 : sX 31 = s1 31 := sXo 31 (by decide) (by decide) (by decide) (by decide)
  have X15 : sX 15 = s1 15 := sXo 15 (by decide) (by decide) (by decide) (by decide)
  have hX : CRep (kPQ K1 (fun q => if q = l then cN c1 else kP K1 q) (fun q => if q = l then cN c1 + 1 else kQ K1 q)) c3 sX := by
    refine CRep_lots hM v2 (fun F h1 h2 => by rw [R3, cM4_R h1 h2]) H3 N3 (fun k hk => sXo k hk.2.1 hk.2.2.1 hk.2.2.2.1 hk.2.2.2.2) ?_ ?_ ?_ ?_ ?_ <;> rw [X31, nx31]
    · intro q hq
      have z := h1.lh q (by omega)
      have zg := h1.lg.1 q (by omega)
      rw [H3, R3]
      show cR (cM4 c1 u m (cN c)) 406 15 q = some (kL K1 q) ∧ cH (cM2 c1 u m) (kL K1 q) = some (3, 0) ∧ cR (cM4 c1 u m (cN c)) 50 (kL K1 q) 0 = some (if q = l then cN c1 else kP K1 q) ∧ cR (cM4 c1 u m (cN c)) 51 (kL K1 q) 0 = some (if q = l then cN c1 + 1 else kQ K1 q) ∧ cH (cM2 c1 u m) (if q = l then cN c1 else kP K1 q) = some (400, pl (sX 35) q) ∧ cH (cM2 c1 u m) (if q = l then cN c1 + 1 else kQ K1 q) = some (400, pl (sX 35) q)
      rw [cM4_R (by decide) (by decide), cM2_R (by omega), cM2_H zg.2.1, cM4_50 zg.2.1, cM4_51 zg.2.1]
      by_cases e : q = l
      · subst e
        rw [if_pos rfl, if_pos rfl, if_pos kLl, if_pos kLl, cM2_HP, cM2_HQ, pll]
        exact ⟨z.1, z.2.1, rfl, rfl, rfl, rfl⟩
      · have ne : ¬ kL K1 q = cN c := fun w => e (h1.lg.2.1 q (by omega) l (by omega) (by rw [w, kLl]))
        rw [if_neg e, if_neg e, if_neg ne, if_neg ne, plo q (by omega), cM2_H zg.2.2.2.1, cM2_H zg.2.2.2.2.2]
        exact z
    · refine ⟨fun q hq => ?_, fun q hq q2 hq2 e => h1.lg.2.1 q (by omega) q2 (by omega) e, fun q hq t2 ht2 => ?_⟩
      · show 96 ≤ kL K1 q ∧ kL K1 q < cN c3 ∧ ((if q = l then cN c1 else kP K1 q) = 0 ∨ 96 ≤ (if q = l then cN c1 else kP K1 q)) ∧ (if q = l then cN c1 else kP K1 q) < cN c3 ∧ ((if q = l then cN c1 + 1 else kQ K1 q) = 0 ∨ 96 ≤ (if q = l then cN c1 + 1 else kQ K1 q)) ∧ (if q = l then cN c1 + 1 else kQ K1 q) < cN c3
        have z := h1.lg.1 q (by omega)
        rw [N3]
        by_cases e : q = l
        · rw [if_pos e, if_pos e]; omega
        · rw [if_neg e, if_neg e]; omega
      · show ((if q = l then cN c1 else kP K1 q) < kB K1 t2 ∨ kB K1 t2 + 13 ≤ (if q = l then cN c1 else kP K1 q)) ∧ ((if q = l then cN c1 + 1 else kQ K1 q) < kB K1 t2 ∨ kB K1 t2 + 13 ≤ (if q = l then cN c1 + 1 else kQ K1 q))
        rw [X15] at ht2
        have z := h1.lg.2.2 q (by omega) t2 ht2
        have zb := h1.bg.1 t2 ht2
        by_cases e : q = l
        · rw [if_pos e, if_pos e]; omega
        · rw [if_neg e, if_neg e]; exact z
    · intro q hq
      show cI c3 52 (kL K1 q) 0 = nI (cn (sX 36) q (nt (sX 32 0)))
      rw [v4 q hq, sX32, nt_nI (by omega)]
      exact congrArg nI (cn_congr (n + m) (fun x hx => ((sX36 x hx).1).symm))
    · intro q hq j hj
      show cI c3 400 (if q = l then cN c1 else kP K1 q) j = sX 36 (nt (sX 35 q) + j)
      rw [v2 400 (by decide), sX35 q (by omega)]
      by_cases e : q = l
      · subst e
        rw [pll] at hj
        rw [if_pos rfl, cM2_P (by omega) hj, h1.ul u hu j (by rw [hm1, nt_nI (by omega)]; exact hj), n35, (sX36 (n + j) (by omega)).1]
        show _ = if n ≤ n + j then s1 4 (100 * u + (n + j - n)) else s1 36 (n + j)
        rw [if_pos (by omega), show n + j - n = j by omega]
      · rw [plo q (by omega)] at hj
        have z := h1.lp q (by omega) j hj
        have zg := h1.lg.1 q (by omega)
        have b1 := le35 (l - (q + 1)) (q + 1) (by omega)
        have b2 : pl (s1 35) q = nt (s 35 (q + 1)) - nt (s 35 q) := by unfold pl; rw [x35 q (by omega), x35 (q + 1) (by omega)]
        rw [if_neg e, cM2_I zg.2.2.2.1, z, x35 q (by omega), (sX36 _ (by omega)).1]
        show _ = if n ≤ nt (s 35 q) + j then s1 4 (100 * u + (nt (s 35 q) + j - n)) else s1 36 (nt (s 35 q) + j)
        rw [if_neg (by omega)]
    · intro q hq j hj
      show cI c3 400 (if q = l then cN c1 + 1 else kQ K1 q) j = sX 37 (nt (sX 35 q) + j)
      rw [v2 400 (by decide), sX35 q (by omega)]
      by_cases e : q = l
      · subst e
        rw [pll] at hj
        rw [if_pos rfl, cM2_Q (by omega) hj, h1.ua u hu j (by rw [hm1, nt_nI (by omega)]; exact hj), n35, (sX36 (n + j) (by omega)).2]
        show _ = if n ≤ n + j then s1 5 (100 * u + (n + j - n)) else s1 37 (n + j)
        rw [if_pos (by omega), show n + j - n = j by omega]
      · rw [plo q (by omega)] at hj
        have z := h1.lq q (by omega) j hj
        have zg := h1.lg.1 q (by omega)
        have b1 := le35 (l - (q + 1)) (q + 1) (by omega)
        have b2 : pl (s1 35) q = nt (s 35 (q + 1)) - nt (s 35 q) := by unfold pl; rw [x35 q (by omega), x35 (q + 1) (by omega)]
        rw [if_neg e, cM2_I zg.2.2.2.2.2, z, x35 q (by omega), (sX36 _ (by omega)).2]
        show _ = if n ≤ nt (s 35 q) + j then s1 5 (100 * u + (nt (s 35 q) + j - n)) else s1 37 (nt (s 35 q) + j)
        rw [if_neg (by omega)]
  -- the unit holds one lot
  have X3 : sX 3 = s 3 := by rw [sXo 3 (by decide) (by decide) (by decide) (by decide), hs1 3 (by decide) (by decide) (by decide) (by decide)]
  have X4 : sX 4 = s 4 := by rw [sXo 4 (by decide) (by decide) (by decide) (by decide), hs1 4 (by decide) (by decide) (by decide) (by decide)]
  have X5 : sX 5 = s 5 := by rw [sXo 5 (by decide) (by decide) (by decide) (by decide), hs1 5 (by decide) (by decide) (by decide) (by decide)]
  have tot3 : D_U_total f (22 + 3 * u) c3 = some (nI (tU s u), c3) := by
    rw [b_totC hX hf hu (by rw [X3]; exact hI.i3 u hu), X3, X5, sm_tU (fun j hj => (U3 j (by omega)).1.eq)]
  have hA : CRep _ (cx_ui c3 162 (22 + 3 * u) 0 (nI 0)) (rx_up sX 3 u (nI 0)) := p_held hX (fun j hj => by rw [b_nt0] at hj; omega)
  have a3 : ∀ v, v < 6 → nt (rx_up sX 3 u (nI 0) 3 v) ≤ 100 := fun v hv => by
    by_cases e : v = u
    · rw [e, up_s, b_nt0]; omega
    · rw [up_o e, X3]; have := (hI.i3 v hv).lt; omega
  have hB := p_lotin (u := u) (j := 0) (x := nI l) hA a3 hu (by decide)
  have hC := p_amt (s := rx_up (rx_up sX 3 u (nI 0)) 4 (100 * u + 0) (nI l)) (u := u) (j := 0) (x := nI (tU s u)) hB a3 hu (by decide)
  have hD := p_held (s := rx_up (rx_up (rx_up sX 3 u (nI 0)) 4 (100 * u + 0) (nI l)) 5 (100 * u + 0) (nI (tU s u))) (u := u) (x := nI 1) hC (fun j hj => by
    rw [nt_nI (by decide)] at hj
    have j0 : j = 0 := by omega
    subst j0
    refine ⟨?_, ?_⟩
    · rw [ui_o (by omega), ui_s]
      show _ = rx_up (rx_up sX 3 u (nI 0)) 4 (100 * u + 0) (nI l) 4 (100 * u + 0)
      rw [up_s]
    · rw [ui_s, up_s])
  have addE : D_U_add f (22 + 3 * u) (nI l) (nI (tU s u)) (cx_ui c3 162 (22 + 3 * u) 0 (nI 0)) = some (0, cx_ui (cx_ui (cx_ui (cx_ui c3 162 (22 + 3 * u) 0 (nI 0)) 400 (23 + 3 * u) 0 (nI l)) 400 (24 + 3 * u) 0 (nI (tU s u))) 162 (22 + 3 * u) 0 (nI 1)) := by
    have hAf := hA.fix
    obtain ⟨f, rfl⟩ : ∃ k', f = k' + 1 := ⟨f - 1, by omega⟩
    unfold D_U_add
    have z162 : ∀ a b x y, cI (cx_ui (cx_ui (cx_ui c3 162 (22 + 3 * u) 0 (nI 0)) 400 a 0 x) 400 b 0 y) 162 (22 + 3 * u) 0 = nI 0 := fun a b x y => by
      show cI (cx_ui c3 162 (22 + 3 * u) 0 (nI 0)) 162 (22 + 3 * u) 0 = nI 0
      rw [ui_s]
    have z162' : ∀ a x, cI (cx_ui (cx_ui c3 162 (22 + 3 * u) 0 (nI 0)) 400 a 0 x) 162 (22 + 3 * u) 0 = nI 0 := fun a x => by
      show cI (cx_ui c3 162 (22 + 3 * u) 0 (nI 0)) 162 (22 + 3 * u) 0 = nI 0
      rw [ui_s]
    rw [if_pos (show 0 < nI (tU s u) from nI_lt (a := 0) (by omega) (by omega)), b_oc (hAf.hUn u hu), D_U_placeOf, D_U_placeOf_2, b_oc (hAf.hUn u hu), ui_s, if_pos (Int32.le_refl _), b_ob, b_oj, if_pos rfl, b_oc (hAf.hUn u hu), ui_s, if_neg (by decide), hAf.lots u hu, b_oa (hAf.hLots u hu) (by decide) (by decide)]
    rw [show cR (cx_ui (cx_ui c3 162 (22 + 3 * u) 0 (nI 0)) 400 (23 + 3 * u) 0 (nI l)) 164 (22 + 3 * u) 0 = some (24 + 3 * u) from hAf.amts u hu, z162', b_oa (hAf.hAmts u hu) (by decide) (by decide), z162]
    rfl
  rw [b_oc (hX.fix.hUn u hu), tot3, b_ob, b_oc (hX.fix.hUn u hu), addE, b_ob]
  refine ⟨_, _, _, rfl, rfl, CRep_s hD (fun k hk => ?_), ?_, ?_, ?_, ?_, ?_, ?_, Or.inl (fun k hk => ?_)⟩
  · by_cases e3 : k = 3
    · subst e3
      show rx_up sX 3 u (nI 1) 3 = rx_up (rx_up (rx_up (rx_up sX 3 u (nI 0)) 4 (100 * u + 0) (nI l)) 5 (100 * u + 0) (nI (tU s u))) 3 u (nI 1) 3
      funext j
      by_cases e : j = u
      · rw [e, up_s, up_s]
      · rw [up_o e, up_o e]
        show sX 3 j = rx_up sX 3 u (nI 0) 3 j
        rw [up_o e]
    · by_cases e5 : k = 5
      · subst e5
        rfl
      · by_cases e4 : k = 4
        · subst e4
          rfl
        · funext j
          rw [up_k e5, up_k e4, up_k e3, up_k e3, up_k e5, up_k e4, up_k e3]
  · refine inv_parts (l := l) (n := n) (m := m) (T := tU s u) hI1 (fun k hk => ?_) hu x31 l100 (by rw [hs1 32 (by decide) (by decide) (by decide) (by decide)]; exact hn) ml ?_ (fun v e => ?_) ?_ ?_ (fun j hj => ⟨?_, ?_⟩) ?_ t1 (by omega) sX32 (fun q hq => by rw [x35 q hq]; exact sX35 q hq) sX35l (by rw [x35 l (by omega), il.2.2.2.1, n32e]) hn2 (fun x hx => ?_) (fun j hj => ?_) ?_ ?_
    · funext j; rw [up_k (by omega), up_k (by omega), up_k (by omega), sXo k (by omega) (by omega) (by omega) (by omega)]
    · show rx_up sX 3 u (nI 1) 3 u = _
      exact up_s
    · show rx_up sX 3 u (nI 1) 3 v = _
      rw [up_o e, sXo 3 (by decide) (by decide) (by decide) (by decide)]
    · show rx_up (rx_up sX 3 u (nI 1)) 4 (100 * u) (nI l) 4 (100 * u) = _
      exact up_s
    · exact up_s
    · show rx_up (rx_up sX 3 u (nI 1)) 4 (100 * u) (nI l) 4 j = _
      rw [up_o (by omega)]
      show sX 4 j = _
      rw [sXo 4 (by decide) (by decide) (by decide) (by decide)]
    · rw [up_o (by omega)]
      show sX 5 j = _
      rw [sXo 5 (by decide) (by decide) (by decide) (by decide)]
    · unfold tU
      rw [hs1 3 (by decide) (by decide) (by decide) (by decide), hs1 5 (by decide) (by decide) (by decide) (by decide)]
    · show sX 36 x = _
      rw [(sX36 x (by omega)).1]
      show (if n ≤ x then s1 4 (100 * u + (x - n)) else s1 36 x) = _
      rw [if_neg (by omega)]
    · show rg (sX 36 (n + j)) l
      rw [(sX36 (n + j) (by omega)).1]
      show rg (if n ≤ n + j then s1 4 (100 * u + (n + j - n)) else s1 36 (n + j)) l
      rw [if_pos (by omega), show n + j - n = j by omega, hs1 4 (by decide) (by decide) (by decide) (by decide)]
      exact U1 j hj
    · rfl
    · rfl
  · rw [← hK1]; exact ⟨rfl, rfl, rfl, rfl⟩
  · rw [← hK1]; rfl
  · have g31 : nt (sX 31 0) = l + 1 := by rw [X31]; exact nx31
    have z1 : cZ c1 = cZ c + 5 := by rw [← hc1]; rfl
    rw [hl]
    show l ≤ nt (sX 31 0) ∧ cN c3 ≤ cN c + 3 * (nt (sX 31 0) - l) ∧ cZ c3 ≤ cZ c + 300 * (nt (sX 31 0) - l)
    rw [g31, N3, Z3, z1, cN1]
    omega
  · show sX 0 0 = s 0 0
    rw [sXo 0 (by decide) (by decide) (by decide) (by decide), hs1 0 (by decide) (by decide) (by decide) (by decide)]
  · show sX 15 = s 15
    rw [X15, hs1 15 (by decide) (by decide) (by decide) (by decide)]
  · funext j
    rw [up_k (by omega), up_k (by omega), up_k (by omega), sXo k (by omega) (by omega) (by omega) (by omega), hs1 k (by omega) (by omega) (by omega) (by omega)]
end RE2
