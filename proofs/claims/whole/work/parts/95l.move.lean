/-! a token's work: move and react -/
section MRE
variable {f : Nat} {K : kx} {W : Nat → Nat → Nat} {bd bd2 : Nat} {c : cx_S} {s : rx_S}
theorem go_2 {t i : Nat} (h : CRep K c s) (hI : Iv K W bd s) (hf : 2 ^ 31 ≤ f) (hbd : bd + 1010 < 2 ^ 27) (ht : t < nt (s 15 0)) (on : s 18 t = nI 2 ∨ s 18 t = nI 4) (hi : i < nt (s 19 t)) (hb : s 26 (8 * t + i) = nI 1) (kd : ka s t i = nI 2) : Gt f K W (bd + 1010) t i c s := by
  have b := hI.ib t ht
  have r4 := b.1.lt
  have l9 := b.2.2.2.2.1.lt
  have it := hI.it t ht i hi
  have al := it.1.lt
  have m12 := (hI.i7 _ r4).lt
  have hS := rel_ss hI ht al
  have k4 : zk s (nt (s 16 t)) (nt (s 23 (8 * t + i))) = 2 := by show nt (ka s t i) = 2; rw [kd]; rfl
  have a1 := hS.1 (by omega)
  have a4 := hS.2.2.2.1 k4
  have kn4 : ka s t i ≠ nI 4 := by rw [kd]; decide
  have lf := left_of h ht hi hb kn4
  have hT := h.th t ht i (by omega)
  have hstp := h.sh _ r4 _ al
  have aE := h.s1 _ r4 _ al
  have bE := h.s2 _ r4 _ al
  obtain ⟨u, hu, eu, hU⟩ := unit_of (f := f) h hI ht (on24 on) a1.1.lt a1.2
  obtain ⟨w, hw, ew, hW2⟩ := unit_of (f := f) h hI ht (on24 on) a4.1.lt a4.2.1
  have huw : u ≠ w := fun z => a4.2.2.1 ((b.2.2.2.2.2.2.1 (on24 on)).2 _ a1.1.lt _ a4.1.lt (by rw [eu]; exact nI_m1 (by omega)) (by rw [eu, ew, z]))
  have g3 := hI.i3 u hu
  have iu := hI.iu u hu
  have totM : D_M_total f (nI u) s = some (nI (tU s u), s) := by
    rw [b_totM hf hu g3, sm_tU (fun j hj => (iu.2.2 j hj).1.eq)]
  have totC : D_U_total f (22 + 3 * u) c = some (nI (tU s u), c) := by
    rw [b_totC h hf hu g3, sm_tU (fun j hj => (iu.2.2 j hj).1.eq)]
  have tb := tU_le hI hu
  generalize hTt : tU s u = T at *
  -- v goes over; y is left
  have key : ∃ v y c0, (v ≤ 0 ∨ ∃ A, 1 ≤ A ∧ A ≤ 10 ∧ v = nI A ∧ A ≤ T) ∧ (y ≤ 0 ↔ y = 0) ∧ cI c0 146 (kT K t i) 0 - v = y ∧ (c0 = c ∨ c0 = cx_ui c 146 (kT K t i) 0 (cI c0 146 (kT K t i) 0)) ∧
      (∀ J : Int32 → cx_S → Option (Int32 × cx_S), (if z10 (s 24 (8 * t + i)) ≤ nI T then J (z10 (s 24 (8 * t + i))) c else oc 9 (some (kT K t i)) c fun p20 => J (nI T) (cx_ui c 146 p20 0 (nI T))) = J v c0) ∧
      D_M_works f (nI t) (nI i) s = if v ≤ 0 then some (o01 y, rx_up s 24 (8 * t + i) y) else ob (D_M_carry f (nI u) (nI w) v (rx_up s 24 (8 * t + i) y)) fun _ s9 => some (o01 (s9 24 (8 * t + i)), s9) := by
    have wk := works_2 (f := f) (hI.t16 ht) (show i < 8 by omega) b.1.eq r4 it.1.eq (show nt (s 23 (8 * t + i)) < 12 by omega) a1.1.eq a1.1.lt kd a4.1.eq a4.1.lt (show D_M_total f (s 22 (3 * t + nt (s 10 (12 * nt (s 16 t) + nt (s 23 (8 * t + i)))))) s = some (nI T, s) by rw [eu]; exact totM)
    rw [eu, ew] at wk
    by_cases z : z10 (s 24 (8 * t + i)) ≤ nI T
    · rw [if_pos z] at wk
      refine ⟨z10 (s 24 (8 * t + i)), _, c, ?_, z10_left, by rw [lf], Or.inl rfl, fun J => by rw [if_pos z], wk⟩
      by_cases y : z10 (s 24 (8 * t + i)) ≤ 0
      · exact Or.inl y
      · obtain ⟨A, A1, A2, A3⟩ := z10_pos y
        exact Or.inr ⟨A, A1, A2, A3, by rw [A3] at z; exact (nI_leI (by omega) (by omega)).mp z⟩
    · rw [if_neg z] at wk
      refine ⟨nI T, nI 0, cx_ui c 146 (kT K t i) 0 (nI T), ?_, ⟨fun _ => rfl, fun _ => by decide⟩, by rw [ui_s, Int32.sub_self]; rfl, Or.inr (by rw [ui_s]), fun J => by rw [if_neg z, b_oc hT.2], wk⟩
      rcases Nat.eq_zero_or_pos T with y | y
      · exact Or.inl (by rw [y]; decide)
      · refine Or.inr ⟨T, y, ?_, rfl, Nat.le_refl _⟩
        have z2 : nI T < z10 (s 24 (8 * t + i)) := Int32.not_le.mp z
        have z3 : z10 (s 24 (8 * t + i)) ≤ nI 10 := by
          unfold z10
          by_cases q : nI 10 ≤ s 24 (8 * t + i)
          · rw [if_pos q]; exact Int32.le_refl _
          · rw [if_neg q]; exact Int32.le_of_lt (Int32.not_le.mp q)
        exact (nI_leI (by omega) (by decide)).mp (Int32.le_of_lt (Int32.lt_of_lt_of_le z2 z3))
  obtain ⟨v, y, c0, q1, lv, q2, q3, q4, q5⟩ := key
  have cu0 : CU c0 s := by
    rcases q3 with e | e
    · rw [e]; exact h.cu
    · rw [e]; exact CU_ui h.cu (by decide) (by decide)
  have h1 : CRep K (cx_ui c0 146 (kT K t i) 0 y) (rx_up s 24 (8 * t + i) y) := by
    have := p_left (x := y) h ht hi (fun _ => kn4)
    rcases q3 with e | e
    · rw [e]; exact this
    · rw [e, ui_ui]; exact this
  have F0 : ∀ {F p j : Nat}, F ≠ 146 → cI c0 F p j = cI c F p j := fun {F p j} hF => by
    rcases q3 with e | e
    · rw [e]
    · rw [e, ui_F hF]
  have R0 : c0.2 = c.2 := by
    rcases q3 with e | e
    · rw [e]
    · rw [e]; rfl
  have RR : cR c0 = cR c := congrArg (fun z => z.1) R0
  have HH : cH c0 = cH c := congrArg (fun z => z.2.1) R0
  have hI1 : Iv K W bd (rx_up s 24 (8 * t + i) y) := inv_24 hI ht (on24 on) (fun _ z => by rw [kd] at z; rcases z with z | z <;> exact absurd z (by decide)) (by omega)
  obtain ⟨c2, s2, x1, x2, x3, x4, x5, x6⟩ := xfer (f := f) (v := v) (s := rx_up s 24 (8 * t + i) y) (CU_s cu0 rfl rfl rfl) hI1 hf hbd hu hw huw (by
    show v ≤ 0 ∨ ∃ A, 1 ≤ A ∧ A ≤ 10 ∧ v = nI A ∧ A ≤ tU s u
    rw [hTt]; exact q1)
  have h2 : CRep K (cx_ui c2 146 (kT K t i) 0 y) s2 := CRep_U h1 (CU_ui x3 (by decide) (by decide)) (Fq_ui x4) x6
  have f15 : s2 15 = s 15 := x6 15 (by decide) (by decide) (by decide) (by decide)
  have f16 : s2 16 = s 16 := x6 16 (by decide) (by decide) (by decide) (by decide)
  have f9 : s2 9 = s 9 := x6 9 (by decide) (by decide) (by decide) (by decide)
  have f18 : s2 18 = s 18 := x6 18 (by decide) (by decide) (by decide) (by decide)
  have f19 : s2 19 = s 19 := x6 19 (by decide) (by decide) (by decide) (by decide)
  have f23 : s2 23 = s 23 := x6 23 (by decide) (by decide) (by decide) (by decide)
  have f24 : s2 24 (8 * t + i) = y := by rw [x6 24 (by decide) (by decide) (by decide) (by decide), up_s]
  have f30 : s2 30 = s 30 := x6 30 (by decide) (by decide) (by decide) (by decide)
  have f31 : s2 31 = s 31 := x6 31 (by decide) (by decide) (by decide) (by decide)
  have ek : ka s2 t i = ka s t i := by unfold ka; rw [f9, f16, f23]
  have N2 : cN c2 = cN c := by rw [x4.N]; exact congrArg (fun z => z.2.2.1) R0
  have Z2 : cZ c2 = cZ c := by rw [x4.Z]; exact congrArg (fun z => z.2.2.2) R0
  obtain ⟨c3, s3, y1, y2, y3⟩ := end_tok (f := f) (x7 := o01 y) (bd2 := bd + 1010) (c := c) (s := s) h2 x5 (by omega) (by omega) (by rw [f15]; exact ht) (by rw [f18]; exact on) (by rw [f19]; exact hi) (by rw [ek, kd]; decide) (by
    rw [ui_s]
    by_cases z : y = 0
    · exact Or.inr ⟨o01_0 z, lv.mpr z, (by rw [ek, kd]; decide), by omega⟩
    · exact Or.inl ⟨o01_1 z, fun w => z (lv.mp w), by omega⟩) (Gq.same (by rw [f31]) N2 Z2) (by rw [x6 0 (by decide) (by decide) (by decide) (by decide)]; rfl) f15 f18 f19 f30
  rw [f16, f23] at y1
  refine ⟨K, c3, s3, ?_, fun J => ?_, y3⟩
  · have u2 : D_F_unitFor f 12 (some (kB K t)) (nI (nt (s 11 (12 * nt (s 16 t) + nt (s 23 (8 * t + i)))))) c0 = some (some (22 + 3 * w), c0) := by
      have := hW2
      unfold D_F_unitFor at this ⊢
      obtain ⟨hb1, hb2, hb3, hb4, hb5, hb6, hb7, hb8, hb9, hb10, hb11⟩ := h.bh t ht
      have e := h.bo t ht _ a4.1.lt
      rw [ew] at e
      rw [b_oc (by rw [HH]; exact h.fix.h12), b_oc (by rw [HH]; exact hb2), RR, hb7, b_oa (by rw [HH]; exact hb11) a4.1.lt (by decide), h.fix.f32, F0 (by decide), e, b_oa (by rw [HH]; exact h.fix.h13) hw (by decide), h.fix.unA _ hw]
    rw [goOn_at h hI ht hi, gC, kd, if_neg (by decide), if_neg (by decide), if_pos rfl, b_oc h.fix.h12]
    unfold D_F_moveOn
    rw [b_oc hstp.2, b_oc h.fix.h12, aE, a1.1.eq, hU, b_ob, b_oc hT.2, b_oc (h.fix.hUn u hu), totC, b_ob, b_oj, lf, z10_c, q4 (fun (v10 : Int32) (s11 : cx_S) => oc 2 (some 12) s11 fun p12 => oc 8 (some (kS K (nt (s 16 t)) (nt (s 23 (8 * t + i))))) s11 fun p13 => ob (D_F_unitFor f p12 (some (kB K t)) (cI s11 130 p13 0) s11) fun x14 s15 => oc 5 (cR s11 34 p12 0) s15 fun p16 => ob (D_V_transfer f p16 (some (22 + 3 * u)) x14 v10 s15) fun x17 s18 => oc 9 (some (kT K t i)) s18 fun p19 => some (0, cx_ui s18 146 p19 0 ((cI s18 146 p19 0) - v10)))]
    rw [b_oc (by rw [HH]; exact h.fix.h12), b_oc (by rw [HH]; exact hstp.2), F0 (by decide), bE, a4.1.eq, u2, b_ob, RR, h.fix.f34, b_oc (by rw [HH]; exact h.fix.h17), x1, b_ob, b_oc (by rw [x4.H, HH]; exact hT.2), b_ob, x4.1 146 _ (by decide) (by omega), q2, y1]
  · rw [q5]
    have := x2 (fun s9 => some (o01 (s9 24 (8 * t + i)), s9))
    rw [up_s, f24] at this
    rw [this, b_ob, y2]
theorem go_3 {t i : Nat} (h : CRep K c s) (hI : Iv K W bd s) (hf : 2 ^ 31 ≤ f) (hbd : bd + 1010 < 2 ^ 27) (ht : t < nt (s 15 0)) (on : s 18 t = nI 2 ∨ s 18 t = nI 4) (hi : i < nt (s 19 t)) (hb : s 26 (8 * t + i) = nI 1) (kd : ka s t i = nI 3) : Gt f K W (bd + 1010) t i c s := by
  have b := hI.ib t ht
  have r4 := b.1.lt
  have l9 := b.2.2.2.2.1.lt
  have it := hI.it t ht i hi
  have al := it.1.lt
  have m12 := (hI.i7 _ r4).lt
  have hS := rel_ss hI ht al
  have k4 : zk s (nt (s 16 t)) (nt (s 23 (8 * t + i))) = 3 := by show nt (ka s t i) = 3; rw [kd]; rfl
  have a1 := hS.1 (by omega)
  have kn4 : ka s t i ≠ nI 4 := by rw [kd]; decide
  have lf := left_of h ht hi hb kn4
  obtain ⟨g1, g2⟩ := (it.2.2 hb).2.2.1 (Or.inr kd)
  have g3 : 1 ≤ nt (s 24 (8 * t + i)) := g2.elim id (fun z => by omega)
  have g4 := g1.lt
  have ge := g1.eq
  have t16 := hI.t16 ht
  have wk := works_3 (f := f) t16 (show i < 8 by omega) b.1.eq r4 it.1.eq (show nt (s 23 (8 * t + i)) < 12 by omega) a1.1.eq a1.1.lt kd
  generalize hn : nt (s 24 (8 * t + i)) = n at *
  have ev : s 24 (8 * t + i) - nI 1 = nI (n - 1) := by rw [ge, nI_sub (by omega)]
  rw [ev] at wk
  have h1 := p_left (x := nI (n - 1)) h ht hi (fun _ => kn4)
  by_cases z : n - 1 = 0
  · have hI1 : Iv K W (bd + 1099511627776 * (8 * t + i + 1)) (rx_up s 24 (8 * t + i) (nI (n - 1))) := inv_24 (Iv_b hI (by omega) (Or.inr (by omega))) ht (on24 on) (fun _ _ => ⟨by rw [z]; exact rg_of (by decide) (by decide), Or.inr (by omega)⟩) (by omega)
    obtain ⟨u, hu, eu, hU⟩ := unit_of (f := f) h1 hI1 ht (on24 on) a1.1.lt a1.2
    have eu : s 22 (3 * t + nt (s 10 (12 * nt (s 16 t) + nt (s 23 (8 * t + i))))) = nI u := eu
    obtain ⟨K2, c2, s2, v1, v2, h2, hI2, v5, v6, v7, v8, v9, v10⟩ := react_both (f := f) (u := u) (y := nI (nt (s 23 (8 * t + i)))) h1 hI1 hf (by omega) ht (on24 on) hu
    have hT := h1.th t ht i (by omega)
    have hstp := h1.sh _ r4 _ al
    have cE := h1.s0 _ r4 _ al
    have aE := h1.s1 _ r4 _ al
    have f15 : s2 15 = s 15 := v9
    have ht2 : t < nt (s2 15 0) := by rw [f15]; exact ht
    have f7 : s2 7 = s 7 := by
      rcases v10 with q | q
      · exact q 7 (by decide)
      · exact q.2.2.2
    have hT2 := h2.th t ht2 i (by omega)
    rw [v6] at hT2
    have al2 : nt (s 23 (8 * t + i)) < nt (s2 7 (nt (s 16 t))) := by rw [f7]; exact al
    have hstp2 := h2.sh _ r4 _ al2
    have nE2 := h2.s4 _ r4 _ al2
    rw [v5.1] at hstp2 nE2
    have tc := tlC_3 (f := f) (b := kB K t) hT.2 hstp.2 h1.fix.h12 (by rw [ui_s, z]; decide) (by rw [cE]; exact kd) (by rw [aE]; rw [show rx_up s 24 (8 * t + i) (nI (n - 1)) 10 (12 * nt (s 16 t) + nt (s 23 (8 * t + i))) = nI (nt (s 10 (12 * nt (s 16 t) + nt (s 23 (8 * t + i))))) from a1.1.eq]; exact hU) h1.fix.h12 (by rw [h1.ta t ht i hi, show rx_up s 24 (8 * t + i) (nI (n - 1)) 23 (8 * t + i) = nI (nt (s 23 (8 * t + i))) from it.1.eq]; exact v1) hT2.2 hstp2.2
    have gO : D_F_goOn f 12 (some (kB K t)) (some (kT K t i)) c = some (0, cG c2 (kT K t i) (cI c2 132 (kS K (nt (s 16 t)) (nt (s 23 (8 * t + i)))) 0)) := by
      rw [goOn_at h hI ht hi, gC, kd, if_neg (by decide), if_neg (by decide), if_neg (by decide), if_pos rfl, lf, ev]
      exact tc
    rw [if_pos (by rw [z]; rfl), eu, v2, b_ob] at wk
    have Gg : Gq c s c2 s2 := v7
    rcases v10 with q | q
    · -- goes on
      have f16 := q 16 (by decide)
      have f18 := q 18 (by decide)
      have f19 := q 19 (by decide)
      have f23 := q 23 (by decide)
      have f9 := q 9 (by decide)
      have f24 : s2 24 (8 * t + i) = nI (n - 1) := by rw [q 24 (by decide), up_s]
      have f16 : s2 16 = s 16 := f16
      have f18 : s2 18 = s 18 := f18
      have f19 : s2 19 = s 19 := f19
      have f23 : s2 23 = s 23 := f23
      have f9 : s2 9 = s 9 := f9
      have f30 : s2 30 = s 30 := q 30 (by decide)
      have ek : ka s2 t i = ka s t i := by unfold ka; rw [f9, f16, f23]
      obtain ⟨e1, e2⟩ := fin_tok h2 hI2 ht2 (by rw [f18]; exact on24 on) (by rw [f19]; exact hi) (by rw [ek, kd]; decide) (Or.inr (by omega))
      rw [f16, f23, v6] at e1
      rw [f16, f23] at e2
      refine ⟨K2, _, _, gO, fun J => ?_, by rw [nE2]; exact e1, Iv_b e2 (by omega) (by omega), v5, v6, Gg.tr (Gq.same rfl rfl rfl), v8, f15, Or.inl ⟨f18, f19, f30⟩⟩
      rw [wk, b_ob, f24, z, o01_0 (by rfl), tlM_1 t16 (by omega) (by rw [f16]; exact b.1.eq) r4 (by rw [f23]; exact it.1.eq) (by omega) (by rw [f18]; exact on)]
    · -- it is over
      obtain ⟨q1, q2, q3, q4⟩ := q
      have e1 : ∀ x, CRep K2 (cG c2 (kT K t i) x) s2 := fun x => by
        have := p_stale (F := 144) (x := x) (p_stale (F := 145) (x := nI 0) (i := i) h2 ht2 (by omega) q2 (Or.inr rfl)) ht2 (show i < 8 by omega) q2 (Or.inl rfl)
        rw [v6] at this
        exact this
      refine ⟨K2, _, s2, gO, fun J => ?_, e1 _, Iv_b (Iv_x (i := i) hI2 (by omega) q2 (by omega)) (by omega) (by omega), v5, v6, Gg.tr (Gq.same rfl rfl rfl), v8, f15, Or.inr ⟨q1, q2, q3⟩⟩
      rw [wk, b_ob]
      by_cases y : s2 24 (8 * t + i) = 0
      · rw [o01_0 y, tlM_x t16 q1]
      · rw [o01_1 y, tlM_0]
  · have hI1 : Iv K W bd (rx_up s 24 (8 * t + i) (nI (n - 1))) := inv_24 hI ht (on24 on) (fun _ _ => ⟨rg_of (by omega) (by decide), Or.inl (by rw [nt_nI (by omega)]; omega)⟩) (by omega)
    obtain ⟨c2, s2, y1, y2, y3⟩ := end_tok (f := f) (x7 := nI 0) (bd2 := bd + 1010) (c := c) (s := s) (s8 := rx_up s 24 (8 * t + i) (nI (n - 1))) h1 hI1 (by omega) (by omega) ht on hi (by show nt (ka s t i) ≤ 4; rw [kd]; decide) (Or.inl ⟨rfl, by rw [ui_s]; exact nI_ge (a := 0) (by omega) (by omega), by omega⟩) (Gq.same rfl rfl rfl) rfl rfl rfl rfl rfl
    refine ⟨K, c2, s2, ?_, fun J => ?_, y3⟩
    · rw [goOn_at h hI ht hi, gC, kd, if_neg (by decide), if_neg (by decide), if_neg (by decide), if_pos rfl, lf, ev]
      exact y1
    · rw [wk, if_neg (nI_ne0 (by omega) (by omega)), b_ob, o01_1 (nI_ne0 (by omega) (by omega)), y2]
theorem go_tok {t i : Nat} (h : CRep K c s) (hI : Iv K W bd s) (hf : 2 ^ 31 ≤ f) (hbd : bd + 1010 < 2 ^ 27) (ht : t < nt (s 15 0)) (on : s 18 t = nI 2 ∨ s 18 t = nI 4) (hi : i < nt (s 19 t)) (hb : s 26 (8 * t + i) = nI 1) : Gt f K W (bd + 1010) t i c s := by
  have b := hI.ib t ht
  have it := hI.it t ht i hi
  have kr := hI.i9 _ b.1.lt _ it.1.lt
  have k4 := (it.2.2 hb).2.1
  have e : ka s t i = nI (nt (ka s t i)) := kr.eq
  have cs : nt (ka s t i) = 0 ∨ nt (ka s t i) = 1 ∨ nt (ka s t i) = 2 ∨ nt (ka s t i) = 3 ∨ nt (ka s t i) = 4 := by omega
  rcases cs with q | q | q | q | q <;> rw [q] at e
  · exact go_0 h hI hf hbd ht on hi hb e
  · exact go_1 h hI hf hbd ht on hi hb e
  · exact go_2 h hI hf hbd ht on hi hb e
  · exact go_3 h hI hf hbd ht on hi hb e
  · exact go_4 h hI hf hbd ht on hi hb e
end MRE
