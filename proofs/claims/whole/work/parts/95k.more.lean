/-! a token's work: charge, move, react -/
section MOR
variable {f : Nat} {K : kx} {W : Nat → Nat → Nat} {bd bd2 : Nat} {c : cx_S} {s : rx_S}
theorem Iv_x {t i : Nat} (hI : Iv K W bd s) (hb : bd / 1099511627776 = 8 * t + i + 1) (h19 : s 19 t = nI 0) (hi : i < 8) : Iv K W (bd % 1099511627776) s := by
  refine ⟨hI.ir, hI.iw, hI.if, hI.ib, fun t2 ht2 i2 hi2 => ?_, hI.iu, by have := hI.iq; omega, hI.il, hI.ln⟩
  have l92 := (hI.ib t2 ht2).2.2.2.2.1.lt
  obtain ⟨a, d, g⟩ := hI.it t2 ht2 i2 hi2
  refine ⟨a, d, fun z => ?_⟩
  obtain ⟨d1, d2, d3, d4⟩ := g z
  refine ⟨d1, d2, fun y => ⟨(d3 y).1, ?_⟩, d4⟩
  rcases (d3 y).2 with e | e
  · exact Or.inl e
  · have e3 : t2 = t := by omega
    rw [e3, h19] at hi2
    exact absurd hi2 (Nat.not_lt_zero _)
theorem Fq_ui {F p j : Nat} {x : Int32} {c2 : cx_S} (h : Fq c c2) : Fq (cx_ui c F p j x) (cx_ui c2 F p j x) := by
  refine ⟨fun F2 p2 a b => ?_, h.2⟩
  funext j2
  rw [cI_ui, cI_ui, h.1 F2 p2 a b]
theorem CU_ui {F p j : Nat} {x : Int32} (h : CU c s) (h1 : F ≠ 162) (h2 : F ≠ 400) : CU (cx_ui c F p j x) s :=
  ⟨h.fix, fun u hu => by rw [ui_F (fun z => h1 z.symm)]; exact h.uh u hu, fun u hu j hj => by rw [ui_F (fun z => h2 z.symm)]; exact h.ul u hu j hj, fun u hu j hj => by rw [ui_F (fun z => h2 z.symm)]; exact h.ua u hu j hj⟩
theorem ui_ui {F p j : Nat} {x y : Int32} : cx_ui (cx_ui c F p j x) F p j y = cx_ui c F p j y := by
  refine Prod.ext ?_ rfl
  funext F2 p2 j2
  show (if F2 = F ∧ p2 = p ∧ j2 = j then y else if F2 = F ∧ p2 = p ∧ j2 = j then x else cI c F2 p2 j2) = if F2 = F ∧ p2 = p ∧ j2 = j then y else cI c F2 p2 j2
  by_cases e : F2 = F ∧ p2 = p ∧ j2 = j
  · rw [if_pos e, if_pos e]
  · rw [if_neg e, if_neg e, if_neg e]
theorem tU_le (hI : Iv K W bd s) {u : Nat} (hu : u < 6) : tU s u ≤ bd % 1099511627776 := by
  have z := hI.iq
  have cs : u = 0 ∨ u = 1 ∨ u = 2 ∨ u = 3 ∨ u = 4 ∨ u = 5 := by omega
  rcases cs with e | e | e | e | e | e <;> rw [e] <;> omega
theorem tU_one {s2 : rx_S} {u A : Nat} (hu : u < 6) (h1 : tU s2 u ≤ tU s u + A) (h2 : ∀ w, w < 6 → w ≠ u → tU s2 w ≤ tU s w) : tU s2 0 + tU s2 1 + tU s2 2 + tU s2 3 + tU s2 4 + tU s2 5 ≤ tU s 0 + tU s 1 + tU s 2 + tU s 3 + tU s 4 + tU s 5 + A := by
  have k0 := h2 0 (by decide)
  have k1 := h2 1 (by decide)
  have k2 := h2 2 (by decide)
  have k3 := h2 3 (by decide)
  have k4 := h2 4 (by decide)
  have k5 := h2 5 (by decide)
  have cs : u = 0 ∨ u = 1 ∨ u = 2 ∨ u = 3 ∨ u = 4 ∨ u = 5 := by omega
  rcases cs with e | e | e | e | e | e <;> subst e <;> omega
/-- from unit to unit, if at all -/
theorem xfer (hc : CU c s) (hI : Iv K W bd s) (hf : 2 ^ 31 ≤ f) (hbd : bd + 1010 < 2 ^ 27) {u w : Nat} {v : Int32} (hu : u < 6) (hw : w < 6) (huw : u ≠ w) (hv : v ≤ 0 ∨ ∃ A, 1 ≤ A ∧ A ≤ 10 ∧ v = nI A ∧ A ≤ tU s u) :
    ∃ c2 s2, D_V_transfer f 17 (some (22 + 3 * u)) (some (22 + 3 * w)) v c = some (0, c2) ∧ (∀ Q : rx_S → Option (Int32 × rx_S), (if v ≤ 0 then Q s else ob (D_M_carry f (nI u) (nI w) v s) fun _ s9 => Q s9) = Q s2) ∧ CU c2 s2 ∧ Fq c c2 ∧ Iv K W (bd + 1010) s2 ∧ ∀ k, k ≠ 3 → k ≠ 4 → k ≠ 5 → k ≤ 37 → s2 k = s k := by
  by_cases z : v ≤ 0
  · refine ⟨c, s, ?_, fun Q => by rw [if_pos z], hc, Fq.rfl, Iv_up hI (by omega) (by omega), fun _ _ _ _ _ => rfl⟩
    unfold D_V_transfer
    rw [b_oc (hc.fix.hUn u hu), u_totC hc hf hu (hI.i3 u hu), b_ob, b_oj, if_pos z]
  · obtain ⟨A, A1, A2, A3, A4⟩ := hv.resolve_left z
    have tu := tU_le hI hu
    have tw := tU_le hI hw
    have l31 := hI.i31.lt
    obtain ⟨c2, s2, y1, y2, y3, y4, y5, y6, y7, y8, y9, y10⟩ := carry_both (f := f) hc hI.iu hI.i3 (by omega) hf hu hw huw A1 A2 A4 (by omega) (by omega)
    refine ⟨c2, s2, by rw [A3]; exact y1, fun Q => by rw [if_neg z, A3, y2, b_ob], y3, y4, ?_, fun k a b c d => y5 k a b c (by omega) (by omega)⟩
    refine inv_units hI (fun k a b c d => y5 k a b c (by omega) (by omega)) y6 y7 (by omega) ?_
    have := tU_one (s := s) (s2 := s2) hw y10 (fun x hx e => by
      by_cases e2 : x = u
      · rw [e2]; exact y9
      · exact Nat.le_of_eq (y8 x hx e2 e))
    have iq := hI.iq
    omega
section KN2
theorem go_0 {t i : Nat} (h : CRep K c s) (hI : Iv K W bd s) (hf : 2 ^ 31 ≤ f) (hbd : bd + 1010 < 2 ^ 27) (ht : t < nt (s 15 0)) (on : s 18 t = nI 2 ∨ s 18 t = nI 4) (hi : i < nt (s 19 t)) (hb : s 26 (8 * t + i) = nI 1) (kd : ka s t i = nI 0) : Gt f K W (bd + 1010) t i c s := by
  have b := hI.ib t ht
  have r4 := b.1.lt
  have l9 := b.2.2.2.2.1.lt
  have it := hI.it t ht i hi
  have al := it.1.lt
  have m12 := (hI.i7 _ r4).lt
  have hS := rel_ss hI ht al
  have k4 : zk s (nt (s 16 t)) (nt (s 23 (8 * t + i))) = 0 := by show nt (ka s t i) = 0; rw [kd]; rfl
  have a1 := hS.1 (by omega)
  have kn4 : ka s t i ≠ nI 4 := by rw [kd]; decide
  have lf := left_of h ht hi hb kn4
  have lot := h.tc t ht i hi hb kd
  have gl := (it.2.2 hb).2.2.2 kd
  have hT := h.th t ht i (by omega)
  have hstp := h.sh _ r4 _ al
  have aE := h.s1 _ r4 _ al
  obtain ⟨u, hu, eu, hU⟩ := unit_of (f := f) h hI ht (on24 on) a1.1.lt a1.2
  -- what comes in
  have add : ∃ c1 s1, D_U_add f (22 + 3 * u) (cI c 147 (kT K t i) 0) (z10 (s 24 (8 * t + i))) c = some (0, c1) ∧ (∀ Q : rx_S → Option (Int32 × rx_S), (if z10 (s 24 (8 * t + i)) ≤ 0 then Q s else ob (D_M_add f (nI u) (s 25 (8 * t + i)) (z10 (s 24 (8 * t + i))) s) fun _ s9 => Q s9) = Q s1) ∧ CRep K c1 s1 ∧ Fq c c1 ∧ Iv K W (bd + 1010) s1 ∧ ∀ k, k ≠ 3 → k ≠ 4 → k ≠ 5 → k ≤ 37 → s1 k = s k := by
    by_cases z : z10 (s 24 (8 * t + i)) ≤ 0
    · refine ⟨c, s, ?_, fun Q => by rw [if_pos z], h, Fq.rfl, Iv_up hI (by omega) (by omega), fun _ _ _ _ _ => rfl⟩
      unfold D_U_add
      rw [if_neg (Int32.not_lt.mpr z)]
    · obtain ⟨A, A1, A2, A3⟩ := z10_pos z
      have tu := tU_le hI hu
      have l31 := hI.i31.lt
      have g3 := hI.i3 u hu
      have g3l := g3.lt
      obtain ⟨c2, s2, w1, w2, w3, w4, w5, w6, w7, w8⟩ := add_both (f := f) (l := nt (s 25 (8 * t + i))) (a := A) (m := nt (s 3 u)) h.cu (fun w hw => by have := (hI.i3 w hw).lt; omega) hf hu g3.eq (by omega) (hI.iu u hu) (by omega) gl.lt A1 (fun j hj => by
        have w := gs_mem (g := fun v => v) (x := fun j => nt (s 5 (100 * u + j))) hj
        have w2 : tU s u = gs (fun v => v) (fun j => nt (s 5 (100 * u + j))) (nt (s 3 u)) := rfl
        have w3 : nt (s 5 (100 * u + j)) ≤ gs (fun v => v) (fun j => nt (s 5 (100 * u + j))) (nt (s 3 u)) := w
        omega) (by omega)
      have o : ∀ w, w < 6 → w ≠ u → IU s2 w ∧ tU s2 w = tU s w := fun w hw e => IU_o w4 e (hI.iu w hw) (by have := (hI.i3 w hw).lt; omega)
      refine ⟨c2, s2, by rw [lot, A3, gl.eq]; exact w1, fun Q => by rw [if_neg z, A3, gl.eq, w2, b_ob], CRep_U h w3 (Fq_u w5 hu) (fun k a b c _ => w4.1 k a b c), Fq_u w5 hu, ?_, fun k a b c _ => w4.1 k a b c⟩
      refine inv_units hI (fun k a b c _ => w4.1 k a b c) (fun w hw => ?_) (fun w hw => ?_) (by omega) ?_
      · by_cases e : w = u
        · rw [e]; exact w8
        · rw [w4.2.1 w e]; exact hI.i3 w hw
      · by_cases e : w = u
        · rw [e]; exact w6
        · exact (o w hw e).1
      · have := tU_one (s := s) (s2 := s2) hu (Nat.le_of_eq w7) (fun w hw e => Nat.le_of_eq (o w hw e).2)
        have iq := hI.iq
        omega
  obtain ⟨c1, s1, q1, q2, q3, q4, q5, q6⟩ := add
  have f15 := q6 15 (by decide) (by decide) (by decide) (by decide)
  have f16 := q6 16 (by decide) (by decide) (by decide) (by decide)
  have f9 := q6 9 (by decide) (by decide) (by decide) (by decide)
  have f18 := q6 18 (by decide) (by decide) (by decide) (by decide)
  have f19 := q6 19 (by decide) (by decide) (by decide) (by decide)
  have f23 := q6 23 (by decide) (by decide) (by decide) (by decide)
  have f24 := q6 24 (by decide) (by decide) (by decide) (by decide)
  have f26 := q6 26 (by decide) (by decide) (by decide) (by decide)
  have f30 := q6 30 (by decide) (by decide) (by decide) (by decide)
  have f31 := q6 31 (by decide) (by decide) (by decide) (by decide)
  have ek : ka s1 t i = ka s t i := by unfold ka; rw [f9, f16, f23]
  have ht1 : t < nt (s1 15 0) := by rw [f15]; exact ht
  have hi1 : i < nt (s1 19 t) := by rw [f19]; exact hi
  generalize hv : s 24 (8 * t + i) - z10 (s 24 (8 * t + i)) = v at *
  have h2 := p_left (x := v) q3 ht1 hi1 (fun _ => by rw [ek]; exact kn4)
  have lv : v ≤ 0 ↔ v = 0 := by rw [← hv]; exact z10_left
  obtain ⟨c2, s2, y1, y2, y3⟩ := end_tok (f := f) (x7 := o01 v) (bd2 := bd + 1010) (c := c) (s := s) (s8 := rx_up s1 24 (8 * t + i) v) h2 (inv_24 q5 ht1 (by rw [f18]; exact on24 on) (fun _ z => by rw [ek, kd] at z; rcases z with z | z <;> exact absurd z (by decide)) (by omega)) (by omega) (by omega) ht1 (by show s1 18 t = nI 2 ∨ s1 18 t = nI 4; rw [f18]; exact on) hi1 (by show nt (ka s1 t i) ≤ 4; rw [ek, kd]; decide) (by
    rw [ui_s]
    by_cases z : v = 0
    · exact Or.inr ⟨o01_0 z, lv.mpr z, (by show ka s1 t i ≠ nI 3; rw [ek, kd]; decide), by omega⟩
    · exact Or.inl ⟨o01_1 z, fun y => z (lv.mp y), by omega⟩) (Gq.same (by show s1 31 0 = s 31 0; rw [f31]) q4.N q4.Z) (by show s1 0 0 = s 0 0; rw [q6 0 (by decide) (by decide) (by decide) (by decide)]) f15 f18 f19 f30
  have y1 : tlC f (kB K t) (kT K t i) (kS K (nt (s1 16 t)) (nt (s1 23 (8 * t + i)))) (cx_ui c1 146 (kT K t i) 0 v) = some (0, c2) := y1
  rw [f16, f23] at y1
  refine ⟨K, c2, s2, ?_, fun J => ?_, y3⟩
  · rw [goOn_at h hI ht hi, gC, kd, if_pos rfl, b_oc h.fix.h12]
    unfold D_F_chargeOn
    rw [b_oc hT.2, b_oc hstp.2, b_oc h.fix.h12, aE, a1.1.eq, hU, b_ob, b_oc hT.2, b_oc (h.fix.hUn u hu), lf, z10_c, q1, b_ob, b_oc (show cH c1 (kT K t i) = some (9, 0) by rw [q4.H]; exact hT.2), b_ob, q4.1 146 _ (by decide) (by omega), lf, hv, y1]
  · rw [works_0 (hI.t16 ht) (by omega) b.1.eq r4 it.1.eq (by omega) a1.1.eq a1.1.lt kd, eu]
    have := q2 (fun s9 => some (o01 (s9 24 (8 * t + i) - z10 (s 24 (8 * t + i))), rx_up s9 24 (8 * t + i) (s9 24 (8 * t + i) - z10 (s 24 (8 * t + i)))))
    rw [f24, hv] at this
    rw [hv, this, b_ob, y2]
end KN2
end MOR
