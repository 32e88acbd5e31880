/-! one change there, one here -/
section PRM
variable {K : kx} {c : cx_S} {s : rx_S}
theorem UQ_ne {w p j : Nat} {v : Int32} {x y : Nat → Int32} (q : UQ w (cI c 400) x y) (hp : ∀ u, u < 6 → w + 3 * u ≠ p) : UQ w (cI (cx_ui c 400 p j v) 400) x y := fun u hu i hi => by
  rw [cI_ui, if_neg (fun z => hp u hu z.2.1)]; exact q u hu i hi
theorem RG_ne {p j : Nat} {v : Int32} {x : Nat → Int32} (q : RG (cI c 400) x) (hp : ∀ r, r < 4 → 41 + 3 * r ≠ p) : RG (cI (cx_ui c 400 p j v) 400) x := fun r hr i hi => by
  rw [cI_ui, if_neg (fun z => hp r hr z.2.1)]; exact q r hr i hi
theorem BQ_ne {n w b p j : Nat} {v : Int32} {x : Nat → Int32} (q : BQ K n w b (cI c 400) x) (hp : ∀ t, t < n → kB K t + w ≠ p) : BQ K n w b (cI (cx_ui c 400 p j v) 400) x := fun t ht i hi => by
  rw [cI_ui, if_neg (fun z => hp t ht z.2.1)]; exact q t ht i hi
theorem LPt_ne {P : Nat → Nat} {n p j : Nat} {v : Int32} {x y : Nat → Int32} (q : LPt P n (cI c 400) x y) (hp : ∀ l, l < n → P l ≠ p) : LPt P n (cI (cx_ui c 400 p j v) 400) x y := fun l hl i hi => by
  rw [cI_ui, if_neg (fun z => hp l hl z.2.1)]; exact q l hl i hi
theorem U1_up {F k u : Nat} {v : Int32} (q : U1 (cI c F) (s k)) : U1 (cI (cx_ui c F (22 + 3 * u) 0 v) F) (rx_up s k u v k) := fun w hw => by
  rw [cI_ui, b_up]
  by_cases e : w = u
  · rw [if_pos ⟨rfl, by omega, rfl⟩, if_pos ⟨rfl, e⟩]
  · rw [if_neg (by omega), if_neg (fun z => e z.2)]; exact q w hw
theorem R1_up {F k u : Nat} {v : Int32} (q : R1 (cI c F) (s k)) : R1 (cI (cx_ui c F (40 + 3 * u) 0 v) F) (rx_up s k u v k) := fun w hw => by
  rw [cI_ui, b_up]
  by_cases e : w = u
  · rw [if_pos ⟨rfl, by omega, rfl⟩, if_pos ⟨rfl, e⟩]
  · rw [if_neg (by omega), if_neg (fun z => e z.2)]; exact q w hw
theorem bgne (h : CRep K c s) {t t2 a b : Nat} (ht : t < nt (s 15 0)) (ht2 : t2 < nt (s 15 0)) (ha : a < 13) (hb : b < 13) (e : kB K t + a = kB K t2 + b) : t = t2 ∧ a = b := by
  by_cases q : t = t2
  · subst q; exact ⟨rfl, by omega⟩
  · rcases h.bg.2 t ht t2 ht2 q with w | w <;> omega
theorem tgne (h : CRep K c s) {t t2 i i2 : Nat} (ht : t < nt (s 15 0)) (ht2 : t2 < nt (s 15 0)) (hi : i < 8) (hi2 : i2 < 8) (e : kT K t i = kT K t2 i2) : t = t2 ∧ i = i2 := by
  have q1 := h.tg.1 t ht i hi
  have q2 := h.tg.1 t2 ht2 i2 hi2
  by_cases q : t = t2
  · subst q; exact ⟨rfl, h.tg.2 t ht i hi i2 hi2 e⟩
  · rcases h.bg.2 t ht t2 ht2 q with w | w <;> omega
theorem B1_up (h : CRep K c s) {F k t : Nat} {v : Int32} (ht : t < nt (s 15 0)) (q : B1 K (nt (s 15 0)) (cI c F) (s k)) : B1 K (nt (s 15 0)) (cI (cx_ui c F (kB K t) 0 v) F) (rx_up s k t v k) := fun w hw => by
  rw [cI_ui, b_up]
  by_cases e : w = t
  · subst e; rw [if_pos ⟨rfl, rfl, rfl⟩, if_pos ⟨rfl, rfl⟩]
  · rw [if_neg (fun z => e (bgne h (a := 0) (b := 0) hw ht (by decide) (by decide) z.2.1).1), if_neg (fun z => e z.2)]; exact q w hw
theorem BQ_up (h : CRep K c s) {b w k t j : Nat} {v : Int32} (ht : t < nt (s 15 0)) (hw : w < 13) (hj : j < b) (q : BQ K (nt (s 15 0)) w b (cI c 400) (s k)) : BQ K (nt (s 15 0)) w b (cI (cx_ui c 400 (kB K t + w) j v) 400) (rx_up s k (b * t + j) v k) := fun t2 ht2 i hi => by
  rw [cI_ui, b_up]
  by_cases e : t2 = t
  · subst e
    by_cases e2 : i = j
    · subst e2; rw [if_pos ⟨rfl, rfl, rfl⟩, if_pos ⟨rfl, rfl⟩]
    · rw [if_neg (fun z => e2 z.2.2), if_neg (by omega)]; exact q t2 ht2 i hi
  · rw [if_neg (fun z => e (bgne h ht2 ht hw hw z.2.1).1), if_neg ?_]
    · exact q t2 ht2 i hi
    · intro z
      have z := z.2
      have : b * t2 + i ≠ b * t + j := by
        rcases Nat.lt_or_gt_of_ne e with l | l
        · have := Nat.mul_le_mul_left b (show t2 + 1 ≤ t from l)
          rw [Nat.mul_add, Nat.mul_one] at this
          omega
        · have := Nat.mul_le_mul_left b (show t + 1 ≤ t2 from l)
          rw [Nat.mul_add, Nat.mul_one] at this
          omega
      exact this z

theorem p_own (h : CRep K c s) {u : Nat} {x : Int32} : CRep K (cx_ui c 161 (22 + 3 * u) 0 x) (rx_up s 2 u x) :=
  ⟨h.fix, h.ug, U1_up h.uo, h.uh, h.ul, h.ua, h.rr, h.rm, h.rgr, h.sh, h.sg, h.s0, h.s1, h.s2, h.s3, h.s4, h.s5, h.bn, h.bh, h.bg, h.b0, h.b1, h.b3, h.b4, h.b5, h.bv, h.br, h.bo, h.th, h.tg, h.t8, h.ta, h.tb, h.tl, h.tc, h.ln, h.lh, h.lg, h.lb, h.lt, h.lu, h.lp, h.lq, h.nn, h.nl⟩
theorem p_grp (h : CRep K c s) {u : Nat} {x : Int32} : CRep K (cx_ui c 160 (22 + 3 * u) 0 x) (rx_up s 1 u x) :=
  ⟨h.fix, U1_up h.ug, h.uo, h.uh, h.ul, h.ua, h.rr, h.rm, h.rgr, h.sh, h.sg, h.s0, h.s1, h.s2, h.s3, h.s4, h.s5, h.bn, h.bh, h.bg, h.b0, h.b1, h.b3, h.b4, h.b5, h.bv, h.br, h.bo, h.th, h.tg, h.t8, h.ta, h.tb, h.tl, h.tc, h.ln, h.lh, h.lg, h.lb, h.lt, h.lu, h.lp, h.lq, h.nn, h.nl⟩
theorem p_rel (h : CRep K c s) {r : Nat} {x : Int32} : CRep K (cx_ui c 96 (40 + 3 * r) 0 x) (rx_up s 8 r x) :=
  ⟨h.fix, h.ug, h.uo, h.uh, h.ul, h.ua, R1_up h.rr, h.rm, h.rgr, h.sh, h.sg, h.s0, h.s1, h.s2, h.s3, h.s4, h.s5, h.bn, h.bh, h.bg, h.b0, h.b1, h.b3, h.b4, h.b5, h.bv, h.br, h.bo, h.th, h.tg, h.t8, h.ta, h.tb, h.tl, h.tc, h.ln, h.lh, h.lg, h.lb, h.lt, h.lu, h.lp, h.lq, h.nn, h.nl⟩
theorem p_state (h : CRep K c s) {t : Nat} (ht : t < nt (s 15 0)) {x : Int32} : CRep K (cx_ui c 20 (kB K t) 0 x) (rx_up s 18 t x) :=
  ⟨h.fix, h.ug, h.uo, h.uh, h.ul, h.ua, h.rr, h.rm, h.rgr, h.sh, h.sg, h.s0, h.s1, h.s2, h.s3, h.s4, h.s5, h.bn, h.bh, h.bg, h.b0, h.b1, h.b3, B1_up h ht h.b4, h.b5, h.bv, h.br, h.bo, h.th, h.tg, h.t8, h.ta, h.tb, h.tl, h.tc, h.ln, h.lh, h.lg, h.lb, h.lt, h.lu, h.lp, h.lq, h.nn, h.nl⟩
theorem p_owned (h : CRep K c s) {t : Nat} (ht : t < nt (s 15 0)) {k : Nat} (hk : k < 3) {x : Int32} : CRep K (cx_ui c 400 (kB K t + 4) k x) (rx_up s 22 (3 * t + k) x) :=
  ⟨h.fix, h.ug, h.uo, h.uh, UQ_ne h.ul (fun u hu => by have := (h.bg.1 t ht).1; omega), UQ_ne h.ua (fun u hu => by have := (h.bg.1 t ht).1; omega), h.rr, h.rm, RG_ne h.rgr (fun u hu => by have := (h.bg.1 t ht).1; omega), h.sh, h.sg, h.s0, h.s1, h.s2, h.s3, h.s4, h.s5, h.bn, h.bh, h.bg, h.b0, h.b1, h.b3, h.b4, h.b5, BQ_ne h.bv (fun t2 ht2 e => absurd (bgne h ht2 ht (by decide) (by decide) e).2 (by decide)), BQ_ne h.br (fun t2 ht2 e => absurd (bgne h ht2 ht (by decide) (by decide) e).2 (by decide)), BQ_up h ht (by decide) hk h.bo, h.th, h.tg, h.t8, h.ta, h.tb, h.tl, h.tc, h.ln, h.lh, h.lg, h.lb, h.lt, h.lu, LPt_ne h.lp (fun l hl => by have := (h.lg.2.2 l hl t ht).1; omega), LPt_ne h.lq (fun l hl => by have := (h.lg.2.2 l hl t ht).2; omega), h.nn, h.nl⟩
theorem p_rounds (h : CRep K c s) {t : Nat} (ht : t < nt (s 15 0)) {k : Nat} (hk : k < 12) {x : Int32} : CRep K (cx_ui c 400 (kB K t + 3) k x) (rx_up s 21 (12 * t + k) x) :=
  ⟨h.fix, h.ug, h.uo, h.uh, UQ_ne h.ul (fun u hu => by have := (h.bg.1 t ht).1; omega), UQ_ne h.ua (fun u hu => by have := (h.bg.1 t ht).1; omega), h.rr, h.rm, RG_ne h.rgr (fun u hu => by have := (h.bg.1 t ht).1; omega), h.sh, h.sg, h.s0, h.s1, h.s2, h.s3, h.s4, h.s5, h.bn, h.bh, h.bg, h.b0, h.b1, h.b3, h.b4, h.b5, BQ_ne h.bv (fun t2 ht2 e => absurd (bgne h ht2 ht (by decide) (by decide) e).2 (by decide)), BQ_up h ht (by decide) hk h.br, BQ_ne h.bo (fun t2 ht2 e => absurd (bgne h ht2 ht (by decide) (by decide) e).2 (by decide)), h.th, h.tg, h.t8, h.ta, h.tb, h.tl, h.tc, h.ln, h.lh, h.lg, h.lb, h.lt, h.lu, LPt_ne h.lp (fun l hl => by have := (h.lg.2.2 l hl t ht).1; omega), LPt_ne h.lq (fun l hl => by have := (h.lg.2.2 l hl t ht).2; omega), h.nn, h.nl⟩
theorem p_values (h : CRep K c s) {t : Nat} (ht : t < nt (s 15 0)) {k : Nat} (hk : k < 4) {x : Int32} : CRep K (cx_ui c 400 (kB K t + 2) k x) (rx_up s 20 (4 * t + k) x) :=
  ⟨h.fix, h.ug, h.uo, h.uh, UQ_ne h.ul (fun u hu => by have := (h.bg.1 t ht).1; omega), UQ_ne h.ua (fun u hu => by have := (h.bg.1 t ht).1; omega), h.rr, h.rm, RG_ne h.rgr (fun u hu => by have := (h.bg.1 t ht).1; omega), h.sh, h.sg, h.s0, h.s1, h.s2, h.s3, h.s4, h.s5, h.bn, h.bh, h.bg, h.b0, h.b1, h.b3, h.b4, h.b5, BQ_up h ht (by decide) hk h.bv, BQ_ne h.br (fun t2 ht2 e => absurd (bgne h ht2 ht (by decide) (by decide) e).2 (by decide)), BQ_ne h.bo (fun t2 ht2 e => absurd (bgne h ht2 ht (by decide) (by decide) e).2 (by decide)), h.th, h.tg, h.t8, h.ta, h.tb, h.tl, h.tc, h.ln, h.lh, h.lg, h.lb, h.lt, h.lu, LPt_ne h.lp (fun l hl => by have := (h.lg.2.2 l hl t ht).1; omega), LPt_ne h.lq (fun l hl => by have := (h.lg.2.2 l hl t ht).2; omega), h.nn, h.nl⟩
theorem tok_lt {t t2 i : Nat} {x : Int32} (hx : nt x ≤ nt (s 19 t)) (hi : i < nt (rx_up s 19 t x 19 t2)) : i < nt (s 19 t2) := by
  rw [b_up] at hi
  by_cases e : t2 = t
  · subst e; rw [if_pos ⟨rfl, rfl⟩] at hi; omega
  · rw [if_neg (fun z => e z.2)] at hi; exact hi
theorem p_tok (h : CRep K c s) {t : Nat} (ht : t < nt (s 15 0)) {x : Int32} (hx : nt x ≤ nt (s 19 t)) : CRep K (cx_ui c 21 (kB K t) 0 x) (rx_up s 19 t x) :=
  ⟨h.fix, h.ug, h.uo, h.uh, h.ul, h.ua, h.rr, h.rm, h.rgr, h.sh, h.sg, h.s0, h.s1, h.s2, h.s3, h.s4, h.s5, h.bn, h.bh, h.bg, h.b0, h.b1, h.b3, h.b4, B1_up h ht h.b5, h.bv, h.br, h.bo, h.th, h.tg, fun t2 ht2 => by
    by_cases e : t2 = t
    · subst e
      show nt (rx_up s 19 t2 x 19 t2) ≤ 8
      have := h.t8 t2 ht2
      rw [b_up, if_pos ⟨rfl, rfl⟩]; omega
    · show nt (rx_up s 19 t x 19 t2) ≤ 8
      rw [b_up, if_neg (fun z => e z.2)]; exact h.t8 t2 ht2, fun t2 ht2 i hi => h.ta t2 ht2 i (tok_lt hx hi), fun t2 ht2 i hi => h.tb t2 ht2 i (tok_lt hx hi), fun t2 ht2 i hi hb => h.tl t2 ht2 i (tok_lt hx hi) hb, fun t2 ht2 i hi hb hk => h.tc t2 ht2 i (tok_lt hx hi) hb hk, h.ln, h.lh, h.lg, h.lb, h.lt, h.lu, h.lp, h.lq, h.nn, h.nl⟩
theorem T1_up (h : CRep K c s) {F k t i : Nat} {v : Int32} (ht : t < nt (s 15 0)) (hi : i < nt (s 19 t)) (q : T1 K (nt (s 15 0)) (s 19) (cI c F) (s k)) : T1 K (nt (s 15 0)) (s 19) (cI (cx_ui c F (kT K t i) 0 v) F) (rx_up s k (8 * t + i) v k) := fun t2 ht2 i2 hi2 => by
  have l1 := h.t8 t ht
  have l2 := h.t8 t2 ht2
  rw [cI_ui, b_up]
  by_cases e : t2 = t ∧ i2 = i
  · obtain ⟨e1, e2⟩ := e
    subst e1; subst e2; rw [if_pos ⟨rfl, rfl, rfl⟩, if_pos ⟨rfl, rfl⟩]
  · rw [if_neg (fun z => e (tgne h ht2 ht (by omega) (by omega) z.2.1)), if_neg (by omega)]; exact q t2 ht2 i2 hi2
theorem tk_ne (h : CRep K c s) {t i t2 i2 : Nat} (ht : t < nt (s 15 0)) (hi : i < nt (s 19 t)) (ht2 : t2 < nt (s 15 0)) (hi2 : i2 < nt (s 19 t2)) : (t2 = t ∧ i2 = i) ∨ (8 * t2 + i2 ≠ 8 * t + i ∧ kT K t2 i2 ≠ kT K t i) := by
  have l1 := h.t8 t ht
  have l2 := h.t8 t2 ht2
  by_cases e : t2 = t ∧ i2 = i
  · exact Or.inl e
  · exact Or.inr ⟨by omega, fun z => e (tgne h ht2 ht (by omega) (by omega) z)⟩
theorem up_o {k j k2 j2 : Nat} {x : Int32} (q : j2 ≠ j) : rx_up s k j x k2 j2 = s k2 j2 := by rw [b_up, if_neg (fun z => q z.2)]
theorem up_k {k j k2 j2 : Nat} {x : Int32} (q : k2 ≠ k) : rx_up s k j x k2 j2 = s k2 j2 := by rw [b_up, if_neg (fun z => q z.1)]
theorem up_s {k j : Nat} {x : Int32} : rx_up s k j x k j = x := by rw [b_up, if_pos ⟨rfl, rfl⟩]
theorem ui_o {F p j F2 p2 j2 : Nat} {x : Int32} (q : p2 ≠ p) : cI (cx_ui c F p j x) F2 p2 j2 = cI c F2 p2 j2 := by rw [cI_ui, if_neg (fun z => q z.2.1)]
theorem ui_F {F p j F2 p2 j2 : Nat} {x : Int32} (q : F2 ≠ F) : cI (cx_ui c F p j x) F2 p2 j2 = cI c F2 p2 j2 := by rw [cI_ui, if_neg (fun z => q z.1)]
theorem ui_s {F p j : Nat} {x : Int32} : cI (cx_ui c F p j x) F p j = x := by rw [cI_ui, if_pos ⟨rfl, rfl, rfl⟩]
theorem p_at (h : CRep K c s) {t : Nat} (ht : t < nt (s 15 0)) {i : Nat} (hi : i < nt (s 19 t)) {x : Int32} (hb : s 26 (8 * t + i) ≠ nI 1) : CRep K (cx_ui c 144 (kT K t i) 0 x) (rx_up s 23 (8 * t + i) x) :=
  ⟨h.fix, h.ug, h.uo, h.uh, h.ul, h.ua, h.rr, h.rm, h.rgr, h.sh, h.sg, h.s0, h.s1, h.s2, h.s3, h.s4, h.s5, h.bn, h.bh, h.bg, h.b0, h.b1, h.b3, h.b4, h.b5, h.bv, h.br, h.bo, h.th, h.tg, h.t8, T1_up h ht hi h.ta, h.tb, fun t2 ht2 i2 hi2 hb2 => by
    rcases tk_ne h ht hi ht2 hi2 with ⟨e1, e2⟩ | ⟨e1, e2⟩
    · subst e1; subst e2; exact absurd hb2 hb
    · have e := h.tl t2 ht2 i2 hi2 hb2
      have e3 : ka (rx_up s 23 (8 * t + i) x) t2 i2 = ka s t2 i2 := by
        show s 9 (12 * nt (s 16 t2) + nt (rx_up s 23 (8 * t + i) x 23 (8 * t2 + i2))) = _
        rw [up_o e1]; rfl
      rw [e3]; exact e, fun t2 ht2 i2 hi2 hb2 hk2 => by
    rcases tk_ne h ht hi ht2 hi2 with ⟨e1, e2⟩ | ⟨e1, e2⟩
    · subst e1; subst e2; exact absurd hb2 hb
    · have e3 : ka (rx_up s 23 (8 * t + i) x) t2 i2 = ka s t2 i2 := by
        show s 9 (12 * nt (s 16 t2) + nt (rx_up s 23 (8 * t + i) x 23 (8 * t2 + i2))) = _
        rw [up_o e1]; rfl
      exact h.tc t2 ht2 i2 hi2 hb2 (e3 ▸ hk2), h.ln, h.lh, h.lg, h.lb, h.lt, h.lu, h.lp, h.lq, h.nn, h.nl⟩
theorem p_unbeg (h : CRep K c s) {t : Nat} (ht : t < nt (s 15 0)) {i : Nat} (hi : i < nt (s 19 t)) : CRep K (cx_ui c 145 (kT K t i) 0 (nI 0)) (rx_up s 26 (8 * t + i) (nI 0)) :=
  ⟨h.fix, h.ug, h.uo, h.uh, h.ul, h.ua, h.rr, h.rm, h.rgr, h.sh, h.sg, h.s0, h.s1, h.s2, h.s3, h.s4, h.s5, h.bn, h.bh, h.bg, h.b0, h.b1, h.b3, h.b4, h.b5, h.bv, h.br, h.bo, h.th, h.tg, h.t8, h.ta, T1_up h ht hi h.tb, fun t2 ht2 i2 hi2 hb2 => by
    have hb2 : rx_up s 26 (8 * t + i) (nI 0) 26 (8 * t2 + i2) = nI 1 := hb2
    rcases tk_ne h ht hi ht2 hi2 with ⟨e1, e2⟩ | ⟨e1, e2⟩
    · subst e1; subst e2; rw [up_s] at hb2; exact absurd hb2 (by decide)
    · rw [up_o e1] at hb2; exact h.tl t2 ht2 i2 hi2 hb2, fun t2 ht2 i2 hi2 hb2 hk2 => by
    have hb2 : rx_up s 26 (8 * t + i) (nI 0) 26 (8 * t2 + i2) = nI 1 := hb2
    rcases tk_ne h ht hi ht2 hi2 with ⟨e1, e2⟩ | ⟨e1, e2⟩
    · subst e1; subst e2; rw [up_s] at hb2; exact absurd hb2 (by decide)
    · rw [up_o e1] at hb2; exact h.tc t2 ht2 i2 hi2 hb2 hk2, h.ln, h.lh, h.lg, h.lb, h.lt, h.lu, h.lp, h.lq, h.nn, h.nl⟩
theorem p_left (h : CRep K c s) {t : Nat} (ht : t < nt (s 15 0)) {i : Nat} (hi : i < nt (s 19 t)) {x : Int32} (hk : s 26 (8 * t + i) = nI 1 → ka s t i ≠ nI 4) : CRep K (cx_ui c 146 (kT K t i) 0 x) (rx_up s 24 (8 * t + i) x) :=
  ⟨h.fix, h.ug, h.uo, h.uh, h.ul, h.ua, h.rr, h.rm, h.rgr, h.sh, h.sg, h.s0, h.s1, h.s2, h.s3, h.s4, h.s5, h.bn, h.bh, h.bg, h.b0, h.b1, h.b3, h.b4, h.b5, h.bv, h.br, h.bo, h.th, h.tg, h.t8, h.ta, h.tb, fun t2 ht2 i2 hi2 hb2 => by
    rcases tk_ne h ht hi ht2 hi2 with ⟨e1, e2⟩ | ⟨e1, e2⟩
    · subst e1; subst e2
      rw [ui_s]
      show x = if ka s t2 i2 = nI 4 then (if s 27 (8 * t2 + i2) = nI 1 then nI 0 else nI 1) else rx_up s 24 (8 * t2 + i2) x 24 (8 * t2 + i2)
      rw [if_neg (hk hb2), up_s]
    · rw [ui_o e2]
      show _ = if ka s t2 i2 = nI 4 then (if s 27 (8 * t2 + i2) = nI 1 then nI 0 else nI 1) else rx_up s 24 (8 * t + i) x 24 (8 * t2 + i2)
      rw [up_o e1]; exact h.tl t2 ht2 i2 hi2 hb2, h.tc, h.ln, h.lh, h.lg, h.lb, h.lt, h.lu, h.lp, h.lq, h.nn, h.nl⟩
theorem p_lot (h : CRep K c s) {t : Nat} (ht : t < nt (s 15 0)) {i : Nat} (hi : i < nt (s 19 t)) {x : Int32} (hk : s 26 (8 * t + i) ≠ nI 1) : CRep K (cx_ui c 147 (kT K t i) 0 x) (rx_up s 25 (8 * t + i) x) :=
  ⟨h.fix, h.ug, h.uo, h.uh, h.ul, h.ua, h.rr, h.rm, h.rgr, h.sh, h.sg, h.s0, h.s1, h.s2, h.s3, h.s4, h.s5, h.bn, h.bh, h.bg, h.b0, h.b1, h.b3, h.b4, h.b5, h.bv, h.br, h.bo, h.th, h.tg, h.t8, h.ta, h.tb, h.tl, fun t2 ht2 i2 hi2 hb2 hk2 => by
    rcases tk_ne h ht hi ht2 hi2 with ⟨e1, e2⟩ | ⟨e1, e2⟩
    · subst e1; subst e2; exact absurd hb2 hk
    · rw [ui_o e2]
      show _ = rx_up s 25 (8 * t + i) x 25 (8 * t2 + i2)
      rw [up_o e1]; exact h.tc t2 ht2 i2 hi2 hb2 hk2, h.ln, h.lh, h.lg, h.lb, h.lt, h.lu, h.lp, h.lq, h.nn, h.nl⟩
theorem p_beg (h : CRep K c s) {t : Nat} (ht : t < nt (s 15 0)) {i : Nat} (hi : i < nt (s 19 t)) {x y : Int32} (hx : x = if ka s t i = nI 4 then nI 1 else y) (hl : ka s t i = nI 0 → cI c 147 (kT K t i) 0 = s 25 (8 * t + i)) : CRep K (cx_ui (cx_ui c 146 (kT K t i) 0 x) 145 (kT K t i) 0 (nI 1)) (rx_up (rx_up (rx_up s 26 (8 * t + i) (nI 1)) 27 (8 * t + i) (nI 0)) 24 (8 * t + i) y) :=
  ⟨h.fix, h.ug, h.uo, h.uh, h.ul, h.ua, h.rr, h.rm, h.rgr, h.sh, h.sg, h.s0, h.s1, h.s2, h.s3, h.s4, h.s5, h.bn, h.bh, h.bg, h.b0, h.b1, h.b3, h.b4, h.b5, h.bv, h.br, h.bo, h.th, h.tg, h.t8, h.ta, T1_up h ht hi h.tb, fun t2 ht2 i2 hi2 hb2 => by
    show cI (cx_ui c 146 (kT K t i) 0 x) 146 (kT K t2 i2) 0 = if ka s t2 i2 = nI 4 then (if rx_up s 27 (8 * t + i) (nI 0) 27 (8 * t2 + i2) = nI 1 then nI 0 else nI 1) else rx_up s 24 (8 * t + i) y 24 (8 * t2 + i2)
    have hb2 : rx_up s 26 (8 * t + i) (nI 1) 26 (8 * t2 + i2) = nI 1 := hb2
    rcases tk_ne h ht hi ht2 hi2 with ⟨e1, e2⟩ | ⟨e1, e2⟩
    · subst e1; subst e2
      rw [ui_s, up_s, up_s, if_neg (show nI 0 ≠ nI 1 by decide)]; exact hx
    · rw [ui_o e2, up_o e1, up_o e1]
      rw [up_o e1] at hb2
      exact h.tl t2 ht2 i2 hi2 hb2, fun t2 ht2 i2 hi2 hb2 hk2 => by
    have hb2 : rx_up s 26 (8 * t + i) (nI 1) 26 (8 * t2 + i2) = nI 1 := hb2
    rcases tk_ne h ht hi ht2 hi2 with ⟨e1, e2⟩ | ⟨e1, e2⟩
    · subst e1; subst e2; exact hl hk2
    · rw [up_o e1] at hb2; exact h.tc t2 ht2 i2 hi2 hb2 hk2, h.ln, h.lh, h.lg, h.lb, h.lt, h.lu, h.lp, h.lq, h.nn, h.nl⟩
theorem p_told (h : CRep K c s) {t : Nat} (ht : t < nt (s 15 0)) {i : Nat} (hi : i < nt (s 19 t)) (hk : ka s t i = nI 4) : CRep K (cx_ui c 146 (kT K t i) 0 (nI 0)) (rx_up s 27 (8 * t + i) (nI 1)) :=
  ⟨h.fix, h.ug, h.uo, h.uh, h.ul, h.ua, h.rr, h.rm, h.rgr, h.sh, h.sg, h.s0, h.s1, h.s2, h.s3, h.s4, h.s5, h.bn, h.bh, h.bg, h.b0, h.b1, h.b3, h.b4, h.b5, h.bv, h.br, h.bo, h.th, h.tg, h.t8, h.ta, h.tb, fun t2 ht2 i2 hi2 hb2 => by
    show cI (cx_ui c 146 (kT K t i) 0 (nI 0)) 146 (kT K t2 i2) 0 = if ka s t2 i2 = nI 4 then (if rx_up s 27 (8 * t + i) (nI 1) 27 (8 * t2 + i2) = nI 1 then nI 0 else nI 1) else s 24 (8 * t2 + i2)
    rcases tk_ne h ht hi ht2 hi2 with ⟨e1, e2⟩ | ⟨e1, e2⟩
    · subst e1; subst e2
      rw [ui_s, up_s, if_pos hk, if_pos rfl]
    · rw [ui_o e2, up_o e1]; exact h.tl t2 ht2 i2 hi2 hb2, h.tc, h.ln, h.lh, h.lg, h.lb, h.lt, h.lu, h.lp, h.lq, h.nn, h.nl⟩
theorem p_told2 (h : CRep K c s) {t : Nat} (ht : t < nt (s 15 0)) {i : Nat} (hi : i < nt (s 19 t)) {x : Int32} (hk : s 26 (8 * t + i) = nI 1 → ka s t i = nI 4 → x = s 27 (8 * t + i)) : CRep K c (rx_up s 27 (8 * t + i) x) :=
  ⟨h.fix, h.ug, h.uo, h.uh, h.ul, h.ua, h.rr, h.rm, h.rgr, h.sh, h.sg, h.s0, h.s1, h.s2, h.s3, h.s4, h.s5, h.bn, h.bh, h.bg, h.b0, h.b1, h.b3, h.b4, h.b5, h.bv, h.br, h.bo, h.th, h.tg, h.t8, h.ta, h.tb, fun t2 ht2 i2 hi2 hb2 => by
    show _ = if ka s t2 i2 = nI 4 then (if rx_up s 27 (8 * t + i) x 27 (8 * t2 + i2) = nI 1 then nI 0 else nI 1) else s 24 (8 * t2 + i2)
    rcases tk_ne h ht hi ht2 hi2 with ⟨e1, e2⟩ | ⟨e1, e2⟩
    · subst e1; subst e2
      rw [up_s]
      have e := h.tl t2 ht2 i2 hi2 hb2
      by_cases q : ka s t2 i2 = nI 4
      · rw [hk hb2 q]; exact e
      · rw [if_neg q] at e ⊢; exact e
    · rw [up_o e1]; exact h.tl t2 ht2 i2 hi2 hb2, h.tc, h.ln, h.lh, h.lg, h.lb, h.lt, h.lu, h.lp, h.lq, h.nn, h.nl⟩
theorem UQ_up {w k u j : Nat} {v : Int32} {x : Nat → Int32} (hx : ∀ u, u < 6 → nt (x u) ≤ 100) (hj : j < 100) (q : UQ w (cI c 400) x (s k)) : UQ w (cI (cx_ui c 400 (w + 3 * u) j v) 400) x (rx_up s k (100 * u + j) v k) := fun u2 hu2 i hi => by
  have l := hx u2 hu2
  rw [cI_ui, b_up]
  by_cases e : u2 = u ∧ i = j
  · obtain ⟨e1, e2⟩ := e
    subst e1; subst e2; rw [if_pos ⟨rfl, rfl, rfl⟩, if_pos ⟨rfl, rfl⟩]
  · rw [if_neg (by omega), if_neg (by omega)]; exact q u2 hu2 i hi
theorem p_lotin (h : CRep K c s) (h3 : ∀ u, u < 6 → nt (s 3 u) ≤ 100) {u j : Nat} (hu : u < 6) (hj : j < 100) {x : Int32} : CRep K (cx_ui c 400 (23 + 3 * u) j x) (rx_up s 4 (100 * u + j) x) :=
  ⟨h.fix, h.ug, h.uo, h.uh, UQ_up h3 hj h.ul, UQ_ne h.ua (fun u2 hu2 => by omega), h.rr, h.rm, RG_ne h.rgr (fun r hr => by omega), h.sh, h.sg, h.s0, h.s1, h.s2, h.s3, h.s4, h.s5, h.bn, h.bh, h.bg, h.b0, h.b1, h.b3, h.b4, h.b5, BQ_ne h.bv (fun t2 ht2 => by have := (h.bg.1 t2 ht2).1; omega), BQ_ne h.br (fun t2 ht2 => by have := (h.bg.1 t2 ht2).1; omega), BQ_ne h.bo (fun t2 ht2 => by have := (h.bg.1 t2 ht2).1; omega), h.th, h.tg, h.t8, h.ta, h.tb, h.tl, h.tc, h.ln, h.lh, h.lg, h.lb, h.lt, h.lu, LPt_ne h.lp (fun l hl => by have := (h.lg.1 l hl).2.2.1; omega), LPt_ne h.lq (fun l hl => by have := (h.lg.1 l hl).2.2.2.2.1; omega), h.nn, h.nl⟩
theorem p_amt (h : CRep K c s) (h3 : ∀ u, u < 6 → nt (s 3 u) ≤ 100) {u j : Nat} (hu : u < 6) (hj : j < 100) {x : Int32} : CRep K (cx_ui c 400 (24 + 3 * u) j x) (rx_up s 5 (100 * u + j) x) :=
  ⟨h.fix, h.ug, h.uo, h.uh, UQ_ne h.ul (fun u2 hu2 => by omega), UQ_up h3 hj h.ua, h.rr, h.rm, RG_ne h.rgr (fun r hr => by omega), h.sh, h.sg, h.s0, h.s1, h.s2, h.s3, h.s4, h.s5, h.bn, h.bh, h.bg, h.b0, h.b1, h.b3, h.b4, h.b5, BQ_ne h.bv (fun t2 ht2 => by have := (h.bg.1 t2 ht2).1; omega), BQ_ne h.br (fun t2 ht2 => by have := (h.bg.1 t2 ht2).1; omega), BQ_ne h.bo (fun t2 ht2 => by have := (h.bg.1 t2 ht2).1; omega), h.th, h.tg, h.t8, h.ta, h.tb, h.tl, h.tc, h.ln, h.lh, h.lg, h.lb, h.lt, h.lu, LPt_ne h.lp (fun l hl => by have := (h.lg.1 l hl).2.2.1; omega), LPt_ne h.lq (fun l hl => by have := (h.lg.1 l hl).2.2.2.2.1; omega), h.nn, h.nl⟩
theorem p_held (h : CRep K c s) {u : Nat} {x : Int32} (hx : ∀ j, j < nt x → cI c 400 (23 + 3 * u) j = s 4 (100 * u + j) ∧ cI c 400 (24 + 3 * u) j = s 5 (100 * u + j)) : CRep K (cx_ui c 162 (22 + 3 * u) 0 x) (rx_up s 3 u x) :=
  ⟨h.fix, h.ug, h.uo, U1_up h.uh, fun u2 hu2 j hj => by
    have hj : j < nt (rx_up s 3 u x 3 u2) := hj
    by_cases e : u2 = u
    · subst e; rw [up_s] at hj; exact (hx j hj).1
    · rw [up_o e] at hj; exact h.ul u2 hu2 j hj, fun u2 hu2 j hj => by
    have hj : j < nt (rx_up s 3 u x 3 u2) := hj
    by_cases e : u2 = u
    · subst e; rw [up_s] at hj; exact (hx j hj).2
    · rw [up_o e] at hj; exact h.ua u2 hu2 j hj, h.rr, h.rm, h.rgr, h.sh, h.sg, h.s0, h.s1, h.s2, h.s3, h.s4, h.s5, h.bn, h.bh, h.bg, h.b0, h.b1, h.b3, h.b4, h.b5, h.bv, h.br, h.bo, h.th, h.tg, h.t8, h.ta, h.tb, h.tl, h.tc, h.ln, h.lh, h.lg, h.lb, h.lt, h.lu, h.lp, h.lq, h.nn, h.nl⟩
theorem p_scr (h : CRep K c s) {p j : Nat} {x : Int32} (hp : 6 ≤ p ∧ p ≤ 11 ∨ p = 16 ∨ p = 18 ∨ p = 19 ∨ p = 21) : CRep K (cx_ui c 400 p j x) s :=
  ⟨h.fix, h.ug, h.uo, h.uh, UQ_ne h.ul (fun u2 hu2 => by omega), UQ_ne h.ua (fun u2 hu2 => by omega), h.rr, h.rm, RG_ne h.rgr (fun r hr => by omega), h.sh, h.sg, h.s0, h.s1, h.s2, h.s3, h.s4, h.s5, h.bn, h.bh, h.bg, h.b0, h.b1, h.b3, h.b4, h.b5, BQ_ne h.bv (fun t2 ht2 => by have := (h.bg.1 t2 ht2).1; omega), BQ_ne h.br (fun t2 ht2 => by have := (h.bg.1 t2 ht2).1; omega), BQ_ne h.bo (fun t2 ht2 => by have := (h.bg.1 t2 ht2).1; omega), h.th, h.tg, h.t8, h.ta, h.tb, h.tl, h.tc, h.ln, h.lh, h.lg, h.lb, h.lt, h.lu, LPt_ne h.lp (fun l hl => by have := (h.lg.1 l hl).2.2.1; omega), LPt_ne h.lq (fun l hl => by have := (h.lg.1 l hl).2.2.2.2.1; omega), h.nn, h.nl⟩
theorem RG_up {r k : Nat} {v : Int32} (hk : k < 3) (q : RG (cI c 400) (s 6)) : RG (cI (cx_ui c 400 (41 + 3 * r) k v) 400) (rx_up s 6 (3 * r + k) v 6) := fun r2 hr2 k2 hk2 => by
  rw [cI_ui, b_up]
  by_cases e : r2 = r ∧ k2 = k
  · obtain ⟨e1, e2⟩ := e
    subst e1; subst e2; rw [if_pos ⟨rfl, rfl, rfl⟩, if_pos ⟨rfl, rfl⟩]
  · rw [if_neg (by omega), if_neg (by omega)]; exact q r2 hr2 k2 hk2
theorem SV_up (h : CRep K c s) (h7 : RN 4 13 (s 7)) {F k r i : Nat} {v : Int32} (hr : r < 4) (hi : i < nt (s 7 r)) (q : SV K (cI c F) (s 7) (s k)) : SV K (cI (cx_ui c F (kS K r i) 0 v) F) (s 7) (rx_up s k (12 * r + i) v k) := fun r2 hr2 i2 hi2 => by
  have l1 := (h7 r hr).lt
  have l2 := (h7 r2 hr2).lt
  rw [cI_ui, b_up]
  by_cases e : r2 = r ∧ i2 = i
  · obtain ⟨e1, e2⟩ := e
    subst e1; subst e2; rw [if_pos ⟨rfl, rfl, rfl⟩, if_pos ⟨rfl, rfl⟩]
  · rw [if_neg (fun z => e (h.sg.2 r2 hr2 i2 hi2 r hr i hi z.2.1)), if_neg (by omega)]; exact q r2 hr2 i2 hi2
theorem step_ix (h7 : RN 4 13 (s 7)) {r m r2 i2 : Nat} (hr : r < 4) (hm : s 7 r = nI m) (hm12 : m < 12) (hr2 : r2 < 4) (hi : i2 < nt (rx_up s 7 r (nI (m + 1)) 7 r2)) : (r2 = r ∧ i2 = m) ∨ (i2 < nt (s 7 r2) ∧ ¬ (r2 = r ∧ i2 = m) ∧ 12 * r2 + i2 ≠ 12 * r + m) := by
  have l2 := (h7 r2 hr2).lt
  rw [b_up] at hi
  by_cases e : r2 = r
  · subst e
    rw [if_pos ⟨rfl, rfl⟩, nt_nI (by omega)] at hi
    rw [hm, nt_nI (by omega)]
    omega
  · rw [if_neg (fun z => e z.2)] at hi; omega
/-- a step more -/
def kS2 (K : kx) (r m p : Nat) : kx := (fun r2 i2 => if r2 = r ∧ i2 = m then p else kS K r2 i2, K.2)
theorem SV_step {p : Nat} (h7 : RN 4 13 (s 7)) {F k r m : Nat} {y : Nat → Int32} (hr : r < 4) (hm : s 7 r = nI m) (hm12 : m < 12) (q : SV K (cI c F) (s 7) (s k)) (hy : ∀ j, j ≠ 12 * r + m → y j = s k j) (hp : cI c F p 0 = y (12 * r + m)) : SV (kS2 K r m p) (cI c F) (rx_up s 7 r (nI (m + 1)) 7) y := fun r2 hr2 i2 hi2 => by
  rcases step_ix h7 hr hm hm12 hr2 hi2 with ⟨e1, e2⟩ | ⟨e1, e2, e3⟩
  · subst e1; subst e2
    show cI c F (if r2 = r2 ∧ i2 = i2 then p else kS K r2 i2) 0 = _
    rw [if_pos ⟨rfl, rfl⟩, hp]
  · show cI c F (if r2 = r ∧ i2 = m then p else kS K r2 i2) 0 = _
    rw [if_neg e2, hy _ e3]; exact q r2 hr2 i2 e1
theorem p_role (h : CRep K c s) {r k : Nat} (hr : r < 4) (hk : k < 3) {x : Int32} : CRep K (cx_ui c 400 (41 + 3 * r) k x) (rx_up s 6 (3 * r + k) x) :=
  ⟨h.fix, h.ug, h.uo, h.uh, UQ_ne h.ul (fun u2 hu2 => by omega), UQ_ne h.ua (fun u2 hu2 => by omega), h.rr, h.rm, RG_up hk h.rgr, h.sh, h.sg, h.s0, h.s1, h.s2, h.s3, h.s4, h.s5, h.bn, h.bh, h.bg, h.b0, h.b1, h.b3, h.b4, h.b5, BQ_ne h.bv (fun t2 ht2 => by have := (h.bg.1 t2 ht2).1; omega), BQ_ne h.br (fun t2 ht2 => by have := (h.bg.1 t2 ht2).1; omega), BQ_ne h.bo (fun t2 ht2 => by have := (h.bg.1 t2 ht2).1; omega), h.th, h.tg, h.t8, h.ta, h.tb, h.tl, h.tc, h.ln, h.lh, h.lg, h.lb, h.lt, h.lu, LPt_ne h.lp (fun l hl => by have := (h.lg.1 l hl).2.2.1; omega), LPt_ne h.lq (fun l hl => by have := (h.lg.1 l hl).2.2.2.2.1; omega), h.nn, h.nl⟩
theorem p_next (h : CRep K c s) (h7 : RN 4 13 (s 7)) {r i : Nat} (hr : r < 4) (hi : i < nt (s 7 r)) {x : Int32} : CRep K (cx_ui c 132 (kS K r i) 0 x) (rx_up s 13 (12 * r + i) x) :=
  ⟨h.fix, h.ug, h.uo, h.uh, h.ul, h.ua, h.rr, h.rm, h.rgr, h.sh, h.sg, h.s0, h.s1, h.s2, h.s3, SV_up h h7 hr hi h.s4, h.s5, h.bn, h.bh, h.bg, h.b0, h.b1, h.b3, h.b4, h.b5, h.bv, h.br, h.bo, h.th, h.tg, h.t8, h.ta, h.tb, h.tl, h.tc, h.ln, h.lh, h.lg, h.lb, h.lt, h.lu, h.lp, h.lq, h.nn, h.nl⟩
theorem p_other (h : CRep K c s) (h7 : RN 4 13 (s 7)) {r i : Nat} (hr : r < 4) (hi : i < nt (s 7 r)) {x : Int32} : CRep K (cx_ui c 133 (kS K r i) 0 x) (rx_up s 14 (12 * r + i) x) :=
  ⟨h.fix, h.ug, h.uo, h.uh, h.ul, h.ua, h.rr, h.rm, h.rgr, h.sh, h.sg, h.s0, h.s1, h.s2, h.s3, h.s4, SV_up h h7 hr hi h.s5, h.bn, h.bh, h.bg, h.b0, h.b1, h.b3, h.b4, h.b5, h.bv, h.br, h.bo, h.th, h.tg, h.t8, h.ta, h.tb, h.tl, h.tc, h.ln, h.lh, h.lg, h.lb, h.lt, h.lu, h.lp, h.lq, h.nn, h.nl⟩
theorem p_step (h : CRep K c s) (h7 : RN 4 13 (s 7)) {r m p : Nat} (hr : r < 4) (hm : s 7 r = nI m) (hm12 : m < 12) (hp1 : 96 ≤ p ∧ p < cN c) (hp2 : cH c p = some (8, 0)) (hp3 : ∀ r2, r2 < 4 → ∀ i, i < nt (s 7 r2) → kS K r2 i ≠ p) {x0 x1 x2 x3 x4 x5 : Int32} (hx0 : cI c 128 p 0 = x0) (hx1 : cI c 129 p 0 = x1) (hx2 : cI c 130 p 0 = x2) (hx3 : cI c 131 p 0 = x3) (hx4 : cI c 132 p 0 = x4) (hx5 : cI c 133 p 0 = x5) (hta : ∀ t, t < nt (s 15 0) → ∀ i, i < nt (s 19 t) → 12 * nt (s 16 t) + nt (s 23 (8 * t + i)) ≠ 12 * r + m) : CRep (kS2 K r m p) (cx_ui (cx_ur c 407 (42 + 3 * r) m (some p)) 97 (40 + 3 * r) 0 (nI (m + 1))) (rx_up (rx_up (rx_up (rx_up (rx_up (rx_up (rx_up s 9 (12 * r + m) x0) 10 (12 * r + m) x1) 11 (12 * r + m) x2) 12 (12 * r + m) x3) 13 (12 * r + m) x4) 14 (12 * r + m) x5) 7 r (nI (m + 1))) :=
  ⟨CFix_ui (CFix_ur (fun q hq z => absurd z.1 ((by decide : ∀ q ∈ fixR, q.1 ≠ 407) q hq)) h.fix), h.ug, h.uo, h.uh, h.ul, h.ua, h.rr, R1_up (k := 7) (s := s) h.rm, h.rgr, fun r2 hr2 i2 hi2 => by
    rcases step_ix h7 hr hm hm12 hr2 hi2 with ⟨e1, e2⟩ | ⟨e1, e2, e3⟩
    · subst e1; subst e2
      show cR (cx_ur c 407 (42 + 3 * r2) i2 (some p)) 407 (42 + 3 * r2) i2 = some (if r2 = r2 ∧ i2 = i2 then p else kS K r2 i2) ∧ cH c (if r2 = r2 ∧ i2 = i2 then p else kS K r2 i2) = some (8, 0)
      rw [if_pos ⟨rfl, rfl⟩, cR_ur, if_pos ⟨rfl, rfl, rfl⟩]; exact ⟨rfl, hp2⟩
    · show cR (cx_ur c 407 (42 + 3 * r) m (some p)) 407 (42 + 3 * r2) i2 = some (if r2 = r ∧ i2 = m then p else kS K r2 i2) ∧ cH c (if r2 = r ∧ i2 = m then p else kS K r2 i2) = some (8, 0)
      rw [if_neg e2, cR_ur, if_neg (by omega)]; exact h.sh r2 hr2 i2 e1, ⟨fun r2 hr2 i2 hi2 => by
      rcases step_ix h7 hr hm hm12 hr2 hi2 with ⟨e1, e2⟩ | ⟨e1, e2, e3⟩
      · show 96 ≤ (if r2 = r ∧ i2 = m then p else kS K r2 i2) ∧ (if r2 = r ∧ i2 = m then p else kS K r2 i2) < cN c
        rw [if_pos ⟨e1, e2⟩]; exact hp1
      · show 96 ≤ (if r2 = r ∧ i2 = m then p else kS K r2 i2) ∧ (if r2 = r ∧ i2 = m then p else kS K r2 i2) < cN c
        rw [if_neg e2]; exact h.sg.1 r2 hr2 i2 e1,
    fun r2 hr2 i2 hi2 r3 hr3 i3 hi3 e => by
      have e : (if r2 = r ∧ i2 = m then p else kS K r2 i2) = (if r3 = r ∧ i3 = m then p else kS K r3 i3) := e
      rcases step_ix h7 hr hm hm12 hr2 hi2 with q | ⟨e1, e2, e3⟩ <;> rcases step_ix h7 hr hm hm12 hr3 hi3 with q2 | ⟨u1, u2, u3⟩
      · omega
      · rw [if_pos q, if_neg u2] at e; exact absurd e.symm (hp3 r3 hr3 i3 u1)
      · rw [if_pos q2, if_neg e2] at e; exact absurd e (hp3 r2 hr2 i2 e1)
      · rw [if_neg e2, if_neg u2] at e; exact h.sg.2 r2 hr2 i2 e1 r3 hr3 i3 u1 e⟩, SV_step h7 hr hm hm12 h.s0 (fun j hj => by show rx_up s 9 (12 * r + m) x0 9 j = _; exact up_o hj) (by show cI c 128 p 0 = rx_up s 9 (12 * r + m) x0 9 (12 * r + m); rw [hx0]; exact up_s.symm), SV_step h7 hr hm hm12 h.s1 (fun j hj => by show rx_up s 10 (12 * r + m) x1 10 j = _; exact up_o hj) (by show cI c 129 p 0 = rx_up s 10 (12 * r + m) x1 10 (12 * r + m); rw [hx1]; exact up_s.symm), SV_step h7 hr hm hm12 h.s2 (fun j hj => by show rx_up s 11 (12 * r + m) x2 11 j = _; exact up_o hj) (by show cI c 130 p 0 = rx_up s 11 (12 * r + m) x2 11 (12 * r + m); rw [hx2]; exact up_s.symm), SV_step h7 hr hm hm12 h.s3 (fun j hj => by show rx_up s 12 (12 * r + m) x3 12 j = _; exact up_o hj) (by show cI c 131 p 0 = rx_up s 12 (12 * r + m) x3 12 (12 * r + m); rw [hx3]; exact up_s.symm), SV_step h7 hr hm hm12 h.s4 (fun j hj => by show rx_up s 13 (12 * r + m) x4 13 j = _; exact up_o hj) (by show cI c 132 p 0 = rx_up s 13 (12 * r + m) x4 13 (12 * r + m); rw [hx4]; exact up_s.symm), SV_step h7 hr hm hm12 h.s5 (fun j hj => by show rx_up s 14 (12 * r + m) x5 14 j = _; exact up_o hj) (by show cI c 133 p 0 = rx_up s 14 (12 * r + m) x5 14 (12 * r + m); rw [hx5]; exact up_s.symm), h.bn, h.bh, h.bg, h.b0, h.b1, h.b3, h.b4, h.b5, h.bv, h.br, h.bo, h.th, h.tg, h.t8, h.ta, h.tb, fun t ht i hi hb => by
    have q := h.tl t ht i hi hb
    have e : ka (rx_up (rx_up (rx_up (rx_up (rx_up (rx_up (rx_up s 9 (12 * r + m) x0) 10 (12 * r + m) x1) 11 (12 * r + m) x2) 12 (12 * r + m) x3) 13 (12 * r + m) x4) 14 (12 * r + m) x5) 7 r (nI (m + 1))) t i = ka s t i := by
      show rx_up s 9 (12 * r + m) x0 9 (12 * nt (s 16 t) + nt (s 23 (8 * t + i))) = _
      exact up_o (hta t ht i hi)
    rw [e]; exact q, fun t ht i hi hb hk => by
    have e : ka (rx_up (rx_up (rx_up (rx_up (rx_up (rx_up (rx_up s 9 (12 * r + m) x0) 10 (12 * r + m) x1) 11 (12 * r + m) x2) 12 (12 * r + m) x3) 13 (12 * r + m) x4) 14 (12 * r + m) x5) 7 r (nI (m + 1))) t i = ka s t i := by
      show rx_up s 9 (12 * r + m) x0 9 (12 * nt (s 16 t) + nt (s 23 (8 * t + i))) = _
      exact up_o (hta t ht i hi)
    rw [e] at hk
    exact h.tc t ht i hi hb hk, h.ln, h.lh, h.lg, h.lb, h.lt, h.lu, h.lp, h.lq, h.nn, h.nl⟩
theorem CRep_s {s2 : rx_S} (h : CRep K c s) (hk : ∀ k, 1 ≤ k ∧ k ≤ 27 ∨ 31 ≤ k ∧ k ≤ 37 → s2 k = s k) : CRep K c s2 := by
  have e : ∀ k, 1 ≤ k ∧ k ≤ 27 ∨ 31 ≤ k ∧ k ≤ 37 → s k = s2 k := fun k q => (hk k q).symm
  unfold CRep TL TC ka at h
  rw [e 1 (by omega), e 2 (by omega), e 3 (by omega), e 4 (by omega), e 5 (by omega), e 6 (by omega), e 7 (by omega), e 8 (by omega), e 9 (by omega), e 10 (by omega), e 11 (by omega), e 12 (by omega), e 13 (by omega), e 14 (by omega), e 15 (by omega), e 16 (by omega), e 17 (by omega), e 18 (by omega), e 19 (by omega), e 20 (by omega), e 21 (by omega), e 22 (by omega), e 23 (by omega), e 24 (by omega), e 25 (by omega), e 26 (by omega), e 27 (by omega), e 31 (by omega), e 32 (by omega), e 33 (by omega), e 34 (by omega), e 35 (by omega), e 36 (by omega), e 37 (by omega)] at h
  exact h
end PRM
