/-! what throws -/
section THR
variable {f : Nat} {K : kx} {W : Nat → Nat → Nat} {bd : Nat} {c : cx_S} {s : rx_S}
def SimX (K : kx) (W : Nat → Nat → Nat) (bd bd2 : Nat) (c : cx_S) (s : rx_S) (a : Option ((Nat ⊕ Int32) × cx_S)) (b : Option (Int32 × rx_S)) : Prop := ∃ K2 W2 c2 s2, St K2 W2 bd2 c2 s2 ∧ s2 30 0 = s 30 0 ∧ Gr c s c2 s2 ∧
  ((∃ x, a = some (Sum.inr x, c2) ∧ b = some (x, s2) ∧ s2 0 0 = nI 0) ∨ (∃ p y, a = some (Sum.inl p, c2) ∧ cH c2 p = some (12, 0) ∧ b = some (y, s2) ∧ s2 0 0 = nI 1) ∨ (∃ p y, a = some (Sum.inl p, c2) ∧ cH c2 p = some (13, 0) ∧ b = some (y, s2) ∧ s2 0 0 = nI 2))
theorem CRep_mk {k : Nat × Nat} {z : Nat} (h : CRep K c s) : CRep K (cx_mk c k z) s := by
  refine CRep_ext h (fun F p hp _ => ?_) (fun F p hp => ?_) (fun p hp => ?_) (Nat.le_succ _)
  · funext j; rw [cI_mk, if_neg (by omega)]
  · funext j; rw [cR_mk, if_neg (by omega)]
  · rw [cH_mk, if_neg (by omega)]
theorem simx_12 (h : St K W bd c s) {a : Option ((Nat ⊕ Int32) × cx_S)} {b : Option (Int32 × rx_S)} {y : Int32} (h1 : a = some (Sum.inl (cN c), cx_mk c (12, 0) 6)) (h2 : b = some (y, rx_up s 0 0 (nI 1))) : SimX K W bd bd c s a b :=
  ⟨K, W, _, rx_up s 0 0 (nI 1), ⟨CRep_mk h.1, h.2⟩, rfl, ⟨Nat.le_refl _, by show cN c + 1 ≤ _; omega, by show cZ c + 6 ≤ _; omega⟩, Or.inr (Or.inl ⟨_, y, h1, by rw [cH_mk, if_pos rfl], h2, up_s⟩)⟩
theorem simx_13 (h : St K W bd c s) {a : Option ((Nat ⊕ Int32) × cx_S)} {b : Option (Int32 × rx_S)} {y : Int32} (h1 : a = some (Sum.inl (cN c), cx_mk c (13, 0) 6)) (h2 : b = some (y, rx_up s 0 0 (nI 2))) : SimX K W bd bd c s a b :=
  ⟨K, W, _, rx_up s 0 0 (nI 2), ⟨CRep_mk h.1, h.2⟩, rfl, ⟨Nat.le_refl _, by show cN c + 1 ≤ _; omega, by show cZ c + 6 ≤ _; omega⟩, Or.inr (Or.inr ⟨_, y, h1, by rw [cH_mk, if_pos rfl], h2, up_s⟩)⟩
theorem goes_11 {s : rx_S} : D_M_goes f (nI 1) (nI 1) s = some (nI 1, R0 s) := by
  unfold D_M_goes
  simp only [b_oj, b_10, if_false, up_s, b_00, if_true, ozb_1]
theorem goes_0 {y : Int32} {s : rx_S} : D_M_goes f (nI 0) y s = some (nI 0, rx_up s 0 0 (nI 1)) := by
  unfold D_M_goes
  simp only [b_oj, b_10, if_false, up_s, b_00, if_true, ozb_0]
theorem goes_10 {s : rx_S} : D_M_goes f (nI 1) (nI 0) s = some (nI 0, rx_up s 0 0 (nI 2)) := by
  unfold D_M_goes
  have : (nI 2 = 0) = False := by simp; decide
  simp only [b_oj, b_10, if_false, up_s, b_00, if_true, this, ozb_0]
theorem find_t (h : CRep K c s) (hI : Iv K W bd s) {t : Nat} (ht : t < nt (s 15 0)) : D_H_findBatch f 2 (nI t) c = some (Sum.inr (some (kB K t)), c) := by
  unfold D_H_findBatch
  have g := hI.i15
  have gl := g.lt
  have e3 : cI c 2 2 0 = nI (nt (s 15 0)) := by rw [h.bn]; exact g.eq
  simp only [b_oc h.fix.h2, e3, b_below_t ht (show nt (s 15 0) < 2 ^ 31 by omega), b_ob, b_10, if_false, h.fix.f1, b_oa h.fix.h4 (show t < 16 by omega) (show 16 < 2 ^ 31 by decide), (h.bh t ht).1]
theorem find_f (h : CRep K c s) (hI : Iv K W bd s) {x : Int32} (ht : x < 0 ∨ nI (nt (s 15 0)) ≤ x) : D_H_findBatch f 2 x c = some (Sum.inl (cN c), cx_mk c (12, 0) 6) := by
  unfold D_H_findBatch
  have g := hI.i15
  have e3 : cI c 2 2 0 = nI (nt (s 15 0)) := by rw [h.bn]; exact g.eq
  simp only [b_oc h.fix.h2, e3, b_below_f ht, b_ob, b_00, if_true, b_on h.fix.n]
theorem t_cases (hI : Iv K W bd s) (x : Int32) : (∃ t, t < nt (s 15 0) ∧ t < 16 ∧ x = nI t) ∨ (x < 0 ∨ nI (nt (s 15 0)) ≤ x) := by
  have gl := hI.i15.lt
  rcases b_ix x (n := nt (s 15 0)) (by omega) with ⟨t, ht, rfl⟩ | ht
  · exact Or.inl ⟨t, ht, by omega, rfl⟩
  · exact Or.inr ht
theorem nw_congr {K : kx} {x y : Nat → Int32} (h : ∀ i, i < kM K → (x (kN K i) == nI 1) = (y (kN K i) == nI 1)) : nw K x = nw K y := by
  unfold nw
  apply List.filter_congr
  intro t ht
  simp only [List.mem_map, List.mem_range] at ht
  obtain ⟨i, hi, rfl⟩ := ht
  exact h i hi
def On (x : Int32) : Prop := x = nI 2 ∨ x = nI 3 ∨ x = nI 4
theorem on_ne {x : Int32} (h : On x) : x ≠ nI 0 ∧ x ≠ nI 1 ∧ rg x 8 := by
  rcases h with rfl | rfl | rfl <;> exact ⟨by decide, by decide, rg_of (by decide) (by decide)⟩
theorem lin_state {n : Nat} {w : Int32} {ln : Nat → Int32} {t : Nat} {x : Int32} (h : Lin K n (s 18) w ln) (h0 : s 18 t ≠ nI 0) (h1 : s 18 t ≠ nI 1) (x0 : x ≠ nI 0) (x1 : x ≠ nI 1) : Lin K n (rx_up s 18 t x 18) w ln := by
  obtain ⟨a, b, c, d, e⟩ := h
  have en : nw K (rx_up s 18 t x 18) = nw K (s 18) := nw_congr (fun i hi => by
    by_cases q : kN K i = t
    · rw [q, up_s]
      have z1 : (x == nI 1) = false := beq_false_of_ne x1
      have z2 : (s 18 t == nI 1) = false := beq_false_of_ne h1
      rw [z1, z2]
    · rw [up_o q])
  refine ⟨a, b, c, fun t2 ht2 => ?_, ?_⟩
  · by_cases q : t2 = t
    · subst q
      rw [up_s]
      exact ⟨fun z => absurd z x0, fun z => absurd ((d t2 ht2).mpr z) h0⟩
    · rw [up_o q]; exact d t2 ht2
  · unfold NW; rw [en]; exact e
theorem inv_state (h : Iv K W bd s) {t : Nat} {x : Int32} (ht : t < nt (s 15 0)) (h0 : On (s 18 t)) (hx : On x) : Iv K W bd (rx_up s 18 t x) := by
  refine ⟨h.ir, h.iw, fun t2 h1 h2 => ?_, fun t2 ht2 => ?_, h.it, h.iu, h.iq, h.il, lin_state h.ln (on_ne h0).1 (on_ne h0).2.1 (on_ne hx).1 (on_ne hx).2.1⟩
  · have h1 : nt (s 15 0) ≤ t2 := h1
    have e : t2 ≠ t := by omega
    show rx_up s 18 t x 18 t2 = nI 0 ∧ _
    rw [up_o e]; exact h.if t2 h1 h2
  · by_cases e : t2 = t
    · subst e
      obtain ⟨b1, b2, b3, b4, b5, b6, b7, b8, b9, b10⟩ := h.ib t2 ht2
      unfold IB
      rw [up_s]
      exact ⟨b1, b2, b3, (on_ne hx).2.2, b5, hx.elim Or.inl (fun z => Or.inr (z.elim Or.inl (fun z => Or.inr (Or.inl z)))), fun _ => b7 h0, b8, b9, b10⟩
    · have q := h.ib t2 ht2
      unfold IB at q ⊢
      rw [show rx_up s 18 t x 18 t2 = s 18 t2 from up_o e]; exact q
theorem b_hold (h : St K W bd c s) (x : Int32) : SimX K W bd bd c s (D_H_hold f 2 x c) (D_M_hold f x s) := by
  obtain ⟨h, hI⟩ := h
  unfold D_H_hold D_M_hold
  rcases t_cases hI x with ⟨t, ht, t16, rfl⟩ | ht
  · have hb := h.bh t ht
    simp only [b_oc h.fix.h2, find_t h hI ht, b_isB_t hI.i15 ht, b_ob, b_ot, b_oj, b_10, if_false, b_oc hb.2.1, h.b4 t ht, b_og t16 (show 16 < 2 ^ 31 by decide)]
    by_cases q : s 18 t = nI 2
    · simp only [if_pos q, goes_11, b_ob, b_10, if_false, b_og t16 (show 16 < 2 ^ 31 by decide)]
      exact ⟨K, W, _, _, ⟨p_state (s := R0 s) h ht, inv_state (s := R0 s) hI ht (Or.inl q) (Or.inr (Or.inl rfl))⟩, rfl, ⟨Nat.le_refl _, by show cN c ≤ _; omega, by show cZ c ≤ _; omega⟩, Or.inl ⟨0, rfl, rfl, rfl⟩⟩
    · simp only [if_neg q, goes_10, b_ob, b_00, if_true, b_on h.fix.n]
      exact simx_13 ⟨h, hI⟩ rfl rfl
  · simp only [b_oc h.fix.h2, find_f h hI ht, b_isB_f hI.i15 ht, b_ob, b_otx, b_oj, b_00, if_true, goes_0]
    exact simx_12 ⟨h, hI⟩ rfl rfl
theorem b_restart (h : St K W bd c s) (x : Int32) : SimX K W bd bd c s (D_H_restart f 2 x c) (D_M_restart f x s) := by
  obtain ⟨h, hI⟩ := h
  unfold D_H_restart D_M_restart
  rcases t_cases hI x with ⟨t, ht, t16, rfl⟩ | ht
  · have hb := h.bh t ht
    simp only [b_oc h.fix.h2, find_t h hI ht, b_isB_t hI.i15 ht, b_ob, b_ot, b_oj, b_10, if_false, b_oc hb.2.1, h.b4 t ht, b_og t16 (show 16 < 2 ^ 31 by decide)]
    by_cases q : s 18 t = nI 3
    · simp only [if_pos q, goes_11, b_ob, b_10, if_false, b_og t16 (show 16 < 2 ^ 31 by decide), ui_s, up_s]
      exact ⟨K, W, _, _, ⟨p_state (s := R0 s) h ht, inv_state (s := R0 s) hI ht (Or.inr (Or.inl q)) (Or.inl rfl)⟩, rfl, ⟨Nat.le_refl _, by show cN c ≤ _; omega, by show cZ c ≤ _; omega⟩, Or.inl ⟨nI 2, rfl, rfl, rfl⟩⟩
    · simp only [if_neg q, goes_10, b_ob, b_00, if_true, b_on h.fix.n]
      exact simx_13 ⟨h, hI⟩ rfl rfl
  · simp only [b_oc h.fix.h2, find_f h hI ht, b_isB_f hI.i15 ht, b_ob, b_otx, b_oj, b_00, if_true, goes_0]
    exact simx_12 ⟨h, hI⟩ rfl rfl
end THR
