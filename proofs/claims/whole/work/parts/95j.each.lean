/-! a token's work, kind by kind -/
section EAC
variable {f : Nat} {K : kx} {W : Nat → Nat → Nat} {bd bd2 : Nat} {c : cx_S} {s : rx_S}
def Gt (f : Nat) (K : kx) (W : Nat → Nat → Nat) (bd2 t i : Nat) (c : cx_S) (s : rx_S) : Prop := ∃ K2 c2 s2, D_F_goOn f 12 (some (kB K t)) (some (kT K t i)) c = some (0, c2) ∧ (∀ J, (ob (D_M_works f (nI t) (nI i) s) fun x7 s8 => tlM f t i x7 s8 J) = J s2) ∧ Tk K W bd2 t c s K2 c2 s2
theorem on24 {x : Int32} (h : x = nI 2 ∨ x = nI 4) : On x := h.elim Or.inl (fun z => Or.inr (Or.inr z))
theorem end_tok {bd8 : Nat} {c8 : cx_S} {s8 : rx_S} {t i : Nat} {x7 : Int32} (h : CRep K c8 s8) (hI : Iv K W bd8 s8) (b8 : bd8 % 1099511627776 ≤ bd2) (b2 : bd2 < 1099511627776) (ht : t < nt (s8 15 0)) (on : s8 18 t = nI 2 ∨ s8 18 t = nI 4) (hi : i < nt (s8 19 t)) (hk : nt (ka s8 t i) ≤ 4)
    (hx : x7 = nI 0 ∧ ¬ cI c8 146 (kT K t i) 0 ≤ 0 ∧ bd8 / 1099511627776 = 0 ∨ x7 = nI 1 ∧ cI c8 146 (kT K t i) 0 ≤ 0 ∧ ka s8 t i ≠ nI 3 ∧ (bd8 / 1099511627776 = 0 ∨ bd8 / 1099511627776 = 8 * t + i + 1))
    (g : Gq c s c8 s8) (g0 : s8 0 0 = s 0 0) (g15 : s8 15 = s 15) (g18 : s8 18 = s 18) (g19 : s8 19 = s 19) (g30 : s8 30 = s 30) :
    ∃ c2 s2, tlC f (kB K t) (kT K t i) (kS K (nt (s8 16 t)) (nt (s8 23 (8 * t + i)))) c8 = some (0, c2) ∧ (∀ J, tlM f t i x7 s8 J = J s2) ∧ Tk K W bd2 t c s K c2 s2 := by
  have b := hI.ib t ht
  have r4 := b.1.lt
  have l9 := b.2.2.2.2.1.lt
  have it := hI.it t ht i hi
  have al := it.1.lt
  have m12 := (hI.i7 _ r4).lt
  have hT := h.th t ht i (by omega)
  have hstp := h.sh _ r4 _ al
  have cE := h.s0 _ r4 _ al
  have nE := h.s4 _ r4 _ al
  rcases hx with ⟨x1, x2, x3⟩ | ⟨x1, x2, x3, x4⟩
  · exact ⟨c8, s8, tlC_0 hT.2 x2, fun J => by rw [x1, tlM_0], h, Iv_b hI (by omega) (Or.inr x3), KS.rfl, rfl, g, g0, g15, Or.inl ⟨g18, g19, g30⟩⟩
  · obtain ⟨f1, f2⟩ := fin_tok h hI ht (on24 on) hi hk x4
    refine ⟨_, _, ?_, fun J => by rw [x1, tlM_1 (hI.t16 ht) (by omega) b.1.eq r4 it.1.eq (by omega) on], f1, Iv_b f2 (by omega) (by omega), KS.rfl, rfl, g.tr (Gq.same rfl rfl rfl), g0, g15, Or.inl ⟨g18, g19, g30⟩⟩
    rw [tlC_1 hT.2 hstp.2 x2 (by rw [cE]; exact x3), nE]
theorem left_of (h : CRep K c s) {t i : Nat} (ht : t < nt (s 15 0)) (hi : i < nt (s 19 t)) (hb : s 26 (8 * t + i) = nI 1) (hk : ka s t i ≠ nI 4) : cI c 146 (kT K t i) 0 = s 24 (8 * t + i) := by
  have := h.tl t ht i hi hb
  rw [if_neg hk] at this
  exact this
theorem o01_0 {x : Int32} (h : x = 0) : o01 x = nI 1 := if_pos h
theorem o01_1 {x : Int32} (h : x ≠ 0) : o01 x = nI 0 := if_neg h
section KND
theorem go_4 {t i : Nat} (h : CRep K c s) (hI : Iv K W bd s) (hf : 2 ^ 31 ≤ f) (hbd : bd + 1010 < 2 ^ 27) (ht : t < nt (s 15 0)) (on : s 18 t = nI 2 ∨ s 18 t = nI 4) (hi : i < nt (s 19 t)) (hb : s 26 (8 * t + i) = nI 1) (kd : ka s t i = nI 4) : Gt f K W (bd + 1010) t i c s := by
  have b := hI.ib t ht
  have r4 := b.1.lt
  have l9 := b.2.2.2.2.1.lt
  have it := hI.it t ht i hi
  have al := it.1.lt
  have m12 := (hI.i7 _ r4).lt
  have hS := rel_ss hI ht al
  have k4 : zk s (nt (s 16 t)) (nt (s 23 (8 * t + i))) = 4 := by show nt (ka s t i) = 4; rw [kd]; rfl
  have a1 := hS.1 (by omega)
  have h27 := hI.i27 (8 * t + i) (by have := hI.t16 ht; omega)
  have lf := h.tl t ht i hi hb
  rw [if_pos kd] at lf
  obtain ⟨c2, s2, y1, y2, y3⟩ := end_tok (f := f) (x7 := s 27 (8 * t + i)) (bd2 := bd + 1010) (c := c) (s := s) h hI (by omega) (by omega) ht on hi (by rw [kd]; decide) (by
    rcases h27 with e | e
    · rw [e, if_neg (by decide)] at lf
      exact Or.inl ⟨e, by rw [lf]; decide, by omega⟩
    · rw [e, if_pos rfl] at lf
      exact Or.inr ⟨e, by rw [lf]; decide, by rw [kd]; decide, by omega⟩) (Gq.same rfl rfl rfl) rfl rfl rfl rfl rfl
  refine ⟨K, c2, s2, ?_, fun J => ?_, y3⟩
  · rw [goOn_at h hI ht hi, gC, kd, if_neg (by decide), if_neg (by decide), if_neg (by decide), if_neg (by decide), y1]
  · rw [works_4 (hI.t16 ht) (by omega) b.1.eq r4 it.1.eq (by omega) a1.1.eq a1.1.lt kd h27, b_ob, y2]
theorem go_1 {t i : Nat} (h : CRep K c s) (hI : Iv K W bd s) (hf : 2 ^ 31 ≤ f) (hbd : bd + 1010 < 2 ^ 27) (ht : t < nt (s 15 0)) (on : s 18 t = nI 2 ∨ s 18 t = nI 4) (hi : i < nt (s 19 t)) (hb : s 26 (8 * t + i) = nI 1) (kd : ka s t i = nI 1) : Gt f K W (bd + 1010) t i c s := by
  have b := hI.ib t ht
  have r4 := b.1.lt
  have l9 := b.2.2.2.2.1.lt
  have it := hI.it t ht i hi
  have al := it.1.lt
  have m12 := (hI.i7 _ r4).lt
  have hS := rel_ss hI ht al
  have k4 : zk s (nt (s 16 t)) (nt (s 23 (8 * t + i))) = 1 := by show nt (ka s t i) = 1; rw [kd]; rfl
  have a1 := hS.1 (by omega)
  have kn4 : ka s t i ≠ nI 4 := by rw [kd]; decide
  have lf := left_of h ht hi hb kn4
  obtain ⟨g1, g2⟩ := (it.2.2 hb).2.2.1 (Or.inl kd)
  have g3 : 1 ≤ nt (s 24 (8 * t + i)) := g2.elim id (fun z => by omega)
  have g4 := g1.lt
  have ge := g1.eq
  generalize hn : nt (s 24 (8 * t + i)) = n at *
  have ev : s 24 (8 * t + i) - nI 1 = nI (n - 1) := by rw [ge, nI_sub (by omega)]
  have h1 := p_left (x := nI (n - 1)) h ht hi (fun _ => kn4)
  have key : ∃ bd8 x7, x7 = o01 (nI (n - 1)) ∧ bd8 % 1099511627776 ≤ bd + 1010 ∧ Iv K W bd8 (rx_up s 24 (8 * t + i) (nI (n - 1))) ∧ (x7 = nI 0 ∧ ¬ nI (n - 1) ≤ 0 ∧ bd8 / 1099511627776 = 0 ∨ x7 = nI 1 ∧ nI (n - 1) ≤ 0 ∧ (bd8 / 1099511627776 = 0 ∨ bd8 / 1099511627776 = 8 * t + i + 1)) := by
    by_cases z : n - 1 = 0
    · refine ⟨bd + 1099511627776 * (8 * t + i + 1), nI 1, by rw [o01_0 (by rw [z]; rfl)], by omega, ?_, Or.inr ⟨rfl, by rw [z]; decide, Or.inr (by omega)⟩⟩
      refine inv_24 (Iv_b hI (by omega) (Or.inr (by omega))) ht (on24 on) (fun _ _ => ⟨by rw [z]; exact rg_of (by decide) (by decide), Or.inr (by omega)⟩) (by omega)
    · refine ⟨bd, nI 0, by rw [o01_1 (nI_ne0 (by omega) (by omega))], by omega, ?_, Or.inl ⟨rfl, nI_ge (a := 0) (by omega) (by omega), by omega⟩⟩
      refine inv_24 hI ht (on24 on) (fun _ _ => ⟨rg_of (by omega) (by decide), Or.inl (by rw [nt_nI (by omega)]; omega)⟩) (by omega)
  obtain ⟨bd8, x7, q1, q2, q3, q4⟩ := key
  obtain ⟨c2, s2, y1, y2, y3⟩ := end_tok (f := f) (x7 := x7) (bd2 := bd + 1010) (c := c) (s := s) (s8 := rx_up s 24 (8 * t + i) (nI (n - 1))) h1 q3 q2 (by omega) ht on hi (by show nt (ka s t i) ≤ 4; rw [kd]; decide) (by
    rw [ui_s]
    rcases q4 with ⟨e1, e2, e3⟩ | ⟨e1, e2, e3⟩
    · exact Or.inl ⟨e1, e2, e3⟩
    · exact Or.inr ⟨e1, e2, (by show ka s t i ≠ nI 3; rw [kd]; decide), e3⟩) (Gq.same rfl rfl rfl) rfl rfl rfl rfl rfl
  refine ⟨K, c2, s2, ?_, fun J => ?_, y3⟩
  · rw [goOn_at h hI ht hi, gC, kd, if_neg (by decide), if_pos rfl, lf, ev]
    exact y1
  · rw [works_1 (hI.t16 ht) (by omega) b.1.eq r4 it.1.eq (by omega) a1.1.eq a1.1.lt kd, b_ob, ev, ← q1, y2]
end KND
end EAC
