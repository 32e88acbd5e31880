/-! a phase begins, both sides -/
section BG2
variable {f : Nat} {K : kx} {W : Nat → Nat → Nat} {bd : Nat} {c : cx_S} {s : rx_S}
def KS (K K2 : kx) : Prop := kS K2 = kS K ∧ kB K2 = kB K ∧ kN K2 = kN K ∧ kM K2 = kM K
theorem KS.rfl {K : kx} : KS K K := ⟨Eq.refl _, Eq.refl _, Eq.refl _, Eq.refl _⟩
theorem KS.tr {K K1 K2 : kx} (h : KS K K1) (g : KS K1 K2) : KS K K2 := ⟨by rw [g.1, h.1], by rw [g.2.1, h.2.1], by rw [g.2.2.1, h.2.2.1], by rw [g.2.2.2, h.2.2.2]⟩
def Gw (c : cx_S) (s : rx_S) (c2 : cx_S) (s2 : rx_S) : Prop := nt (s 31 0) ≤ nt (s2 31 0) ∧ cN c2 ≤ cN c + 3 * (nt (s2 31 0) - nt (s 31 0)) ∧ cZ c2 ≤ cZ c + 300 * (nt (s2 31 0) - nt (s 31 0)) ∧ cI c2 400 21 = cI c 400 21
theorem Gw.same {c2 : cx_S} {s2 : rx_S} (h1 : cN c2 = cN c) (h2 : cq c2 c) (h3 : s2 31 0 = s 31 0) : Gw c s c2 s2 := ⟨by rw [h3]; exact Nat.le_refl _, by rw [h1]; omega, by rw [h2.1]; omega, h2.2⟩
theorem cq.rfl {c : cx_S} : cq c c := ⟨Eq.refl _, Eq.refl _⟩
theorem Gw.tr {c1 c2 : cx_S} {s1 s2 : rx_S} (h : Gw c s c1 s1) (g : Gw c1 s1 c2 s2) : Gw c s c2 s2 := by
  obtain ⟨a1, a2, a3, a4⟩ := h
  obtain ⟨b1, b2, b3, b4⟩ := g
  exact ⟨by omega, by omega, by omega, by rw [b4, a4]⟩
theorem inv_lot (hI : Iv K W bd s) {t i : Nat} {x : Int32} (hi : i < 8) (hb : s 26 (8 * t + i) ≠ nI 1) (ht8 : ∀ t, t < nt (s 15 0) → nt (s 19 t) ≤ 8) : Iv K W bd (rx_up s 25 (8 * t + i) x) := by
  refine ⟨hI.ir, hI.iw, hI.if, hI.ib, fun t2 ht2 i2 hi2 => ?_, hI.iu, hI.iq, hI.il, hI.ln⟩
  have z := hI.it t2 ht2 i2 hi2
  refine ⟨z.1, z.2.1, fun b => ?_⟩
  obtain ⟨a1, a2, a3, a4⟩ := z.2.2 b
  refine ⟨a1, a2, a3, fun k => ?_⟩
  show rg (rx_up s 25 (8 * t + i) x 25 (8 * t2 + i2)) _
  have b : s 26 (8 * t2 + i2) = nI 1 := b
  rw [up_o (fun e => hb (by rw [← e]; exact b))]
  exact a4 k
theorem inv_beg (hI : Iv K W bd s) {t i : Nat} {y : Int32} (hk : nt (ka s t i) ≤ 4) (h13 : ka s t i = nI 1 ∨ ka s t i = nI 3 → rg y 21 ∧ 1 ≤ nt y) (h0 : ka s t i = nI 0 → rg (s 25 (8 * t + i)) (nt (s 31 0))) (hi : i < 8) (ht8 : ∀ t, t < nt (s 15 0) → nt (s 19 t) ≤ 8) : Iv K W bd (rx_up (rx_up (rx_up s 26 (8 * t + i) (nI 1)) 27 (8 * t + i) (nI 0)) 24 (8 * t + i) y) := by
  refine ⟨⟨hI.i3, hI.i6, hI.i7, hI.i8, hI.i9, hI.i15, hI.i31, hI.i32, i27_up (s := rx_up s 26 (8 * t + i) (nI 1)) hI.i27 (Or.inl rfl)⟩, hI.iw, hI.if, hI.ib, fun t2 ht2 i2 hi2 => ?_, hI.iu, hI.iq, hI.il, hI.ln⟩
  have z := hI.it t2 ht2 i2 hi2
  by_cases e : 8 * t2 + i2 = 8 * t + i
  · have l8 := ht8 t2 ht2
    have hi2' : i2 < nt (s 19 t2) := hi2
    have e1 : t2 = t ∧ i2 = i := by omega
    obtain ⟨e1, e2⟩ := e1
    subst e1; subst e2
    refine ⟨z.1, ?_, fun _ => ⟨?_, hk, fun q => ?_, h0⟩⟩
    · show rg (rx_up s 26 (8 * t2 + i2) (nI 1) 26 (8 * t2 + i2)) 2
      rw [up_s]; exact rg_of (by decide) (by decide)
    · show rg (rx_up s 27 (8 * t2 + i2) (nI 0) 27 (8 * t2 + i2)) 2
      rw [up_s]; exact rg_of (by decide) (by decide)
    · show rg (rx_up s 24 (8 * t2 + i2) y 24 (8 * t2 + i2)) 21 ∧ (1 ≤ nt (rx_up s 24 (8 * t2 + i2) y 24 (8 * t2 + i2)) ∨ bd / 1099511627776 = 8 * t2 + i2 + 1)
      rw [up_s]; exact ⟨(h13 q).1, Or.inl (h13 q).2⟩
  · have e26 : rx_up (rx_up (rx_up s 26 (8 * t + i) (nI 1)) 27 (8 * t + i) (nI 0)) 24 (8 * t + i) y 26 (8 * t2 + i2) = s 26 (8 * t2 + i2) := by show rx_up s 26 (8 * t + i) (nI 1) 26 (8 * t2 + i2) = _; exact up_o e
    have e27 : rx_up (rx_up (rx_up s 26 (8 * t + i) (nI 1)) 27 (8 * t + i) (nI 0)) 24 (8 * t + i) y 27 (8 * t2 + i2) = s 27 (8 * t2 + i2) := by show rx_up s 27 (8 * t + i) (nI 0) 27 (8 * t2 + i2) = _; exact up_o e
    have e24 : rx_up (rx_up (rx_up s 26 (8 * t + i) (nI 1)) 27 (8 * t + i) (nI 0)) 24 (8 * t + i) y 24 (8 * t2 + i2) = s 24 (8 * t2 + i2) := by show rx_up s 24 (8 * t + i) y 24 (8 * t2 + i2) = _; exact up_o e
    unfold IT
    rw [e26, e27, e24]
    exact z
theorem tkM2 (hI : Iv K W bd s) {t : Nat} (ht : t < nt (s 15 0)) {l3 l4 : Int32} {kk : Int32 → rx_S → Option (Int32 × rx_S)} : ∀ d n k, n + d = nt (s 19 t) → d < k → D_M_begin_21 f (nI t) l3 l4 kk k (nI (tkn s t n)) (nI n) s = kk (nI (tkn s t (nt (s 19 t)))) s := by
  have t16 := hI.t16 ht
  have b := hI.ib t ht
  have l9 := b.2.2.2.2.1.lt
  have e9 := b.2.2.2.2.1.eq
  intro d
  induction d with
  | zero =>
    intro n k hn hk
    obtain ⟨k, rfl⟩ : ∃ k', k = k' + 1 := ⟨k - 1, by omega⟩
    rw [D_M_begin_21, b_og t16 (by decide), e9, show n = nt (s 19 t) by omega, if_pos (Int32.le_refl _)]
    rw [nt_nI (by omega)]
  | succ d ih =>
    intro n k hn hk
    obtain ⟨k, rfl⟩ : ∃ k', k = k' + 1 := ⟨k - 1, by omega⟩
    have hn2 : n < nt (s 19 t) := by omega
    have e := ih (n + 1) k (by omega) (by omega)
    have tl := tkn_lt hI ht n (by omega)
    rw [tkn] at e
    rw [D_M_begin_21, b_og t16 (by decide)]
    rw [if_neg (show ¬ s 19 t ≤ nI n by rw [e9]; exact nI_ge hn2 (by omega)), pk_mul, nI_add, b_og (by omega) (by decide), b_oj, nI_add]
    by_cases q : s 26 (8 * t + n) = 0
    · rw [if_pos q]; rw [if_pos q] at e
      rw [← ib_or _ tl 0 (by decide)] at e
      exact e
    · rw [if_neg q]; rw [if_neg q] at e
      have bk := begun_k hI ht hn2 q
      have al := (hI.it t ht n hn2).1.lt
      have hS2 := rel_ss hI ht al
      rw [b_stepAt hI ht hn2, b_ob, roles_M hI b.1.lt al hS2 bk.1, b_ob]
      rw [← ib_or _ tl _ (mR_lt hS2 bk.1)] at e
      exact e
/-- the phase's turn, class -/
abbrev phC (f : Nat) (l1 l2 v31 : Option Nat) (s32 : cx_S) : Option (Int32 × cx_S) := oc 9 l2 s32 fun p33 => oj (fun (s35 : cx_S) => some (0, s35)) fun J34 => if (cI s32 145 p33 0) = 0 then oc 1 l1 s32 fun p36 => ob (D_B_hasRolesFree f p36 v31 s32) fun x37 s38 => if x37 = 0 then J34 s38 else oc 2 (some 12) s38 fun p39 => ob (D_F_begin f p39 l1 l2 v31 s38) fun x40 s41 => J34 s41 else J34 s32
/-- how a batch may stand after its own move -/
def Aft (t : Nat) (s s2 : rx_S) : Prop := (s2 18 t = s 18 t ∧ s2 30 0 = s 30 0) ∨ ((s2 18 t = nI 6 ∨ s2 18 t = nI 7) ∧ s2 19 t = nI 0 ∧ s2 30 0 = nI 1)
def Mv (K : kx) (W : Nat → Nat → Nat) (bd t : Nat) (c : cx_S) (s : rx_S) (K2 : kx) (c2 : cx_S) (s2 : rx_S) : Prop := CRep K2 c2 s2 ∧ Iv K2 W bd s2 ∧ KS K K2 ∧ Gw c s c2 s2 ∧ Fr t s s2 ∧ s2 0 0 = s 0 0
theorem unit_of (h : CRep K c s) (hI : Iv K W bd s) {t k : Nat} (ht : t < nt (s 15 0)) (hon : On (s 18 t)) (hk : k < 3) (hc : nt (s 6 (3 * nt (s 16 t) + k)) < 3) : ∃ u, u < 6 ∧ s 22 (3 * t + k) = nI u ∧ D_F_unitFor f 12 (some (kB K t)) (nI k) c = some (some (22 + 3 * u), c) := by
  have b := hI.ib t ht
  have g := (b.2.2.2.2.2.2.1 hon).1 k hk hc
  obtain ⟨hb1, hb2, hb3, hb4, hb5, hb6, hb7, hb8, hb9, hb10, hb11⟩ := h.bh t ht
  refine ⟨nt (s 22 (3 * t + k)), g.lt, g.eq, ?_⟩
  unfold D_F_unitFor
  have e := h.bo t ht k hk
  rw [g.eq] at e
  rw [b_oc h.fix.h12, b_oc hb2, hb7, b_oa hb11 hk (by decide), h.fix.f32, e, b_oa h.fix.h13 g.lt (by decide), h.fix.unA _ g.lt]
theorem begin_both (h : CRep K c s) (hI : Iv K W bd s) (hf : 2 ^ 31 ≤ f) {t i : Nat} (ht : t < nt (s 15 0)) (hst : s 18 t = nI 2) (hi : i < nt (s 19 t)) (hb : s 26 (8 * t + i) = 0) (hk : zk s (nt (s 16 t)) (nt (s 23 (8 * t + i))) ≤ 4) :
    ∃ K2 c2 s2, phC f (some (kB K t)) (some (kT K t i)) (some (kS K (nt (s 16 t)) (nt (s 23 (8 * t + i))))) c = some (0, c2) ∧ D_M_begin f (nI t) (nI i) s = some (0, s2) ∧ Mv K W bd t c s K2 c2 s2 ∧ kT K2 = kT K ∧ ((s2 18 t = nI 2 ∧ s2 30 0 = s 30 0 ∧ s2 19 = s 19 ∧ s2 23 = s 23 ∧ s2 21 = s 21) ∨ (s2 18 t = nI 6 ∧ s2 19 t = nI 0 ∧ s2 30 0 = nI 1)) := by
  have t16 := hI.t16 ht
  have b := hI.ib t ht
  have r4 := b.1.lt
  have l9 := b.2.2.2.2.1.lt
  have it := hI.it t ht i hi
  have al := it.1.lt
  have m12 := (hI.i7 _ r4).lt
  have hS := rel_ss hI ht al
  have mi := mR_lt hS hk
  have tl := tkn_lt hI ht _ (Nat.le_refl _)
  have hT := h.th t ht i (by omega)
  have hstp := h.sh _ r4 _ al
  have k10 := hI.i9 _ r4 _ al
  have kl := k10.lt
  have ht8 : ∀ t, t < nt (s 15 0) → nt (s 19 t) ≤ 8 := h.t8
  have nb : s 26 (8 * t + i) ≠ nI 1 := by rw [hb]; decide
  obtain ⟨hb1, hb2, hb3, hb4, hb5, hb6, hb7, hb8, hb9, hb10, hb11⟩ := h.bh t ht
  obtain ⟨y, e1, t1⟩ := free_C (f := f) h hI ht al hk hf
  have on2 : On (s 18 t) := Or.inl hst
  have kaE : ka s t i = s 9 (12 * nt (s 16 t) + nt (s 23 (8 * t + i))) := rfl
  have same : Mv K W bd t c s K c s := ⟨h, hI, KS.rfl, Gw.same rfl cq.rfl rfl, Fr.rfl, rfl⟩
  -- the reference up to its choice
  have mv : D_M_begin f (nI t) (nI i) s = if tkn s t (nt (s 19 t)) &&& mR s (nt (s 16 t)) (nt (s 23 (8 * t + i))) = 0 then (oj (fun (s21 : rx_S) => oj (fun (x23 : Int32) (s24 : rx_S) => some (0, rx_up s24 24 (8 * t + i) x23)) fun J22 => if ((rx_up (rx_up s21 26 (8 * t + i) (nI 1)) 27 (8 * t + i) (nI 0)) 9 (12 * nt (s 16 t) + nt (s 23 (8 * t + i)))) = 0 then og 16 (nI t) fun j25 => od (nI 100) <| J22 (((rx_up (rx_up s21 26 (8 * t + i) (nI 1)) 27 (8 * t + i) (nI 0)) 11 (12 * nt (s 16 t) + nt (s 23 (8 * t + i)))) + ((((rx_up (rx_up s21 26 (8 * t + i) (nI 1)) 27 (8 * t + i) (nI 0)) 12 (12 * nt (s 16 t) + nt (s 23 (8 * t + i)))) * ((rx_up (rx_up s21 26 (8 * t + i) (nI 1)) 27 (8 * t + i) (nI 0)) 17 j25)) / (nI 100))) (rx_up (rx_up s21 26 (8 * t + i) (nI 1)) 27 (8 * t + i) (nI 0)) else if ((rx_up (rx_up s21 26 (8 * t + i) (nI 1)) 27 (8 * t + i) (nI 0)) 9 (12 * nt (s 16 t) + nt (s 23 (8 * t + i)))) = (nI 2) then og 48 (((nI 3) * nI t) + ((rx_up (rx_up s21 26 (8 * t + i) (nI 1)) 27 (8 * t + i) (nI 0)) 10 (12 * nt (s 16 t) + nt (s 23 (8 * t + i))))) fun j26 => ob (D_M_total f ((rx_up (rx_up s21 26 (8 * t + i) (nI 1)) 27 (8 * t + i) (nI 0)) 22 j26) (rx_up (rx_up s21 26 (8 * t + i) (nI 1)) 27 (8 * t + i) (nI 0))) fun x27 s28 => od (nI 100) <| J22 ((x27 * (s28 12 (12 * nt (s 16 t) + nt (s 23 (8 * t + i))))) / (nI 100)) s28 else J22 ((rx_up (rx_up s21 26 (8 * t + i) (nI 1)) 27 (8 * t + i) (nI 0)) 11 (12 * nt (s 16 t) + nt (s 23 (8 * t + i)))) (rx_up (rx_up s21 26 (8 * t + i) (nI 1)) 27 (8 * t + i) (nI 0))) fun J20 => if (s 9 (12 * nt (s 16 t) + nt (s 23 (8 * t + i)))) = 0 then ob (D_M_newLot f (nI t) (s 23 (8 * t + i)) s) fun x29 s30 => if x29 = ((-1)) then some (0, s30) else J20 (rx_up s30 25 (8 * t + i) x29) else J20 s) else some (0, s) := by
    have e := fun kk => tkM2 (f := f) hI ht (l3 := nI 8 * nI t + nI i) (l4 := nI (12 * nt (s 16 t) + nt (s 23 (8 * t + i)))) (kk := kk) (nt (s 19 t)) 0 f (by omega) (by omega)
    unfold D_M_begin
    rw [b_stepAt hI ht hi, b_ob]
    refine (e _).trans ?_
    rw [pk_mul, nI_add, b_og (show 8 * t + i < 128 by omega) (by decide), b_oj, if_pos hb, roles_M hI r4 al hS hk, b_ob]
    by_cases q : tkn s t (nt (s 19 t)) &&& mR s (nt (s 16 t)) (nt (s 23 (8 * t + i))) = 0
    · rw [if_pos q, if_pos (by rw [ib_and _ tl _ mi]; exact q), b_og (show 12 * nt (s 16 t) + nt (s 23 (8 * t + i)) < 48 by omega) (by decide)]
    · rw [if_neg q, if_neg (by rw [ib_and _ tl _ mi]; exact q)]
  have ph : phC f (some (kB K t)) (some (kT K t i)) (some (kS K (nt (s 16 t)) (nt (s 23 (8 * t + i))))) c = if y = 0 then some (0, c) else ob (D_F_begin f 12 (some (kB K t)) (some (kT K t i)) (some (kS K (nt (s 16 t)) (nt (s 23 (8 * t + i))))) c) fun x40 s41 => some (0, s41) := by
    unfold phC
    rw [b_oc hT.2, b_oj, h.tb t ht i hi, if_pos hb, b_oc hb2, e1, b_ob]
    by_cases q : y = 0
    · rw [if_pos q, if_pos q]
    · rw [if_neg q, if_neg q, b_oc h.fix.h12]
  rw [mv, ph]
  rcases Or.symm t1 with ⟨rfl, q⟩ | ⟨rfl, q⟩
  · rw [if_pos (show nI 0 = 0 from rfl), if_neg q]
    exact ⟨K, c, s, rfl, rfl, same, rfl, Or.inl ⟨hst, rfl, rfl, rfl, rfl⟩⟩
  rw [if_neg (show ¬ nI 1 = 0 by decide), if_pos q]
  have od100 : ∀ {β : Type} {k : Option β}, od (nI 100) k = k := fun {β k} => if_neg (by decide)
  have fin : ∀ x y, (x = if ka s t i = nI 4 then nI 1 else y) → (ka s t i = nI 1 ∨ ka s t i = nI 3 → rg y 21 ∧ 1 ≤ nt y) → ka s t i ≠ nI 0 → ∃ K2 c2 s2, (some ((0 : Int32), cx_ui (cx_ui c 146 (kT K t i) 0 x) 145 (kT K t i) 0 (nI 1)) : Option (Int32 × cx_S)) = some (0, c2) ∧ (some ((0 : Int32), rx_up (rx_up (rx_up s 26 (8 * t + i) (nI 1)) 27 (8 * t + i) (nI 0)) 24 (8 * t + i) y) : Option (Int32 × rx_S)) = some (0, s2) ∧ Mv K W bd t c s K2 c2 s2 ∧ kT K2 = kT K ∧ ((s2 18 t = nI 2 ∧ s2 30 0 = s 30 0 ∧ s2 19 = s 19 ∧ s2 23 = s 23 ∧ s2 21 = s 21) ∨ (s2 18 t = nI 6 ∧ s2 19 t = nI 0 ∧ s2 30 0 = nI 1)) := by
    intro x y hx h13 h0
    refine ⟨K, _, _, rfl, rfl, ⟨p_beg h ht hi hx (fun z => absurd z h0), inv_beg hI hk h13 (fun z => absurd z h0) (by omega) ht8, KS.rfl, Gw.same rfl ⟨rfl, rfl⟩ rfl, ⟨fun k hk => ?_, fun _ _ => rfl, fun _ _ => Or.inl rfl, fun _ _ => Or.inl rfl⟩, rfl⟩, rfl, Or.inl ⟨hst, rfl, rfl, rfl, rfl⟩⟩
    funext j
    rw [up_k (by omega), up_k (by omega), up_k (by omega)]
  have cE := h.s0 _ r4 _ al
  have aE := h.s1 _ r4 _ al
  have bE := h.s2 _ r4 _ al
  have c3E := h.s3 _ r4 _ al
  have kcase : zk s (nt (s 16 t)) (nt (s 23 (8 * t + i))) = 0 ∨ zk s (nt (s 16 t)) (nt (s 23 (8 * t + i))) = 1 ∨ zk s (nt (s 16 t)) (nt (s 23 (8 * t + i))) = 2 ∨ zk s (nt (s 16 t)) (nt (s 23 (8 * t + i))) = 3 ∨ zk s (nt (s 16 t)) (nt (s 23 (8 * t + i))) = 4 := by omega
  unfold D_F_begin
  rw [b_oc hstp.2]
  simp only [b_oj]
  rcases kcase with k0 | k0 | k0 | k0 | k0
  · -- CHARGE
    have ke : s 9 (12 * nt (s 16 t) + nt (s 23 (8 * t + i))) = nI 0 := by rw [k10.eq]; exact congrArg nI k0
    have g31 := hI.i31
    have l31 := g31.lt
    by_cases full : nt (s 31 0) = 100
    · obtain ⟨c2, s2, w1, w2, w3, w4, w5, w6, w7, w8, w9, w10, w11, w12⟩ := close_both (f := f) h hI hf ht (on_ne on2).1 (how := 6) (by decide)
      have e31 : s 31 0 = nI 100 := by rw [g31.eq, full]
      have isf : D_K_isFull f 14 c = some (nI 1, c) := by
        unfold D_K_isFull
        rw [b_oc h.fix.h14]
        simp only [b_oj, h.ln, e31, if_neg (show ¬ nI 100 < nI 100 by decide), ozb_1]
      rw [cE, ke, if_pos rfl, b_oc h.fix.h12, h.fix.f33, b_oc h.fix.h14, isf, b_ob, if_neg (by decide), b_oc h.fix.h12, w1, b_ob, b_ob, if_pos (show nI 0 = 0 from rfl)]
      rw [D_M_newLot, e31, if_pos rfl, w2, b_ob, b_ob, if_pos rfl]
      exact ⟨K, c2, s2, rfl, rfl, ⟨w3, w4, KS.rfl, Gw.same w5 w6 w10, w12, w11⟩, rfl, Or.inr ⟨w7, w8, w9⟩⟩
    · have l100 : nt (s 31 0) < 100 := by omega
      have e31 := g31.eq
      have isf : D_K_isFull f 14 c = some (nI 0, c) := by
        unfold D_K_isFull
        rw [b_oc h.fix.h14]
        simp only [b_oj, h.ln]
        rw [if_pos (by rw [e31]; exact nI_lt l100 (by decide)), ozb_0]
      generalize hl : nt (s 31 0) = l at *
      have ate := it.1.eq
      have h1 := p_open (x := nI t) (y := s 23 (8 * t + i)) h e31 l100 (by have := hI.il.2.2.2.1; rw [hl] at this; exact this) (by have := cn_new hI; rw [hl] at this; exact this)
      have hI1 : Iv (kL2 K l (cN c)) W bd (sO s l (nI t) (s 23 (8 * t + i))) := inv_open hI e31 l100 _ rfl rfl
      have h2 := p_lot (s := sO s l (nI t) (s 23 (8 * t + i))) (x := nI l) h1 ht hi nb
      have hI2 := inv_lot (s := sO s l (nI t) (s 23 (8 * t + i))) (t := t) (i := i) (x := nI l) hI1 (by omega) nb ht8
      have n31 : nt (sO s l (nI t) (s 23 (8 * t + i)) 31 0) = l + 1 := by
        have : sO s l (nI t) (s 23 (8 * t + i)) 31 0 = nI (l + 1) := by show rx_up (rx_up (rx_up s 33 l (nI t)) 34 l (s 23 (8 * t + i))) 31 0 (nI (l + 1)) 31 0 = _; exact up_s
        rw [this, nt_nI (by omega)]
      have lot25 : rx_up (sO s l (nI t) (s 23 (8 * t + i))) 25 (8 * t + i) (nI l) 25 (8 * t + i) = nI l := up_s
      have h3 := fun y => p_beg (s := rx_up (sO s l (nI t) (s 23 (8 * t + i))) 25 (8 * t + i) (nI l)) (x := y) (y := y) h2 ht hi (by
        show y = if s 9 (12 * nt (s 16 t) + nt (s 23 (8 * t + i))) = nI 4 then nI 1 else y
        rw [ke, if_neg (by decide)]) (fun _ => by rw [ui_s]; exact lot25.symm)
      have hI3 := fun y => inv_beg (s := rx_up (sO s l (nI t) (s 23 (8 * t + i))) 25 (8 * t + i) (nI l)) (t := t) (i := i) (y := y) hI2 hk (fun z => by
        have z : s 9 (12 * nt (s 16 t) + nt (s 23 (8 * t + i))) = nI 1 ∨ s 9 (12 * nt (s 16 t) + nt (s 23 (8 * t + i))) = nI 3 := z
        rw [ke] at z
        exact absurd z (by decide)) (fun _ => by
        show rg (rx_up (sO s l (nI t) (s 23 (8 * t + i))) 25 (8 * t + i) (nI l) 25 (8 * t + i)) (nt (sO s l (nI t) (s 23 (8 * t + i)) 31 0))
        rw [lot25, n31]; exact rg_of (by omega) (by omega)) (by omega) ht8
      have f1 := h2.fix
      have hst1 := h1.sh _ r4 _ al
      have hT1 := h1.th t ht i (by omega)
      have hB1 := (h1.bh t ht).2.1
      have c16 : cI c 16 (kB K t) 0 = nI t := h.b0 t ht
      have c144 : cI c 144 (kT K t i) 0 = s 23 (8 * t + i) := h.ta t ht i hi
      have v130 := h2.s2 _ r4 _ al
      have v131 := h2.s3 _ r4 _ al
      have v19 := h2.b3 t ht
      have v130 : cI (cx_ui (cO c l (nI t) (s 23 (8 * t + i))) 147 (kT K t i) 0 (nI l)) 130 (kS K (nt (s 16 t)) (nt (s 23 (8 * t + i)))) 0 = s 11 (12 * nt (s 16 t) + nt (s 23 (8 * t + i))) := v130
      have v131 : cI (cx_ui (cO c l (nI t) (s 23 (8 * t + i))) 147 (kT K t i) 0 (nI l)) 131 (kS K (nt (s 16 t)) (nt (s 23 (8 * t + i)))) 0 = s 12 (12 * nt (s 16 t) + nt (s 23 (8 * t + i))) := v131
      have v19 : cI (cx_ui (cO c l (nI t) (s 23 (8 * t + i))) 147 (kT K t i) 0 (nI l)) 19 (kB K t) 0 = s 17 t := v19
      rw [cE, ke, if_pos rfl, b_oc h.fix.h12, h.fix.f33, b_oc h.fix.h14, isf, b_ob, if_pos (show nI 0 = 0 from rfl), b_oc h.fix.h12, b_oc hb2, b_oc hT.2, h.fix.f33, b_oc h.fix.h14, c16, c144, open_C h e31 l100, b_ob, b_oc (show cH (cO c l (nI t) (s 23 (8 * t + i))) (kT K t i) = some (9, 0) from hT1.2), b_oc (show cH (cO c l (nI t) (s 23 (8 * t + i))) (kS K (nt (s 16 t)) (nt (s 23 (8 * t + i)))) = some (8, 0) from hst1.2), b_oc (show cH (cO c l (nI t) (s 23 (8 * t + i))) (kB K t) = some (1, 0) from hB1), od100, v130, v131, v19]
      rw [b_oc (show cH (cx_ui (cx_ui (cO c l (nI t) (s 23 (8 * t + i))) 147 (kT K t i) 0 (nI l)) 146 (kT K t i) 0 (s 11 (12 * nt (s 16 t) + nt (s 23 (8 * t + i))) + s 12 (12 * nt (s 16 t) + nt (s 23 (8 * t + i))) * s 17 t / nI 100)) (kT K t i) = some (9, 0) from hT1.2), b_ob, if_pos (show nI 0 = 0 from rfl), open_M e31 l100, b_ob, if_neg (nI_m1 (by omega))]
      rw [if_pos (show rx_up (rx_up (rx_up (sO s l (nI t) (s 23 (8 * t + i))) 25 (8 * t + i) (nI l)) 26 (8 * t + i) (nI 1)) 27 (8 * t + i) (nI 0) 9 (12 * nt (s 16 t) + nt (s 23 (8 * t + i))) = 0 from ke), b_og t16 (by decide), od100]
      refine ⟨_, _, _, rfl, rfl, ⟨h3 _, hI3 _, ⟨rfl, rfl, rfl, rfl⟩, ⟨?_, ?_, ?_, ?_⟩, ⟨fun k hk => ?_, fun _ _ => rfl, fun _ _ => Or.inl rfl, fun _ _ => Or.inl rfl⟩, rfl⟩, rfl, Or.inl ⟨hst, rfl, rfl, rfl, rfl⟩⟩
      · show nt (s 31 0) ≤ nt (sO s l (nI t) (s 23 (8 * t + i)) 31 0)
        rw [n31, hl]; omega
      · show cN c + 1 ≤ cN c + 3 * (nt (sO s l (nI t) (s 23 (8 * t + i)) 31 0) - nt (s 31 0))
        rw [n31, hl]; omega
      · show cZ c + 5 ≤ cZ c + 300 * (nt (sO s l (nI t) (s 23 (8 * t + i)) 31 0) - nt (s 31 0))
        rw [n31, hl]; omega
      · have n96 := h.fix.n
        funext j
        show cI (cx_mk c (3, 0) 5) 400 21 j = _
        rw [cI_mk, if_neg (by omega)]
      · funext j
        rw [up_k (by omega), up_k (by omega), up_k (by omega), up_k (by omega)]
        show rx_up (rx_up (rx_up (rx_up s 33 l (nI t)) 34 l (s 23 (8 * t + i))) 31 0 (nI (l + 1))) 35 (l + 1) (s 32 0) k j = s k j
        rw [up_k (by omega), up_k (by omega), up_k (by omega), up_k (by omega)]
  · -- HEAT
    have ke : s 9 (12 * nt (s 16 t) + nt (s 23 (8 * t + i))) = nI 1 := by rw [k10.eq]; exact congrArg nI k0
    have bs := hS.2.2.1 (Or.inl k0)
    rw [cE, ke, if_neg (by decide), if_pos rfl, b_oc hT.2, bE, b_oc (show cH (cx_ui c 146 (kT K t i) 0 (s 11 (12 * nt (s 16 t) + nt (s 23 (8 * t + i))))) (kT K t i) = some (9, 0) from hT.2), b_ob, if_neg (show ¬ nI 1 = 0 by decide)]
    rw [if_neg (show ¬ rx_up (rx_up s 26 (8 * t + i) (nI 1)) 27 (8 * t + i) (nI 0) 9 (12 * nt (s 16 t) + nt (s 23 (8 * t + i))) = 0 from fun z => absurd (show s 9 (12 * nt (s 16 t) + nt (s 23 (8 * t + i))) = 0 from z) (by rw [ke]; decide)), if_neg (show ¬ rx_up (rx_up s 26 (8 * t + i) (nI 1)) 27 (8 * t + i) (nI 0) 9 (12 * nt (s 16 t) + nt (s 23 (8 * t + i))) = nI 2 from fun z => absurd (show s 9 (12 * nt (s 16 t) + nt (s 23 (8 * t + i))) = nI 2 from z) (by rw [ke]; decide))]
    exact fin _ _ (by rw [kaE, ke, if_neg (by decide)]; rfl) (fun _ => bs) (by rw [kaE, ke]; decide)
  · -- MOVE
    have ke : s 9 (12 * nt (s 16 t) + nt (s 23 (8 * t + i))) = nI 2 := by rw [k10.eq]; exact congrArg nI k0
    have as := hS.1 hk
    have ae := as.1.eq
    obtain ⟨u, hu, u1, u2⟩ := unit_of (f := f) (k := za s (nt (s 16 t)) (nt (s 23 (8 * t + i)))) h hI ht on2 as.1.lt as.2
    have tc := b_totC (f := f) h hf hu (hI.i3 u hu)
    have tm := b_totM (f := f) (s := rx_up (rx_up s 26 (8 * t + i) (nI 1)) 27 (8 * t + i) (nI 0)) hf hu (hI.i3 u hu)
    have ae : s 10 (12 * nt (s 16 t) + nt (s 23 (8 * t + i))) = nI (za s (nt (s 16 t)) (nt (s 23 (8 * t + i)))) := ae
    have al3 : za s (nt (s 16 t)) (nt (s 23 (8 * t + i))) < 3 := as.1.lt
    have ae2 : rx_up (rx_up s 26 (8 * t + i) (nI 1)) 27 (8 * t + i) (nI 0) 10 (12 * nt (s 16 t) + nt (s 23 (8 * t + i))) = nI (za s (nt (s 16 t)) (nt (s 23 (8 * t + i)))) := ae
    have u12 : rx_up (rx_up s 26 (8 * t + i) (nI 1)) 27 (8 * t + i) (nI 0) 22 (3 * t + za s (nt (s 16 t)) (nt (s 23 (8 * t + i)))) = nI u := u1
    rw [cE, ke, if_neg (by decide), if_neg (by decide), if_pos rfl, b_oc h.fix.h12, aE, ae, u2, b_ob, b_oc (h.fix.hUn u hu), tc, b_ob, od100, b_oc hT.2, c3E, b_oc (show cH (cx_ui c 146 (kT K t i) 0 _) (kT K t i) = some (9, 0) from hT.2), b_ob, if_neg (show ¬ nI 2 = 0 by decide)]
    rw [if_neg (show ¬ rx_up (rx_up s 26 (8 * t + i) (nI 1)) 27 (8 * t + i) (nI 0) 9 (12 * nt (s 16 t) + nt (s 23 (8 * t + i))) = 0 from fun z => absurd (show s 9 (12 * nt (s 16 t) + nt (s 23 (8 * t + i))) = 0 from z) (by rw [ke]; decide)), if_pos (show rx_up (rx_up s 26 (8 * t + i) (nI 1)) 27 (8 * t + i) (nI 0) 9 (12 * nt (s 16 t) + nt (s 23 (8 * t + i))) = nI 2 from ke), ae2, pk_mul, nI_add, b_og (show 3 * t + za s (nt (s 16 t)) (nt (s 23 (8 * t + i))) < 48 by omega) (by decide), u12, tm, b_ob, od100]
    refine fin _ _ ?_ (fun z => by rw [kaE, ke] at z; exact absurd z (by decide)) (by rw [kaE, ke]; decide)
    rw [kaE, ke, if_neg (by decide), Int32.mul_comm]
    rfl
  · -- REACT
    have ke : s 9 (12 * nt (s 16 t) + nt (s 23 (8 * t + i))) = nI 3 := by rw [k10.eq]; exact congrArg nI k0
    have bs := hS.2.2.1 (Or.inr k0)
    rw [cE, ke, if_neg (by decide), if_neg (by decide), if_neg (by decide), if_pos rfl, b_oc hT.2, bE, b_oc (show cH (cx_ui c 146 (kT K t i) 0 (s 11 (12 * nt (s 16 t) + nt (s 23 (8 * t + i))))) (kT K t i) = some (9, 0) from hT.2), b_ob, if_neg (show ¬ nI 3 = 0 by decide)]
    rw [if_neg (show ¬ rx_up (rx_up s 26 (8 * t + i) (nI 1)) 27 (8 * t + i) (nI 0) 9 (12 * nt (s 16 t) + nt (s 23 (8 * t + i))) = 0 from fun z => absurd (show s 9 (12 * nt (s 16 t) + nt (s 23 (8 * t + i))) = 0 from z) (by rw [ke]; decide)), if_neg (show ¬ rx_up (rx_up s 26 (8 * t + i) (nI 1)) 27 (8 * t + i) (nI 0) 9 (12 * nt (s 16 t) + nt (s 23 (8 * t + i))) = nI 2 from fun z => absurd (show s 9 (12 * nt (s 16 t) + nt (s 23 (8 * t + i))) = nI 2 from z) (by rw [ke]; decide))]
    exact fin _ _ (by rw [kaE, ke, if_neg (by decide)]; rfl) (fun _ => bs) (by rw [kaE, ke]; decide)
  · -- SAMPLE
    have ke : s 9 (12 * nt (s 16 t) + nt (s 23 (8 * t + i))) = nI 4 := by rw [k10.eq]; exact congrArg nI k0
    rw [cE, ke, if_neg (by decide), if_neg (by decide), if_neg (by decide), if_neg (by decide), if_pos rfl, b_oc hT.2, b_oc (show cH (cx_ui c 146 (kT K t i) 0 (nI 1)) (kT K t i) = some (9, 0) from hT.2), b_ob, if_neg (show ¬ nI 4 = 0 by decide)]
    rw [if_neg (show ¬ rx_up (rx_up s 26 (8 * t + i) (nI 1)) 27 (8 * t + i) (nI 0) 9 (12 * nt (s 16 t) + nt (s 23 (8 * t + i))) = 0 from fun z => absurd (show s 9 (12 * nt (s 16 t) + nt (s 23 (8 * t + i))) = 0 from z) (by rw [ke]; decide)), if_neg (show ¬ rx_up (rx_up s 26 (8 * t + i) (nI 1)) 27 (8 * t + i) (nI 0) 9 (12 * nt (s 16 t) + nt (s 23 (8 * t + i))) = nI 2 from fun z => absurd (show s 9 (12 * nt (s 16 t) + nt (s 23 (8 * t + i))) = nI 2 from z) (by rw [ke]; decide))]
    exact fin _ _ (by rw [kaE, ke, if_pos rfl]) (fun z => by rw [kaE, ke] at z; exact absurd z (by decide)) (by rw [kaE, ke]; decide)
end BG2
