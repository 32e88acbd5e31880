/-! after a token's work -/
section FIN
variable {f : Nat} {K : kx} {W : Nat → Nat → Nat} {bd bd2 : Nat} {c : cx_S} {s s2 : rx_S}
/-- what the class does after a token's work -/
def tlC (f b k z : Nat) (s8 : cx_S) : Option (Int32 × cx_S) := oc 9 (some k) s8 fun p9 => if (cI s8 146 p9 0) ≤ 0 then oc 8 (some z) s8 fun p10 => oj (fun (s12 : cx_S) => oc 9 (some k) s12 fun p13 => oc 8 (some z) s12 fun p14 => some (0, cx_ui (cx_ui s12 145 p13 0 (nI 0)) 144 p13 0 (cI (cx_ui s12 145 p13 0 (nI 0)) 132 p14 0))) fun J11 => if (cI s8 128 p10 0) = (nI 3) then oc 2 (some 12) s8 fun p15 => ob (D_F_unitFor f p15 (some b) (cI s8 129 p10 0) s8) fun x16 s17 => oc 2 (some 12) s17 fun p18 => ob (D_F_react f p18 (some b) (cI s8 144 p9 0) x16 s17) fun x19 s20 => J11 s20 else J11 s8 else some (0, s8)
/-- what the reference does after a token's work -/
def tlM (f t i : Nat) (x7 : Int32) (s8 : rx_S) (J : rx_S → Option (Int32 × rx_S)) : Option (Int32 × rx_S) := if x7 = 0 then J s8 else ob (D_M_isOn f (nI t) s8) fun x9 s10 => if x9 = 0 then J s10 else ob (D_M_stepAt f (nI t) (nI i) (rx_up s10 26 (8 * t + i) (nI 0))) fun x11 s12 => og 48 x11 fun j13 => J (rx_up s12 23 (8 * t + i) (s12 13 j13))
def Gq (c : cx_S) (s : rx_S) (c2 : cx_S) (s2 : rx_S) : Prop := nt (s 31 0) ≤ nt (s2 31 0) ∧ cN c2 ≤ cN c + 3 * (nt (s2 31 0) - nt (s 31 0)) ∧ cZ c2 ≤ cZ c + 300 * (nt (s2 31 0) - nt (s 31 0))
theorem Gq.same {c2 : cx_S} (h : s2 31 0 = s 31 0) (hN : cN c2 = cN c) (hZ : cZ c2 = cZ c) : Gq c s c2 s2 := ⟨by rw [h]; exact Nat.le_refl _, by omega, by omega⟩
theorem Gq.tr {c1 c2 : cx_S} {s1 : rx_S} (h : Gq c s c1 s1) (g : Gq c1 s1 c2 s2) : Gq c s c2 s2 := by
  obtain ⟨a1, a2, a3⟩ := h
  obtain ⟨b1, b2, b3⟩ := g
  exact ⟨by omega, by omega, by omega⟩
/-- what a token's work leaves -/
def Tk (K : kx) (W : Nat → Nat → Nat) (bd2 t : Nat) (c : cx_S) (s : rx_S) (K2 : kx) (c2 : cx_S) (s2 : rx_S) : Prop := CRep K2 c2 s2 ∧ Iv K2 W bd2 s2 ∧ KS K K2 ∧ kT K2 = kT K ∧ Gq c s c2 s2 ∧ s2 0 0 = s 0 0 ∧ s2 15 = s 15 ∧ ((s2 18 = s 18 ∧ s2 19 = s 19 ∧ s2 30 = s 30) ∨ (s2 18 t = nI 6 ∧ s2 19 t = nI 0 ∧ s2 30 0 = nI 1))
/-- the state after a token is through with its step -/
abbrev sE (s : rx_S) (t i : Nat) (x : Int32) : rx_S := rx_up (rx_up s 26 (8 * t + i) (nI 0)) 23 (8 * t + i) x
abbrev cG (c : cx_S) (k : Nat) (x : Int32) : cx_S := cx_ui (cx_ui c 145 k 0 (nI 0)) 144 k 0 x
theorem tlC_0 {b k z : Nat} (hk : cH c k = some (9, 0)) (h0 : ¬ cI c 146 k 0 ≤ 0) : tlC f b k z c = some (0, c) := by
  unfold tlC
  rw [b_oc hk, if_neg h0]
theorem tlC_1 {b k z : Nat} (hk : cH c k = some (9, 0)) (hz : cH c z = some (8, 0)) (h0 : cI c 146 k 0 ≤ 0) (h3 : cI c 128 z 0 ≠ nI 3) : tlC f b k z c = some (0, cG c k (cI c 132 z 0)) := by
  unfold tlC
  rw [b_oc hk, if_pos h0, b_oc hz, b_oj, if_neg h3]
  dsimp only
  rw [b_oc hk, b_oc hz, ui_F (by decide)]
theorem tlC_3 {b k z : Nat} {c2 c3 : cx_S} {x : Option Nat} (hk : cH c k = some (9, 0)) (hz : cH c z = some (8, 0)) (h12 : cH c 12 = some (2, 0)) (h0 : cI c 146 k 0 ≤ 0) (h3 : cI c 128 z 0 = nI 3) (hu : D_F_unitFor f 12 (some b) (cI c 129 z 0) c = some (x, c2)) (h122 : cH c2 12 = some (2, 0)) (hr : D_F_react f 12 (some b) (cI c 144 k 0) x c2 = some (0, c3)) (hk3 : cH c3 k = some (9, 0)) (hz3 : cH c3 z = some (8, 0)) : tlC f b k z c = some (0, cG c3 k (cI c3 132 z 0)) := by
  unfold tlC
  rw [b_oc hk, if_pos h0, b_oc hz, b_oj, if_pos h3, b_oc h12, hu, b_ob, b_oc h122, hr, b_ob]
  dsimp only
  rw [b_oc hk3, b_oc hz3, ui_F (by decide)]
theorem tlM_0 {t i : Nat} {J : rx_S → Option (Int32 × rx_S)} : tlM f t i (nI 0) s J = J s := if_pos rfl
theorem tlM_1 {t i r a : Nat} {J : rx_S → Option (Int32 × rx_S)} (t16 : t < 16) (i8 : i < 8) (e16 : s 16 t = nI r) (r4 : r < 4) (e23 : s 23 (8 * t + i) = nI a) (a12 : a < 12) (on : s 18 t = nI 2 ∨ s 18 t = nI 4) : tlM f t i (nI 1) s J = J (sE s t i (s 13 (12 * r + a))) := by
  unfold tlM
  rw [if_neg (by decide), isOn_t t16 on, b_ob, if_neg (by decide), stepAt_w (s := rx_up s 26 (8 * t + i) (nI 0)) t16 i8 e16 e23, b_ob, b_og (show 12 * r + a < 48 by omega) (by decide)]
  rfl
theorem tlM_x {t i : Nat} {J : rx_S → Option (Int32 × rx_S)} (t16 : t < 16) (h6 : s 18 t = nI 6) : tlM f t i (nI 1) s J = J s := by
  unfold tlM
  rw [if_neg (by decide), isOn_f t16 (by rw [h6]; decide) (by rw [h6]; decide), b_ob, if_pos (show nI 0 = 0 from rfl)]
/-- a token goes on to the next step -/
theorem fin_tok (h : CRep K c s) (hI : Iv K W bd s) {t i : Nat} (ht : t < nt (s 15 0)) (on : On (s 18 t)) (hi : i < nt (s 19 t)) (hk : nt (ka s t i) ≤ 4) (hb : bd / 1099511627776 = 0 ∨ bd / 1099511627776 = 8 * t + i + 1) : CRep K (cG c (kT K t i) (s 13 (12 * nt (s 16 t) + nt (s 23 (8 * t + i))))) (sE s t i (s 13 (12 * nt (s 16 t) + nt (s 23 (8 * t + i))))) ∧ Iv K W (bd % 1099511627776) (sE s t i (s 13 (12 * nt (s 16 t) + nt (s 23 (8 * t + i))))) := by
  have b := hI.ib t ht
  have it := hI.it t ht i hi
  have al := it.1.lt
  have hS := rel_ss hI ht al
  have wg := ((hI.iw _ b.1.lt b.2.1).2.2.2 _ al).1
  have hk4 : zk s (nt (s 16 t)) (nt (s 23 (8 * t + i))) ≤ 4 := hk
  have h8 := hS.2.2.2.2.2.2.2.1 (by omega)
  have ww := wg (by omega) (by omega) _ (Or.inl ⟨by omega, rfl⟩)
  refine ⟨p_at (s := rx_up s 26 (8 * t + i) (nI 0)) (p_unbeg h ht hi) ht hi (by rw [up_s]; decide), ?_⟩
  have := inv_done hI hb ht on hi rfl h8.1.lt ww
  have e := h8.1.eq
  unfold sE
  rw [e]; exact this
/-- where the class is, when a token goes on -/
abbrev gC (f : Nat) (K : kx) (t i : Nat) (c : cx_S) (z : Nat) (kd : Int32) : Option (Int32 × cx_S) := if kd = nI 0 then oc 2 (some 12) c fun p21 => ob (D_F_chargeOn f p21 (some (kB K t)) (some (kT K t i)) (some z) c) fun x22 s23 => tlC f (kB K t) (kT K t i) z s23 else if kd = nI 1 then tlC f (kB K t) (kT K t i) z (cx_ui c 146 (kT K t i) 0 ((cI c 146 (kT K t i) 0) - (nI 1))) else if kd = nI 2 then oc 2 (some 12) c fun p24 => ob (D_F_moveOn f p24 (some (kB K t)) (some (kT K t i)) (some z) c) fun x25 s26 => tlC f (kB K t) (kT K t i) z s26 else if kd = nI 3 then tlC f (kB K t) (kT K t i) z (cx_ui c 146 (kT K t i) 0 ((cI c 146 (kT K t i) 0) - (nI 1))) else tlC f (kB K t) (kT K t i) z c
theorem goOn_at (h : CRep K c s) (hI : Iv K W bd s) {t i : Nat} (ht : t < nt (s 15 0)) (hi : i < nt (s 19 t)) : D_F_goOn f 12 (some (kB K t)) (some (kT K t i)) c = gC f K t i c (kS K (nt (s 16 t)) (nt (s 23 (8 * t + i)))) (ka s t i) := by
  have b := hI.ib t ht
  have r4 := b.1.lt
  have l9 := b.2.2.2.2.1.lt
  have it := hI.it t ht i hi
  have al := it.1.lt
  have ate := it.1.eq
  have m12 := (hI.i7 _ r4).lt
  have hT := h.th t ht i (by omega)
  have hstp := h.sh _ r4 _ al
  obtain ⟨hb1, hb2, hb3, hb4, hb5, hb6, hb7, hb8, hb9, hb10, hb11⟩ := h.bh t ht
  have cE := h.s0 _ r4 _ al
  unfold D_F_goOn
  rw [b_oc hb2, hb3, b_oc (h.fix.hRec _ r4), b_oc hT.2, h.fix.stp _ r4, h.ta t ht i hi, ate, b_oa (h.fix.hStp _ r4) (by omega) (by decide), hstp.1, b_oc hstp.2, b_oj, cE]
  rw [nt_nI (by omega)]
  rfl
end FIN
