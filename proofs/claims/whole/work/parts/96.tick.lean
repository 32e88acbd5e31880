/-! a tick, both sides -/
section TIC
variable {f : Nat} {K : kx} {W : Nat → Nat → Nat} {bd bd2 : Nat} {c : cx_S} {s : rx_S}
theorem Tk.sv {K2 : kx} {c2 : cx_S} {s2 : rx_S} {t : Nat} (h : Tk K W bd t c s K2 c2 s2) : Sv K W bd c s K2 c2 s2 := ⟨h.1, h.2.1, h.2.2.1, h.2.2.2.2.1, h.2.2.2.2.2.1, h.2.2.2.2.2.2.1⟩
theorem Sv.go {bd1 : Nat} {K1 K2 : kx} {c1 c2 : cx_S} {s1 s2 : rx_S} (h : Sv K W bd1 c s K1 c1 s1) (g : Sv K1 W bd c1 s1 K2 c2 s2) : Sv K W bd c s K2 c2 s2 := by
  obtain ⟨a1, a2, a3, a4, a5, a6⟩ := h
  obtain ⟨b1, b2, b3, b4, b5, b6⟩ := g
  exact ⟨b1, b2, a3.tr b3, ⟨by omega, by omega, by omega⟩, by rw [b5, a5], by rw [b6, a6]⟩
/-- what a batch's tokens leave after their work -/
def Al (t : Nat) (s s2 : rx_S) : Prop := (s2 18 t = s 18 t ∧ s2 19 t = s 19 t ∧ s2 30 0 = s 30 0) ∨ (s2 18 t = nI 6 ∧ s2 19 t = nI 0 ∧ s2 30 0 = nI 1)
theorem adv_loop (hf : 2 ^ 31 ≤ f) {t : Nat} {k39 : cx_S → Option (Int32 × cx_S)} {k83 : rx_S → Option (Int32 × rx_S)} : ∀ d i n1 n2 bd K c s, i + d = 8 → d < n1 → d < n2 → CRep K c s → Iv K W bd s → bd + d * 1010 < 2 ^ 27 → t < nt (s 15 0) → (s 18 t = nI 2 ∨ s 18 t = nI 4) →
    ∃ K2 c2 s2, D_F_advance_2 f 12 (some (kB K t)) k39 n1 (nI i) c = k39 c2 ∧ D_M_goOn_2 f (nI t) k83 n2 (nI i) s = k83 s2 ∧ Sv K W (bd + d * 1010) c s K2 c2 s2 ∧ Al t s s2 := by
  intro d
  induction d with
  | zero =>
    intro i n1 n2 bd K c s hi hn1 hn2 h hI hbd ht on
    obtain ⟨n1, rfl⟩ : ∃ k', n1 = k' + 1 := ⟨n1 - 1, by omega⟩
    obtain ⟨n2, rfl⟩ : ∃ k', n2 = k' + 1 := ⟨n2 - 1, by omega⟩
    have l9 := (hI.ib t ht).2.2.2.2.1
    have l9l := l9.lt
    have le : s 19 t ≤ nI i := by rw [l9.eq]; exact nI_le (by omega) (by omega)
    refine ⟨K, c, s, ?_, ?_, ⟨h, Iv_up hI (by omega) (by omega), KS.rfl, ⟨Nat.le_refl _, by omega, by omega⟩, rfl, rfl⟩, Or.inl ⟨rfl, rfl, rfl⟩⟩
    · rw [D_F_advance_2, b_oc (h.bh t ht).2.1, h.b5 t ht, if_pos le]
    · rw [D_M_goOn_2, b_og (hI.t16 ht) (by decide), if_pos le]
  | succ d ih =>
    intro i n1 n2 bd K c s hi hn1 hn2 h hI hbd ht on
    have hbd1 : bd + 1010 < 2 ^ 27 := Nat.lt_of_le_of_lt (by omega) hbd
    have hbd2 : bd + d * 1010 < 2 ^ 27 := Nat.lt_of_le_of_lt (Nat.add_le_add_left (Nat.mul_le_mul_right _ (Nat.le_succ _)) _) hbd
    have hbd3 : bd + 1010 + d * 1010 = bd + (d + 1) * 1010 := by rw [Nat.succ_mul]; omega
    have hbd4 : bd + 1010 + d * 1010 < 2 ^ 27 := by rw [hbd3]; exact hbd
    have hbd6 : bd + (d + 1) * 1010 < 1099511627776 := Nat.lt_trans hbd (by decide)
    have hbd7 : bd ≤ bd + (d + 1) * 1010 := Nat.le_add_right _ _
    have hbd8 : bd + 1010 ≤ bd + (d + 1) * 1010 := by rw [← hbd3]; exact Nat.le_add_right _ _
    have hbd5 : bd + d * 1010 ≤ bd + (d + 1) * 1010 := Nat.add_le_add_left (Nat.mul_le_mul_right _ (Nat.le_succ _)) _
    obtain ⟨n1, rfl⟩ : ∃ k', n1 = k' + 1 := ⟨n1 - 1, by omega⟩
    obtain ⟨n2, rfl⟩ : ∃ k', n2 = k' + 1 := ⟨n2 - 1, by omega⟩
    have l9 := (hI.ib t ht).2.2.2.2.1
    have l9l := l9.lt
    have t16 := hI.t16 ht
    obtain ⟨hb1, hb2, hb3, hb4, hb5, hb6, hb7, hb8, hb9, hb10, hb11⟩ := h.bh t ht
    by_cases z : nt (s 19 t) ≤ i
    · have le : s 19 t ≤ nI i := by rw [l9.eq]; exact nI_le z (by omega)
      refine ⟨K, c, s, ?_, ?_, ⟨h, Iv_up hI hbd7 hbd6, KS.rfl, ⟨Nat.le_refl _, by omega, by omega⟩, rfl, rfl⟩, Or.inl ⟨rfl, rfl, rfl⟩⟩
      · rw [D_F_advance_2, b_oc hb2, h.b5 t ht, if_pos le]
      · rw [D_M_goOn_2, b_og t16 (by decide), if_pos le]
    · have him : i < nt (s 19 t) := by omega
      have nle : ¬ s 19 t ≤ nI i := by rw [l9.eq]; exact nI_ge him (by omega)
      have hT := h.th t ht i (by omega)
      have tb := h.tb t ht i him
      have it := hI.it t ht i him
      have b26 := it.2.1
      have b26l := b26.lt
      rw [D_F_advance_2, b_oc hb2, h.b5 t ht, if_neg nle, hb4, b_oa hb8 (by omega) (by decide), hT.1, b_oc hT.2, b_oj, tb, nI_add]
      rw [D_M_goOn_2, b_og t16 (by decide), if_neg nle, isOn_t t16 on, b_ob, if_neg (show ¬ nI 1 = 0 by decide), pk_mul, nI_add, b_og (show 8 * t + i < 128 by omega) (by decide), b_oj, nI_add]
      by_cases y : s 26 (8 * t + i) = 0
      · rw [if_pos y, if_pos y]
        obtain ⟨K2, c2, s2, w1, w2, w3, w4⟩ := ih (i + 1) n1 n2 bd K c s (by omega) (by omega) (by omega) h hI hbd2 ht on
        exact ⟨K2, c2, s2, w1, w2, ⟨w3.1, Iv_up w3.2.1 hbd5 hbd6, w3.2.2⟩, w4⟩
      · have y1 : s 26 (8 * t + i) = nI 1 := by
          have e := b26.eq
          have cs : nt (s 26 (8 * t + i)) = 0 ∨ nt (s 26 (8 * t + i)) = 1 := by omega
          rcases cs with q | q <;> rw [q] at e
          · exact absurd e y
          · exact e
        obtain ⟨K1, c1, s1, v1, v2, v3⟩ := go_tok (f := f) h hI hf hbd1 ht on him y1
        rw [if_neg y, if_neg y, b_oc h.fix.h12, v1, b_ob]
        have v2 := v2 (fun s6 => D_M_goOn_2 f (nI t) k83 n2 (nI (i + 1)) s6)
        unfold tlM at v2
        rw [v2]
        have ks := v3.2.2.1
        have sv := v3.sv
        have h1 := v3.1
        have hI1 := v3.2.1
        have f15 := v3.2.2.2.2.2.2.1
        have ht1 : t < nt (s1 15 0) := by rw [f15]; exact ht
        rcases v3.2.2.2.2.2.2.2 with ⟨q18, q19, q30⟩ | ⟨q18, q19, q30⟩
        · obtain ⟨K2, c2, s2, w1, w2, w3, w4⟩ := ih (i + 1) n1 n2 (bd + 1010) K1 c1 s1 (by omega) (by omega) (by omega) h1 hI1 hbd4 ht1 (by rw [q18]; exact on)
          rw [ks.2.1] at w1
          refine ⟨K2, c2, s2, w1, w2, ?_, ?_⟩
          · have := sv.go w3
            rw [hbd3] at this
            exact this
          · unfold Al at w4 ⊢
            rw [q18, q19, q30] at w4; exact w4
        · obtain ⟨n1, rfl⟩ : ∃ k', n1 = k' + 1 := ⟨n1 - 1, by omega⟩
          obtain ⟨n2, rfl⟩ : ∃ k', n2 = k' + 1 := ⟨n2 - 1, by omega⟩
          have le : s1 19 t ≤ nI (i + 1) := by rw [q19]; exact nI_le (by omega) (by omega)
          have e21 := h1.b5 t ht1
          have eH := (h1.bh t ht1).2.1
          rw [ks.2.1] at e21 eH
          refine ⟨K1, c1, s1, ?_, ?_, ⟨h1, Iv_up hI1 hbd8 hbd6, sv.2.2⟩, Or.inr ⟨q18, q19, q30⟩⟩
          · show D_F_advance_2 f 12 (some (kB K t)) k39 (n1 + 1) (nI (i + 1)) c1 = _
            rw [D_F_advance_2, b_oc eH, e21, if_pos le]
          · rw [D_M_goOn_2, b_og t16 (by decide), if_pos le]
/-- what a batch's tick leaves -/
def Ae (t : Nat) (s s2 : rx_S) : Prop := ((s2 18 t = nI 2 ∨ s2 18 t = nI 4) ∧ s2 30 0 = s 30 0) ∨ ((s2 18 t = nI 5 ∨ s2 18 t = nI 6 ∨ s2 18 t = nI 7) ∧ s2 30 0 = nI 1)
theorem adv_both (h : CRep K c s) (hI : Iv K W bd s) (hf : 2 ^ 31 ≤ f) (hbd : bd + 8080 < 2 ^ 27) {t : Nat} (ht : t < nt (s 15 0)) (on : s 18 t = nI 2 ∨ s 18 t = nI 4) :
    ∃ K2 c2 s2, D_F_advance f 12 (some (kB K t)) c = some (0, c2) ∧ D_M_goOn f (nI t) s = some (0, s2) ∧ Sv K W (bd + 8080) c s K2 c2 s2 ∧ Ae t s s2 := by
  obtain ⟨K1, c1, s1, w1, w2, w3, w4⟩ := adv_loop (W := W) (t := t) hf (k39 := (fun  (s10 : cx_S) => oc 1 (some (kB K t)) s10 fun p11 => oj (fun (s13 : cx_S) => some (0, s13)) fun J12 => oj (fun (s15 : cx_S) => oc 1 (some (kB K t)) s15 fun p16 => if (cI s15 20 p16 0) = (nI 2) then oc 2 (some 12) s15 fun p17 => ob (D_F_moveTokens f p17 (some (kB K t)) s15) fun x18 s19 => J12 s19 else J12 s15) fun J14 => if (cI s10 20 p11 0) = (nI 4) then ob (D_B_countBegun f p11 s10) fun x20 s21 => if x20 = 0 then oc 2 (some 12) s21 fun p22 => ob (D_F_finish f p22 (some (kB K t)) (nI 5) s21) fun x23 s24 => J12 s24 else J14 s21 else J14 s10)) (k83 := (fun  (s14 : rx_S) => og 16 (nI t) fun j15 => oj (fun (s17 : rx_S) => some (0, s17)) fun J16 => oj (fun (s19 : rx_S) => if (s19 18 j15) = (nI 2) then ob (D_M_move f (nI t) s19) fun x20 s21 => J16 s21 else J16 s19) fun J18 => if (s14 18 j15) = (nI 4) then ob (D_M_running f (nI t) s14) fun x22 s23 => if x22 = 0 then ob (D_M_close f (nI t) (nI 5) s23) fun x24 s25 => J16 s25 else J18 s23 else J18 s14)) 8 0 f f bd K c s rfl (by omega) (by omega) h hI (by omega) ht on
  unfold D_F_advance D_M_goOn
  rw [w1, w2]
  have h1 := w3.1
  have hI1 := w3.2.1
  have ks := w3.2.2.1
  have f15 := w3.2.2.2.2.2
  have ht1 : t < nt (s1 15 0) := by rw [f15]; exact ht
  have t16 := hI.t16 ht
  have e20 := h1.b4 t ht1
  have eH := (h1.bh t ht1).2.1
  rw [ks.2.1] at e20 eH
  rw [b_oc eH, b_og t16 (by decide)]
  simp only [b_oj, e20]
  rcases w4 with ⟨q18, q19, q30⟩ | ⟨q18, q19, q30⟩
  · rcases on with on | on
    · have e2 : s1 18 t = nI 2 := by rw [q18, on]
      rw [e2, if_neg (by decide), if_neg (by decide), b_oc eH, if_pos rfl, b_oc h1.fix.h12, if_pos (by rw [e20]; exact e2)]
      obtain ⟨K2, c2, s2, v1, v2, v3, v4⟩ := move_all (f := f) h1 hI1 hf (by omega) ht1 e2
      rw [ks.2.1] at v1
      rw [v1, b_ob, v2, b_ob]
      refine ⟨K2, c2, s2, rfl, rfl, ?_, ?_⟩
      · refine w3.go ⟨v3.1, v3.2.1, v3.2.2.1, ⟨v3.2.2.2.1.1, v3.2.2.2.1.2.1, v3.2.2.2.1.2.2.1⟩, v3.2.2.2.2.2, v3.2.2.2.2.1.1 15 (by decide)⟩
      · rcases v4 with ⟨a1, a2⟩ | ⟨a1, a2, a3⟩
        · exact Or.inl ⟨Or.inl (by rw [a1, e2]), by rw [a2, q30]⟩
        · exact Or.inr ⟨Or.inr a1, a3⟩
    · have e2 : s1 18 t = nI 4 := by rw [q18, on]
      have l9 := (hI1.ib t ht1).2.2.2.2.1
      have cc := b_cntC (f := f) h1 hf ht1 l9
      have cm := b_cntM (f := f) (s := s1) hf t16 l9
      rw [ks.2.1] at cc
      rw [e2, if_pos rfl, if_pos rfl, cc, b_ob, cm, b_ob]
      by_cases z : nI (rn (s1 26) (8 * t) (nt (s1 19 t))) = 0
      · rw [if_pos z, if_pos z, b_oc h1.fix.h12]
        obtain ⟨c2, s2, v1, v2, v3, v4, v5, v6, v7, v8, v9, v10, v11, v12⟩ := close_both (f := f) h1 hI1 hf ht1 (by rw [e2]; decide) (how := 5) (by decide)
        rw [ks.2.1] at v1
        rw [v1, b_ob, v2, b_ob]
        refine ⟨K1, c2, s2, rfl, rfl, w3.go ⟨v3, v4, KS.rfl, ⟨by rw [v10]; exact Nat.le_refl _, by omega, by have := v6.1; omega⟩, v11, v12.1 15 (by decide)⟩, Or.inr ⟨Or.inl v7, v9⟩⟩
      · rw [if_neg z, if_neg z, b_oc eH, e20, e2, if_neg (by decide), if_neg (by decide)]
        exact ⟨K1, c1, s1, rfl, rfl, w3, Or.inl ⟨Or.inr e2, q30⟩⟩
  · rw [q18, if_neg (by decide), if_neg (by decide), b_oc eH, e20, q18, if_neg (by decide), if_neg (by decide)]
    exact ⟨K1, c1, s1, rfl, rfl, w3, Or.inr ⟨Or.inr (Or.inl q18), q30⟩⟩
end TIC
