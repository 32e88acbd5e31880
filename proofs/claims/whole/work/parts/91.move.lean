/-! a batch's tokens move, both sides -/
section MOV
variable {f : Nat} {K : kx} {W : Nat → Nat → Nat} {bd : Nat} {c : cx_S} {s : rx_S}
theorem turn_beg (h : CRep K c s) (hI : Iv K W bd s) (hf : 0 < f) {t i : Nat} (ht : t < nt (s 15 0)) (hi : i < nt (s 19 t)) (hb : ¬ s 26 (8 * t + i) = 0) : D_F_takeTurn f 12 (some (kB K t)) (some (kT K t i)) c = some (0, c) := by
  obtain ⟨kk, hb1⟩ := begun_k hI ht hi hb
  obtain ⟨_, hb2, hb3, _⟩ := h.bh t ht
  have b := hI.ib t ht
  have r4 := b.1.lt
  have l9 := b.2.2.2.2.1.lt
  have it := hI.it t ht i hi
  have al := it.1.lt
  have ate := it.1.eq
  have m12 := (hI.i7 _ r4).lt
  have hT := h.th t ht i (by omega)
  have hstp := h.sh _ r4 _ al
  have k10 := (hI.i9 _ r4 _ al).eq
  have cE := h.s0 _ r4 _ al
  have ne : ∀ x, 5 ≤ x → x < 10 → ¬ s 9 (12 * nt (s 16 t) + nt (s 23 (8 * t + i))) = nI x := fun x hx hx2 z => by
    have := congrArg nt z
    rw [nt_nI (by omega)] at this
    have kk2 : nt (s 9 (12 * nt (s 16 t) + nt (s 23 (8 * t + i)))) ≤ 4 := kk
    omega
  obtain ⟨n, rfl⟩ : ∃ k', f = k' + 1 := ⟨f - 1, by omega⟩
  rw [D_F_takeTurn, D_F_takeTurn_2, if_neg (by decide), b_oc hb2, hb3, b_oc (h.fix.hRec _ r4), b_oc hT.2, h.fix.stp _ r4, h.ta t ht i hi, ate, b_oa (h.fix.hStp _ r4) (by omega) (by decide), hstp.1, b_oc hstp.2, b_oj, cE, if_neg (ne 5 (by omega) (by omega)), if_neg (ne 6 (by omega) (by omega)), if_neg (ne 7 (by omega) (by omega)), if_neg (ne 8 (by omega) (by omega)), if_neg (ne 9 (by omega) (by omega)), b_oc hT.2, b_oj, h.tb t ht i hi, if_neg hb]
theorem move_both (hf : 2 ^ 31 ≤ f) (hbd : bd < 2 ^ 31) {t : Nat} : ∀ d K c s i m n1 n2, CRep K c s → Iv K W bd s → t < nt (s 15 0) → s 18 t = nI 2 → i ≤ nt (s 19 t) → Ps W s t + (nt (s 19 t) - i) ≤ d → m + d < 2 ^ 30 → d < n1 → d < n2 →
    ∃ K2 c2 s2, D_F_moveTokens_4 f 12 (some (kB K t)) n1 (nI i) (nI m) c = some (0, c2) ∧ D_M_move_2 f (nI t) n2 (nI i) s = some (0, s2) ∧ Mv K W bd t c s K2 c2 s2 ∧ Aft t s s2 := by
  intro d
  induction d using Nat.strongRecOn with
  | ind d ih =>
    intro K c s i m n1 n2 h hI ht hst hi hP hm hn1 hn2
    obtain ⟨n1, rfl⟩ : ∃ k', n1 = k' + 1 := ⟨n1 - 1, by omega⟩
    obtain ⟨n2, rfl⟩ : ∃ k', n2 = k' + 1 := ⟨n2 - 1, by omega⟩
    have t16 := hI.t16 ht
    have b := hI.ib t ht
    have l9 := b.2.2.2.2.1.lt
    have e19 := b.2.2.2.2.1.eq
    obtain ⟨hb1, hb2, hb3, hb4, hb5, hb6, hb7, hb8, hb9, hb10, hb11⟩ := h.bh t ht
    have e21 : cI c 21 (kB K t) 0 = s 19 t := h.b5 t ht
    rw [D_F_moveTokens_4, b_oc hb2, b_oj, e21, D_M_move_2, b_og t16 (by decide), b_oj]
    by_cases z : i = nt (s 19 t)
    · have le : s 19 t ≤ nI i := by rw [e19, ← z]; exact Int32.le_refl _
      rw [if_pos le, if_pos le]
      exact ⟨K, c, s, rfl, rfl, ⟨h, hI, KS.rfl, Gw.same rfl cq.rfl rfl, Fr.rfl, rfl⟩, Or.inl ⟨rfl, rfl⟩⟩
    · have hi2 : i < nt (s 19 t) := by omega
      have nle : ¬ s 19 t ≤ nI i := by rw [e19]; exact nI_ge hi2 (by omega)
      have hT := h.th t ht i (by omega)
      rw [if_neg nle, if_neg nle, if_neg (nI_ge (by omega) (by omega)), if_pos hst, hb4, b_oa hb8 (by omega) (by decide), b_oc h.fix.h12, hT.1, pk_mul, nI_add, nI_add, b_og (show 8 * t + i < 128 by omega) (by decide), b_oj]
      by_cases q : s 26 (8 * t + i) = 0
      · rw [if_pos q]
        have pm := Ps_max hI ht
        obtain ⟨K2, c2, s2, j, w1, w2, w3, w4⟩ := walk_both (f := f) (W := W) (bd := bd) hf hbd (Ps W s t) K c s i 0 f f h hI ht hst hi2 q (Nat.le_refl _) (by omega) (by omega) (by omega)
        have w1' : D_F_takeTurn f 12 (some (kB K t)) (some (kT K t i)) c = some (0, c2) := w1
        have h2 := w3.1
        have e15 : s2 15 = s 15 := w3.2.2.2.2.1.1 15 (by decide)
        have ht2 : t < nt (s2 15 0) := by rw [e15]; exact ht
        have ek : kB K2 t = kB K t := by rw [w3.2.2.1.2.1]
        have hb2' := (h2.bh t ht2).2.1
        rw [ek] at hb2'
        rw [w1', b_ob, b_oc hb2', D_M_walk, w2, b_ob]
        dsimp only
        rw [nI_add]
        rcases w4 with ⟨x1, x2, x3, x4, x5⟩ | ⟨x1, x2, x3, x4⟩
        · have b9 := (w3.2.1.ib t ht2).2.2.2.2.1
          have l9' := b9.lt
          have pc := place_C (f := f) h2 ht2 b9.eq (by omega) x3 j 0 f (by omega) (by omega)
          rw [ek, x4] at pc
          have pc : D_B_placeOf f (kB K t) (some (kT K t i)) c2 = some (nI j, c2) := pc
          rw [pc, b_ob, nI_add]
          obtain ⟨K3, c3, s3, u1, u2, u3, u4⟩ := ih (d - 1) (by omega) K2 c2 s2 (j + 1) (m + 1) n1 n2 h2 w3.2.1 ht2 x1 (by omega) (by omega) (by omega) (by omega) (by omega)
          rw [ek] at u1
          refine ⟨K3, c3, s3, u1, u2, w3.tr u3, ?_⟩
          rcases u4 with ⟨y1, y2⟩ | y
          · exact Or.inl ⟨by rw [y1, x1, hst], by rw [y2, x2]⟩
          · exact Or.inr y
        · have pc := place_no (f := f) (o := some (kT K t i)) h2 ht2 x2 (by omega)
          rw [ek] at pc
          have f21 := h2.b5 t ht2
          rw [ek, x2] at f21
          obtain ⟨n1, rfl⟩ : ∃ k', n1 = k' + 1 := ⟨n1 - 1, by omega⟩
          obtain ⟨n2, rfl⟩ : ∃ k', n2 = k' + 1 := ⟨n2 - 1, by omega⟩
          refine ⟨K2, c2, s2, ?_, ?_, w3, Or.inr ⟨x1, x2, x3⟩⟩
          · rw [pc, b_ob, show (-1 : Int32) + nI 1 = nI 0 by decide, D_F_moveTokens_4, b_oc hb2', b_oj, f21, if_pos (Int32.le_refl _)]
          · rw [D_M_move_2, b_og t16 (by decide), b_oj, x2, if_pos (nI_le (by omega) (by omega))]
      · rw [if_neg q, turn_beg h hI (by omega) ht hi2 q, b_ob, b_oc hb2, D_B_placeOf, place_C h ht e19 (by omega) hi2 i 0 f (by omega) (by omega), b_ob]
        dsimp only
        rw [nI_add]
        exact ih (d - 1) (by omega) K c s (i + 1) (m + 1) n1 n2 h hI ht hst (by omega) (by omega) (by omega) (by omega) (by omega)
theorem move_all (h : CRep K c s) (hI : Iv K W bd s) (hf : 2 ^ 31 ≤ f) (hbd : bd < 2 ^ 31) {t : Nat} (ht : t < nt (s 15 0)) (hst : s 18 t = nI 2) : ∃ K2 c2 s2, D_F_moveTokens f 12 (some (kB K t)) c = some (0, c2) ∧ D_M_move f (nI t) s = some (0, s2) ∧ Mv K W bd t c s K2 c2 s2 ∧ Aft t s s2 := by
  have pm := Ps_max hI ht
  have l9 := (hI.ib t ht).2.2.2.2.1.lt
  exact move_both (f := f) hf hbd (Ps W s t + nt (s 19 t)) K c s 0 0 f f h hI ht hst (Nat.zero_le _) (by omega) (by omega) (by omega) (by omega)
end MOV
