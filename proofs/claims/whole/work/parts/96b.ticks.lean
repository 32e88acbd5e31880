/-! a tick of all, both sides -/
section TIA
variable {f : Nat} {K : kx} {W : Nat → Nat → Nat} {bd B : Nat} {c : cx_S} {s : rx_S}
theorem tick_loop (hf : 2 ^ 31 ≤ f) (hB : B < 2 ^ 27) {k61 : cx_S → Option (Int32 × cx_S)} {k45 : rx_S → Option (Int32 × rx_S)} : ∀ d i n1 n2 bd K c s, i + d = nt (s 15 0) → d < n1 → d < n2 → CRep K c s → Iv K W bd s → bd + d * 8080 ≤ B → s 30 0 = nI 0 →
    ∃ K2 c2 s2, D_H_tick_2 f 2 k61 n1 (nI i) c = k61 c2 ∧ D_M_tick_7 f k45 n2 (nI i) s = k45 s2 ∧ Sv K W B c s K2 c2 s2 ∧ s2 30 0 = nI 0 := by
  intro d
  induction d with
  | zero =>
    intro i n1 n2 bd K c s hi hn1 hn2 h hI hb h30
    obtain ⟨n1, rfl⟩ : ∃ k', n1 = k' + 1 := ⟨n1 - 1, by omega⟩
    obtain ⟨n2, rfl⟩ : ∃ k', n2 = k' + 1 := ⟨n2 - 1, by omega⟩
    have g := hI.i15
    have gl := g.lt
    have le : s 15 0 ≤ nI i := by rw [g.eq]; exact nI_le (by omega) (by omega)
    refine ⟨K, c, s, ?_, ?_, ⟨h, Iv_up hI (by omega) (by omega), KS.rfl, ⟨Nat.le_refl _, by omega, by omega⟩, rfl, rfl⟩, h30⟩
    · rw [D_H_tick_2, b_oc h.fix.h2, h.bn, if_pos le]
    · rw [D_M_tick_7, if_pos le]
  | succ d ih =>
    intro i n1 n2 bd K c s hi hn1 hn2 h hI hb h30
    have hb3 : bd + 8080 + d * 8080 ≤ B := by
      rw [Nat.succ_mul] at hb
      exact Nat.le_trans (Nat.le_of_eq (by rw [Nat.add_assoc, Nat.add_comm 8080])) hb
    have hb4 : bd + 8080 < 2 ^ 27 := Nat.lt_of_le_of_lt (Nat.le_trans (Nat.le_add_right _ _) hb3) hB
    have hb5 : bd + d * 8080 ≤ B := Nat.le_trans (Nat.add_le_add_left (Nat.mul_le_mul_right _ (Nat.le_succ _)) _) hb
    clear hb
    obtain ⟨n1, rfl⟩ : ∃ k', n1 = k' + 1 := ⟨n1 - 1, by clear hb3 hb5 ih; omega⟩
    obtain ⟨n2, rfl⟩ : ∃ k', n2 = k' + 1 := ⟨n2 - 1, by clear hb3 hb5 ih; omega⟩
    have hn1 : d < n1 := by clear hb3 hb5 ih; omega
    have hn2 : d < n2 := by clear hb3 hb5 ih; omega
    have hi2 : i + 1 + d = nt (s 15 0) := by clear hb3 hb5 ih; omega
    have ht : i < nt (s 15 0) := by clear hb3 hb5 ih; omega
    have g := hI.i15
    have gl := g.lt
    have t16 := hI.t16 ht
    have nle : ¬ s 15 0 ≤ nI i := by rw [g.eq]; exact nI_ge ht (Nat.lt_of_lt_of_le gl (by decide))
    obtain ⟨e1, e2, _⟩ := h.bh i ht
    rw [D_H_tick_2, b_oc h.fix.h2, h.bn, if_neg nle, h.fix.f1, b_oa h.fix.h4 t16 (by decide), e1, b_oc e2, b_oj, b_oj, h.b4 i ht, nI_add]
    rw [D_M_tick_7, if_neg nle, nI_add]
    by_cases on : s 18 i = nI 2 ∨ s 18 i = nI 4
    · obtain ⟨K1, c1, s1, w1, w2, w3, w4⟩ := adv_both (f := f) h hI hf hb4 ht on
      have h1 := w3.1
      have hI1 := w3.2.1
      have ks := w3.2.2.1
      have f15 := w3.2.2.2.2.2
      have ht1 : i < nt (s1 15 0) := by rw [f15]; exact ht
      have eH := (h1.bh i ht1).2.1
      have ov := b_over (f := f) h1 hI1 ht1
      rw [ks.2.1] at eH ov
      have cE : (if s 18 i = nI 2 then oc 2 (cR c 4 2 0) c fun p8 => ob (D_F_advance f p8 (some (kB K i)) c) fun x9 s10 => oc 1 (some (kB K i)) s10 fun p11 => ob (D_B_isOver f p11 s10) fun x12 s13 => if x12 = 0 then D_H_tick_2 f 2 k61 n1 (nI (i + 1)) s13 else oc 0 (some 2) s13 fun p14 => oc 2 (cR s13 4 p14 0) s13 fun p15 => ob (D_F_serveWaiting f p15 s13) fun x16 s17 => D_H_tick_2 f 2 k61 n1 (nI (i + 1)) s17 else if s 18 i = nI 4 then oc 2 (cR c 4 2 0) c fun p8 => ob (D_F_advance f p8 (some (kB K i)) c) fun x9 s10 => oc 1 (some (kB K i)) s10 fun p11 => ob (D_B_isOver f p11 s10) fun x12 s13 => if x12 = 0 then D_H_tick_2 f 2 k61 n1 (nI (i + 1)) s13 else oc 0 (some 2) s13 fun p14 => oc 2 (cR s13 4 p14 0) s13 fun p15 => ob (D_F_serveWaiting f p15 s13) fun x16 s17 => D_H_tick_2 f 2 k61 n1 (nI (i + 1)) s17 else D_H_tick_2 f 2 k61 n1 (nI (i + 1)) c) = if (if nt (s1 18 i) ≤ 4 then nI 0 else nI 1) = 0 then D_H_tick_2 f 2 k61 n1 (nI (i + 1)) c1 else ob (D_F_serveWaiting f 12 c1) fun x16 s17 => D_H_tick_2 f 2 k61 n1 (nI (i + 1)) s17 := by
        rw [h.fix.f4, b_oc h.fix.h12, w1, b_ob, b_oc eH, ov, b_ob, b_oc h1.fix.h2, h1.fix.f4, b_oc h1.fix.h12]
        rcases on with on | on
        · rw [if_pos on]
        · rw [if_neg (by rw [on]; decide), if_pos on]
      refine (fun (q : ∃ K2 c2 s2, (if (if nt (s1 18 i) ≤ 4 then nI 0 else nI 1) = 0 then D_H_tick_2 f 2 k61 n1 (nI (i + 1)) c1 else ob (D_F_serveWaiting f 12 c1) fun x16 s17 => D_H_tick_2 f 2 k61 n1 (nI (i + 1)) s17) = k61 c2 ∧ (if s1 30 0 = 0 then D_M_tick_7 f k45 n2 (nI (i + 1)) s1 else ob (D_M_claim f s1) fun x7 s8 => D_M_tick_7 f k45 n2 (nI (i + 1)) s8) = k45 s2 ∧ Sv K W B c s K2 c2 s2 ∧ s2 30 0 = nI 0) => ?_) ?_
      · obtain ⟨K2, c2, s2, q1, q2, q3⟩ := q
        refine ⟨K2, c2, s2, ?_, ?_, q3⟩
        · exact cE.trans q1
        · rw [isOn_t t16 on, b_ob, b_oj, if_neg (show ¬ nI 1 = 0 by decide), w2, b_ob]
          exact q2
      rcases w4 with ⟨a1, a2⟩ | ⟨a1, a2⟩
      · have n4 : nt (s1 18 i) ≤ 4 := by rcases a1 with a1 | a1 <;> rw [a1] <;> decide
        obtain ⟨K2, c2, s2, y1, y2, y3, y4⟩ := ih (i + 1) n1 n2 (bd + 8080) K1 c1 s1 (by rw [f15]; exact hi2) hn1 hn2 h1 hI1 hb3 (by rw [a2, h30])
        rw [if_pos n4, if_pos (show nI 0 = 0 from rfl), a2, h30, if_pos (show nI 0 = 0 from rfl)]
        exact ⟨K2, c2, s2, y1, y2, w3.go y3, y4⟩
      · have n4 : ¬ nt (s1 18 i) ≤ 4 := by rcases a1 with a1 | a1 | a1 <;> rw [a1] <;> decide
        obtain ⟨K2, c2, s2, v1, v2, v3, v4⟩ := serve_all (f := f) h1 hI1 hf (Nat.lt_trans hb4 (by decide))
        have f152 := v3.2.2.2.2.2
        obtain ⟨K3, c3, s3, y1, y2, y3, y4⟩ := ih (i + 1) n1 n2 (bd + 8080) K2 c2 s2 (by rw [f152, f15]; exact hi2) hn1 hn2 v3.1 v3.2.1 hb3 v4
        rw [if_neg n4, if_neg (show ¬ nI 1 = 0 by decide), a2, if_neg (show ¬ nI 1 = 0 by decide), v1, b_ob, v2, b_ob]
        exact ⟨K3, c3, s3, y1, y2, (w3.go v3).go y3, y4⟩
    · have o2 : s 18 i ≠ nI 2 := fun z => on (Or.inl z)
      have o4 : s 18 i ≠ nI 4 := fun z => on (Or.inr z)
      rw [if_neg o2, if_neg o4, isOn_f t16 o2 o4, b_ob, b_oj, if_pos (show nI 0 = 0 from rfl)]
      dsimp only
      rw [b_oj, h30, if_pos (show nI 0 = 0 from rfl)]
      exact ih (i + 1) n1 n2 bd K c s hi2 hn1 hn2 h hI hb5 h30
theorem busy_both (h : CRep K c s) (hI : Iv K W bd s) : ∀ d i n1 n2 x, i + d = nt (s 15 0) → d < n1 → d < n2 → ∃ y, D_H_countBusy_4 f 2 n1 x (nI i) c = some (y, c) ∧ D_M_tick_49 f n2 x (nI i) s = some (y, s) := by
  have g := hI.i15
  have gl := g.lt
  intro d
  induction d with
  | zero =>
    intro i n1 n2 x hi hn1 hn2
    obtain ⟨n1, rfl⟩ : ∃ k', n1 = k' + 1 := ⟨n1 - 1, by omega⟩
    obtain ⟨n2, rfl⟩ : ∃ k', n2 = k' + 1 := ⟨n2 - 1, by omega⟩
    have le : s 15 0 ≤ nI i := by rw [g.eq]; exact nI_le (by omega) (by omega)
    exact ⟨x, by rw [D_H_countBusy_4, b_oc h.fix.h2, h.bn, if_pos le], by rw [D_M_tick_49, if_pos le]⟩
  | succ d ih =>
    intro i n1 n2 x hi hn1 hn2
    obtain ⟨n1, rfl⟩ : ∃ k', n1 = k' + 1 := ⟨n1 - 1, by omega⟩
    obtain ⟨n2, rfl⟩ : ∃ k', n2 = k' + 1 := ⟨n2 - 1, by omega⟩
    have ht : i < nt (s 15 0) := by omega
    have t16 := hI.t16 ht
    have nle : ¬ s 15 0 ≤ nI i := by rw [g.eq]; exact nI_ge ht (by omega)
    obtain ⟨e1, e2, _⟩ := h.bh i ht
    rw [D_H_countBusy_4, b_oc h.fix.h2, h.bn, if_neg nle, h.fix.f1, b_oa h.fix.h4 t16 (by decide), e1, b_oc e2, b_oj, b_oj, h.b4 i ht, nI_add]
    rw [D_M_tick_49, if_neg nle, nI_add]
    by_cases o2 : s 18 i = nI 2
    · rw [if_pos o2, isOn_t t16 (Or.inl o2), b_ob, b_oj, b_oj, if_neg (show ¬ nI 1 = 0 by decide)]
      exact ih (i + 1) n1 n2 _ (by omega) (by omega) (by omega)
    · by_cases o4 : s 18 i = nI 4
      · rw [if_neg o2, if_neg (show ¬ s 18 i = nI 3 by rw [o4]; decide), if_pos o4, isOn_t t16 (Or.inr o4), b_ob, b_oj, b_oj, if_neg (show ¬ nI 1 = 0 by decide)]
        exact ih (i + 1) n1 n2 _ (by omega) (by omega) (by omega)
      · rw [if_neg o2, if_neg o4, isOn_f t16 o2 o4, b_ob, b_oj, b_oj, if_pos (show nI 0 = 0 from rfl), b_og t16 (by decide)]
        by_cases o3 : s 18 i = nI 3
        · rw [if_pos o3, if_pos o3]
          exact ih (i + 1) n1 n2 _ (by omega) (by omega) (by omega)
        · rw [if_neg o3, if_neg o3]
          exact ih (i + 1) n1 n2 _ (by omega) (by omega) (by omega)
theorem b_tick (h : St K W bd c s) (hf : 2 ^ 31 ≤ f) (hbd : bd + 129280 < 2 ^ 27) (h30 : s 30 0 = nI 0) : Sim K W bd (bd + 129280) c s (D_H_tick f 2 c) (D_M_tick f s) := by
  obtain ⟨h, hI⟩ := h
  have g := hI.i15.lt
  have h0 : CRep K c (rx_up s 0 0 (nI 0)) := h
  have hI0 : Iv K W bd (rx_up s 0 0 (nI 0)) := hI
  obtain ⟨K2, c2, s2, w1, w2, w3, w4⟩ := tick_loop (W := W) (B := bd + 129280) hf hbd (k61 := (fun  (s18 : cx_S) => oc 0 (some 2) s18 fun p19 => ob (D_H_countBusy f p19 s18) fun x20 s21 => some (x20, s21))) (k45 := (fun  (s11 : rx_S) => D_M_tick_49 f f (nI 0) (nI 0) s11)) (nt (s 15 0)) 0 f f bd K c (rx_up s 0 0 (nI 0)) (Nat.zero_add _) (by omega) (by omega) h0 hI0 (by
    have : nt (s 15 0) * 8080 ≤ 16 * 8080 := Nat.mul_le_mul_right _ (by omega)
    exact Nat.add_le_add_left this _) h30
  have g2 := w3.2.1.i15.lt
  obtain ⟨y, z1, z2⟩ := busy_both (f := f) w3.1 w3.2.1 (nt (s2 15 0)) 0 f f (nI 0) (by omega) (by omega) (by omega)
  obtain ⟨g1, g2, g3⟩ := w3.2.2.2.1
  have g1 : nt (s 31 0) ≤ nt (s2 31 0) := g1
  have g2 : cN c2 ≤ cN c + 3 * (nt (s2 31 0) - nt (s 31 0)) := g2
  have g3 : cZ c2 ≤ cZ c + 300 * (nt (s2 31 0) - nt (s 31 0)) := g3
  refine ⟨y, K2, W, c2, s2, ?_, ?_, ⟨w3.1, w3.2.1⟩, by rw [w4, h30], ⟨g1, by omega, by omega⟩⟩
  · unfold D_H_tick
    rw [w1, b_oc w3.1.fix.h2, D_H_countBusy, z1, b_ob]
  · unfold D_M_tick
    rw [w2]; exact z2
end TIA
