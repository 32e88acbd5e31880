/-! start, stop, abort -/
section STA2
variable {f : Nat} {K : kx} {W : Nat → Nat → Nat} {bd : Nat} {c : cx_S} {s : rx_S}
def kE (K : kx) (t : Nat) : kx := (kS K, kB K, kT K, kL K, kP K, kQ K, fun i => if i = kM K then t else kN K i, kM K + 1)
abbrev cE (K : kx) (c : cx_S) (t : Nat) : cx_S := cx_ui (cx_ur (cx_ui c 20 (kB K t) 0 (nI 1)) 404 20 (kM K) (some (kB K t))) 36 12 0 (nI (kM K + 1))
theorem p_enq (h : CRep K c s) {t : Nat} (ht : t < nt (s 15 0)) : CRep (kE K t) (cE K c t) (rx_up s 18 t (nI 1)) :=
  ⟨CFix_ui (CFix_ur (fun q hq z => absurd z ((by decide : ∀ q ∈ fixR, ¬ (q.1 = 404 ∧ q.2.1 = 20)) q hq)) (CFix_ui h.fix)), h.ug, h.uo, h.uh, h.ul, h.ua, h.rr, h.rm, h.rgr, h.sh, h.sg, h.s0, h.s1, h.s2, h.s3, h.s4, h.s5, h.bn, h.bh, h.bg, h.b0, h.b1, h.b3, B1_up h ht h.b4, h.b5, h.bv, h.br, h.bo, h.th, h.tg, h.t8, h.ta, h.tb, h.tl, h.tc, h.ln, h.lh, h.lg, h.lb, h.lt, h.lu, h.lp, h.lq, by show cI (cx_ui _ 36 12 0 _) 36 12 0 = _; rw [ui_s]; rfl, fun i hi => by
    show cR (cx_ur (cx_ui c 20 (kB K t) 0 (nI 1)) 404 20 (kM K) (some (kB K t))) 404 20 i = some (kB K (if i = kM K then t else kN K i))
    have hi : i < kM K + 1 := hi
    rw [cR_ur]
    by_cases e : i = kM K
    · rw [if_pos ⟨rfl, rfl, e⟩, if_pos e]
    · rw [if_neg (fun z => e z.2.2), if_neg e]; exact h.nl i (by omega)⟩
theorem inv_enq (hI : Iv K W bd s) {t p : Nat} (ht : t < nt (s 15 0)) (h0 : s 18 t = nI 0) (hp : s 28 0 = nI p) (hp16 : p ≤ 16) : kM K < 16 ∧ p < 16 ∧ Iv (kE K t) W bd (rx_up (rx_up (rx_up s 18 t (nI 1)) 29 p (nI t)) 28 0 (nI (p + 1))) := by
  obtain ⟨l1, l2, l3, l4, l5, l6⟩ := hI.ln
  have g15 := hI.i15.lt
  have no := (l4 t ht).mp h0
  have k16 : kM K < 16 := by
    have := php_f 16 (kM K + 1) (fun i => if i = kM K then t else kN K i) (fun i hi => by
      show (if i = kM K then t else kN K i) < 16
      by_cases e : i = kM K
      · rw [if_pos e]; omega
      · rw [if_neg e]; have := l2 i (by omega); omega) (fun i hi j hj e => by
      have e : (if i = kM K then t else kN K i) = (if j = kM K then t else kN K j) := e
      by_cases e1 : i = kM K
      · rw [if_pos e1] at e
        by_cases e2 : j = kM K
        · omega
        · rw [if_neg e2] at e; exact absurd e.symm (no j (by omega))
      · rw [if_neg e1] at e
        by_cases e2 : j = kM K
        · rw [if_pos e2] at e; exact absurd e (no i (by omega))
        · rw [if_neg e2] at e; exact l3 i (by omega) j (by omega) e)
    omega
  have ll : (nw K (s 18)).length ≤ kM K := Nat.le_trans (List.length_filter_le _ _) (by rw [List.length_map, List.length_range]; exact Nat.le_refl _)
  have pe : p = (nw K (s 18)).length := by
    rw [hp, nI_eq (by omega) (by omega)] at l5; exact l5
  have en : nw (kE K t) (rx_up s 18 t (nI 1) 18) = nw K (s 18) ++ [t] := by
    show ((List.range (kM K + 1)).map (fun i => if i = kM K then t else kN K i)).filter (fun q => rx_up s 18 t (nI 1) 18 q == nI 1) = _
    rw [List.range_succ, List.map_append, List.filter_append]
    congr 1
    · unfold nw
      have e1 : (List.range (kM K)).map (fun i => if i = kM K then t else kN K i) = (List.range (kM K)).map (kN K) := List.map_congr_left (fun i hi => by
        have := List.mem_range.mp hi
        rw [if_neg (by omega)])
      rw [e1]
      apply List.filter_congr
      intro q hq
      obtain ⟨i, hi, rfl⟩ := List.mem_map.mp hq
      rw [up_o (no i (List.mem_range.mp hi))]
    · simp [up_s]
  refine ⟨k16, by omega, hI.ir, hI.iw, fun t2 h1 h2 => ?_, fun t2 ht2 => ?_, hI.it, hI.iu, hI.iq, hI.il, show kM K + 1 ≤ 16 by omega, fun i hi => ?_, fun i hi j hj e => ?_, fun t2 ht2 => ?_, ?_, fun i hi => ?_⟩
  · have h1 : nt (s 15 0) ≤ t2 := h1
    show rx_up s 18 t (nI 1) 18 t2 = nI 0 ∧ _
    rw [up_o (by omega)]; exact hI.if t2 h1 h2
  · have ht2 : t2 < nt (s 15 0) := ht2
    by_cases e : t2 = t
    · subst e
      obtain ⟨b1, b2, b3, b4, b5, b6, b7, b8, b9, b10⟩ := hI.ib t2 ht2
      have st : rx_up (rx_up (rx_up s 18 t2 (nI 1)) 29 p (nI t2)) 28 0 (nI (p + 1)) 18 t2 = nI 1 := by
        show rx_up s 18 t2 (nI 1) 18 t2 = _
        exact up_s
      unfold IB
      rw [st]
      refine ⟨b1, b2, b3, rg_of (by decide) (by decide), b5, Or.inr (Or.inr (Or.inr ?_)), fun z => absurd z (by decide), b8, b9, b10⟩
      rcases b6 with z | z | z | z
      · rw [h0] at z; exact absurd z (by decide)
      · rw [h0] at z; exact absurd z (by decide)
      · rw [h0] at z; exact absurd z (by decide)
      · exact z
    · have st : rx_up (rx_up (rx_up s 18 t (nI 1)) 29 p (nI t)) 28 0 (nI (p + 1)) 18 t2 = s 18 t2 := by
        show rx_up s 18 t (nI 1) 18 t2 = _
        exact up_o e
      have q := hI.ib t2 ht2
      unfold IB at q ⊢
      rw [st]; exact q
  · show (if i = kM K then t else kN K i) < nt (s 15 0)
    have hi : i < kM K + 1 := hi
    split
    · exact ht
    · exact l2 i (by omega)
  · have hi : i < kM K + 1 := hi
    have hj : j < kM K + 1 := hj
    have e : (if i = kM K then t else kN K i) = if j = kM K then t else kN K j := e
    by_cases e1 : i = kM K
    · rw [if_pos e1] at e
      by_cases e2 : j = kM K
      · omega
      · rw [if_neg e2] at e; exact absurd e.symm (no j (by omega))
    · rw [if_neg e1] at e
      by_cases e2 : j = kM K
      · rw [if_pos e2] at e; exact absurd e (no i (by omega))
      · rw [if_neg e2] at e; exact l3 i (by omega) j (by omega) e
  · have ht2 : t2 < nt (s 15 0) := ht2
    show rx_up s 18 t (nI 1) 18 t2 = nI 0 ↔ ∀ i, i < kM K + 1 → (if i = kM K then t else kN K i) ≠ t2
    by_cases e : t2 = t
    · subst e
      rw [up_s]
      exact ⟨fun z => absurd z (by decide), fun z => absurd (if_pos rfl) (z (kM K) (by omega))⟩
    · rw [up_o e]
      refine (l4 t2 ht2).trans ⟨fun z i hi => ?_, fun z i hi => ?_⟩
      · by_cases e1 : i = kM K
        · rw [if_pos e1]; exact fun w => e w.symm
        · rw [if_neg e1]; exact z i (by omega)
      · have := z i (by omega)
        rw [if_neg (by omega)] at this; exact this
  · show rx_up (rx_up (rx_up s 18 t (nI 1)) 29 p (nI t)) 28 0 (nI (p + 1)) 28 0 = nI (nw (kE K t) (rx_up s 18 t (nI 1) 18)).length
    rw [up_s, en, List.length_append, pe]; rfl
  · show rx_up s 29 p (nI t) 29 i = nI ((nw (kE K t) (rx_up s 18 t (nI 1) 18)).getD i 0)
    have hi : i < (nw (kE K t) (rx_up s 18 t (nI 1) 18)).length := hi
    rw [en, List.length_append] at hi
    rw [en]
    by_cases e : i = p
    · rw [e, up_s, pe, getD_app2]
    · have : i < (nw K (s 18)).length := by simp at hi; omega
      rw [up_o e, getD_app1 this]; exact l6 i this
theorem Gr_sv {K2 : kx} {c1 c2 : cx_S} {s1 s2 : rx_S} (h : Sv K W bd c1 s1 K2 c2 s2) (hN : cN c1 = cN c) (hZ : cZ c1 = cZ c) (h31 : s1 31 0 = s 31 0) : Gr c s c2 s2 := by
  obtain ⟨g1, g2, g3⟩ := h.2.2.2.1
  rw [h31] at g1 g2 g3
  exact ⟨g1, by omega, by omega⟩
theorem b_start (h : St K W bd c s) (hf : 2 ^ 31 ≤ f) (hbd : bd < 2 ^ 31) (h30 : s 30 0 = nI 0) (x : Int32) : SimX K W bd bd c s (D_H_start f 2 x c) (D_M_start f x s) := by
  obtain ⟨h, hI⟩ := h
  unfold D_H_start D_M_start
  rcases t_cases hI x with ⟨t, ht, t16, rfl⟩ | ht
  · have hb := h.bh t ht
    simp only [b_oc h.fix.h2, find_t h hI ht, b_isB_t hI.i15 ht, b_ob, b_ot, b_oj, b_10, if_false, b_oc hb.2.1, h.b4 t ht, b_og t16 (show 16 < 2 ^ 31 by decide)]
    by_cases q : s 18 t = 0
    · have p28 := hI.ln.2.2.2.2.1
      have l16 := (nw_len hI.ln).1
      obtain ⟨k16, p16, hI1⟩ := inv_enq (s := R0 s) hI ht q p28 l16
      generalize hp : (nw K (s 18)).length = p at *
      have h1 : CRep (kE K t) (cE K c t) (rx_up (rx_up (rx_up (R0 s) 18 t (nI 1)) 29 p (nI t)) 28 0 (nI (p + 1))) := CRep_s (p_enq (s := R0 s) h ht) (fun k hk => by funext j; rw [up_k (by omega), up_k (by omega)])
      obtain ⟨K2, c2, s2, w1, w2, w3, w4⟩ := serve_all (f := f) h1 hI1 hf hbd
      have enq : D_F_enqueue f 12 (some (kB K t)) c = some (0, cE K c t) := by
        unfold D_F_enqueue
        rw [b_oc h.fix.h12, b_oj, h.nn, if_neg (nI_ge k16 (by decide)), b_oc hb.2.1, show cR (cx_ui c 20 (kB K t) 0 (nI 1)) 35 12 0 = some 20 from h.fix.f35, show cI (cx_ui c 20 (kB K t) 0 (nI 1)) 36 12 0 = nI (kM K) from h.nn, b_oa h.fix.h20 k16 (by decide), show cI (cx_ur (cx_ui c 20 (kB K t) 0 (nI 1)) 404 20 (kM K) (some (kB K t))) 36 12 0 = nI (kM K) from h.nn, nI_add]
      have a15 : s2 15 = s 15 := w3.2.2.2.2.2
      have ht2 : t < nt (s2 15 0) := by rw [a15]; exact ht
      have kb2 : kB K2 t = kB K t := by rw [w3.2.2.1.2.1]; rfl
      have hb2 := (w3.1.bh t ht2).2.1
      have e20 := w3.1.b4 t ht2
      rw [kb2] at hb2 e20
      have r28 : R0 s 28 0 = nI p := p28
      simp only [if_pos q, goes_11, b_ob, b_10, if_false, h.fix.f4, b_oc h.fix.h12, enq, b_oc h1.fix.h2, h1.fix.f4, b_oc h1.fix.h12, w1, b_oc hb2, e20, b_og t16 (show 16 < 2 ^ 31 by decide)]
      rw [show rx_up (R0 s) 18 t (nI 1) 28 0 = nI p from r28, b_og p16 (by decide), show rx_up (rx_up (R0 s) 18 t (nI 1)) 29 p (nI t) 28 0 = nI p from r28, nI_add, w2, b_ob]
      exact ⟨K2, W, c2, s2, ⟨w3.1, w3.2.1⟩, by rw [w4, h30], Gr_sv w3 rfl rfl rfl, Or.inl ⟨_, rfl, rfl, w3.2.2.2.2.1⟩⟩
    · simp only [if_neg q, goes_10, b_ob, b_00, if_true, b_on h.fix.n]
      exact simx_13 ⟨h, hI⟩ rfl rfl
  · simp only [b_oc h.fix.h2, find_f h hI ht, b_isB_f hI.i15 ht, b_ob, b_otx, b_oj, b_00, if_true, goes_0]
    exact simx_12 ⟨h, hI⟩ rfl rfl
theorem b_stop (h : St K W bd c s) (hf : 2 ^ 31 ≤ f) (hbd : bd < 2 ^ 31) (h30 : s 30 0 = nI 0) (x : Int32) : SimX K W bd bd c s (D_H_stop f 2 x c) (D_M_stop f x s) := by
  obtain ⟨h, hI⟩ := h
  unfold D_H_stop D_M_stop
  rcases t_cases hI x with ⟨t, ht, t16, rfl⟩ | ht
  · have hb := h.bh t ht
    simp only [b_oc h.fix.h2, find_t h hI ht, b_isB_t hI.i15 ht, b_ob, b_ot, b_oj, b_10, if_false, b_oc hb.2.1, h.b4 t ht, b_og t16 (show 16 < 2 ^ 31 by decide)]
    have main : On (s 18 t) → SimX K W bd bd c s (ob (D_B_countBegun f (kB K t) (cx_ui c 20 (kB K t) 0 (nI 4))) fun x7 s8 => if x7 = 0 then oc 0 (some 2) s8 fun p12 => oc 2 (cR s8 4 p12 0) s8 fun p13 => ob (D_F_finish f p13 (some (kB K t)) (nI 5) s8) fun x14 s15 => oc 0 (some 2) s15 fun p16 => oc 2 (cR s15 4 p16 0) s15 fun p17 => ob (D_F_serveWaiting f p17 s15) fun x18 s19 => oc 1 (some (kB K t)) s19 fun p11 => some (Sum.inr (cI s19 20 p11 0), s19) else oc 1 (some (kB K t)) s8 fun p11 => some (Sum.inr (cI s8 20 p11 0), s8)) (ob (D_M_running f (nI t) (rx_up (R0 s) 18 t (nI 4))) fun x10 s11 => if x10 = 0 then ob (D_M_close f (nI t) (nI 5) s11) fun x14 s15 => ob (D_M_claim f s15) fun x16 s17 => some (s17 18 t, s17) else some (s11 18 t, s11)) := by
      intro q
      have h1 : CRep K (cx_ui c 20 (kB K t) 0 (nI 4)) (rx_up (R0 s) 18 t (nI 4)) := p_state (s := R0 s) h ht
      have hI1 : Iv K W bd (rx_up (R0 s) 18 t (nI 4)) := inv_state (s := R0 s) hI ht q (Or.inr (Or.inr rfl))
      have n9 := (hI.ib t ht).2.2.2.2.1
      rw [b_cntC h1 hf ht n9, b_ob, b_cntM (s := rx_up (R0 s) 18 t (nI 4)) hf t16 n9, b_ob]
      by_cases z : nI (rn (rx_up (R0 s) 18 t (nI 4) 26) (8 * t) (nt (rx_up (R0 s) 18 t (nI 4) 19 t))) = 0
      · obtain ⟨c2, s2, w1, w2, w3, w4, w5, w6, w7, w8, w9, w10, w11, w12⟩ := close_both (f := f) h1 hI1 hf ht (show rx_up (R0 s) 18 t (nI 4) 18 t ≠ nI 0 by rw [up_s]; decide) (how := 5) (by decide)
        obtain ⟨K3, c3, s3, v1, v2, v3, v4⟩ := serve_all (f := f) w3 w4 hf hbd
        have a15 : s3 15 = s 15 := by rw [v3.2.2.2.2.2, w12.1 15 (by decide)]; rfl
        have ht2 : t < nt (s3 15 0) := by rw [a15]; exact ht
        have kb2 : kB K3 t = kB K t := by rw [v3.2.2.1.2.1]
        have hb2 := (v3.1.bh t ht2).2.1
        have e20 := v3.1.b4 t ht2
        rw [kb2] at hb2 e20
        rw [if_pos z, if_pos z, b_oc h1.fix.h2, h1.fix.f4, b_oc h1.fix.h12, w1, b_ob, b_oc w3.fix.h2, w3.fix.f4, b_oc w3.fix.h12, v1, b_ob, b_oc hb2, e20, w2, b_ob, v2, b_ob]
        exact ⟨K3, W, c3, s3, ⟨v3.1, v3.2.1⟩, by rw [v4, h30], Gr_sv v3 w5 w6.1 w10, Or.inl ⟨_, rfl, rfl, by rw [v3.2.2.2.2.1, w11]; rfl⟩⟩
      · rw [if_neg z, if_neg z, b_oc (show cH (cx_ui c 20 (kB K t) 0 (nI 4)) (kB K t) = some (1, 0) from hb.2.1), ui_s, up_s]
        exact ⟨K, W, _, _, ⟨h1, hI1⟩, rfl, ⟨Nat.le_refl _, by show cN c ≤ _; omega, by show cZ c ≤ _; omega⟩, Or.inl ⟨_, rfl, rfl, rfl⟩⟩
    by_cases q : s 18 t = nI 2
    · simp only [if_pos q, goes_11, b_ob, b_10, if_false, b_og t16 (show 16 < 2 ^ 31 by decide)]
      exact main (Or.inl q)
    · by_cases q2 : s 18 t = nI 3
      · simp only [if_neg q, if_pos q2, goes_11, b_ob, b_10, if_false, b_og t16 (show 16 < 2 ^ 31 by decide)]
        exact main (Or.inr (Or.inl q2))
      · simp only [if_neg q, if_neg q2, goes_10, b_ob, b_00, if_true, b_on h.fix.n]
        exact simx_13 ⟨h, hI⟩ rfl rfl
  · simp only [b_oc h.fix.h2, find_f h hI ht, b_isB_f hI.i15 ht, b_ob, b_otx, b_oj, b_00, if_true, goes_0]
    exact simx_12 ⟨h, hI⟩ rfl rfl
theorem b_abort (h : St K W bd c s) (hf : 2 ^ 31 ≤ f) (hbd : bd < 2 ^ 31) (h30 : s 30 0 = nI 0) (x : Int32) : SimX K W bd bd c s (D_H_abort f 2 x c) (D_M_abort f x s) := by
  obtain ⟨h, hI⟩ := h
  unfold D_H_abort D_M_abort
  rcases t_cases hI x with ⟨t, ht, t16, rfl⟩ | ht
  · have hb := h.bh t ht
    have st8 := (hI.ib t ht).2.2.2.1
    have sl := st8.lt
    have se := st8.eq
    simp only [b_oc h.fix.h2, find_t h hI ht, b_isB_t hI.i15 ht, b_ob, b_ot, b_oj, b_10, if_false, b_oc hb.2.1, h.b4 t ht, b_og t16 (show 16 < 2 ^ 31 by decide), b_over h hI ht]
    have inE : D_M_in f (s 18 t) (nI 1) (nI 4) s = some (if 1 ≤ nt (s 18 t) ∧ nt (s 18 t) ≤ 4 then nI 1 else nI 0, s) := by
      unfold D_M_in
      have cs : nt (s 18 t) = 0 ∨ nt (s 18 t) = 1 ∨ nt (s 18 t) = 2 ∨ nt (s 18 t) = 3 ∨ nt (s 18 t) = 4 ∨ nt (s 18 t) = 5 ∨ nt (s 18 t) = 6 ∨ nt (s 18 t) = 7 := by omega
      rcases cs with e | e | e | e | e | e | e | e <;> rw [e] at se <;> rw [e, se] <;> rfl
    rw [inE, b_ob]
    by_cases q : 1 ≤ nt (s 18 t) ∧ nt (s 18 t) ≤ 4
    · have n0 : ¬ s 18 t = 0 := fun z => by have := congrArg nt z; rw [show nt (0 : Int32) = 0 from by decide] at this; omega
      obtain ⟨c2, s2, w1, w2, w3, w4, w5, w6, w7, w8, w9, w10, w11, w12⟩ := close_both (f := f) (s := R0 s) h hI hf ht n0 (how := 6) (by decide)
      obtain ⟨K3, c3, s3, v1, v2, v3, v4⟩ := serve_all (f := f) w3 w4 hf hbd
      simp only [if_pos q, if_neg n0, if_pos q.2, b_10, b_00, if_false, if_true, goes_11, b_ob, h.fix.f4, b_oc h.fix.h2, b_oc h.fix.h12, w1, b_oc w3.fix.h2, w3.fix.f4, b_oc w3.fix.h12, v1, w2, v2]
      exact ⟨K3, W, c3, s3, ⟨v3.1, v3.2.1⟩, by rw [v4, h30], Gr_sv v3 w5 w6.1 w10, Or.inl ⟨_, rfl, rfl, by rw [v3.2.2.2.2.1, w11]; rfl⟩⟩
    · by_cases n0 : s 18 t = 0
      · simp only [if_neg q, if_pos n0, b_00, if_true, goes_10, b_ob, b_on h.fix.n]
        exact simx_13 ⟨h, hI⟩ rfl rfl
      · have n1 : ¬ nt (s 18 t) ≤ 4 := fun z => by
          have : nt (s 18 t) ≠ 0 := fun w => n0 (by rw [se, w]; rfl)
          omega
        simp only [if_neg q, if_neg n0, if_neg n1, b_00, b_10, if_true, if_false, goes_10, b_ob, b_on h.fix.n]
        exact simx_13 ⟨h, hI⟩ rfl rfl
  · simp only [b_oc h.fix.h2, find_f h hI ht, b_isB_f hI.i15 ht, b_ob, b_otx, b_oj, b_00, if_true, goes_0]
    exact simx_12 ⟨h, hI⟩ rfl rfl
end STA2
