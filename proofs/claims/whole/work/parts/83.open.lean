/-! a new lot -/
section OPN
variable {f : Nat} {K : kx} {W : Nat → Nat → Nat} {bd : Nat} {c : cx_S} {s : rx_S}
def kL2 (K : kx) (l p : Nat) : kx := (kS K, kB K, kT K, fun q => if q = l then p else kL K q, fun q => if q = l then 0 else kP K q, fun q => if q = l then 0 else kQ K q, K.2.2.2.2.2.2)
theorem kL2_n {l p : Nat} : kL (kL2 K l p) l = p := if_pos rfl
theorem kL2_o {l p q : Nat} (h : q ≠ l) : kL (kL2 K l p) q = kL K q := if_neg h
theorem kP2_n {l p : Nat} : kP (kL2 K l p) l = 0 := if_pos rfl
theorem kP2_o {l p q : Nat} (h : q ≠ l) : kP (kL2 K l p) q = kP K q := if_neg h
theorem kQ2_n {l p : Nat} : kQ (kL2 K l p) l = 0 := if_pos rfl
theorem kQ2_o {l p q : Nat} (h : q ≠ l) : kQ (kL2 K l p) q = kQ K q := if_neg h
abbrev sO (s : rx_S) (l : Nat) (x y : Int32) : rx_S := rx_up (rx_up (rx_up (rx_up s 33 l x) 34 l y) 31 0 (nI (l + 1))) 35 (l + 1) (s 32 0)
abbrev cO (c : cx_S) (l : Nat) (x y : Int32) : cx_S := cx_ui (cx_ur (cx_ui (cx_ui (cx_ur (cx_ur (cx_mk c (3, 0) 5) 50 (cN c) 0 (some 0)) 51 (cN c) 0 (some 0)) 48 (cN c) 0 x) 49 (cN c) 0 y) 406 15 l (some (cN c))) 64 14 0 (nI (l + 1))
theorem p_open (h : CRep K c s) {l : Nat} {x y : Int32} (h31 : s 31 0 = nI l) (hl : l < 100) (hrl : s 35 l = s 32 0) (hcn : cn (s 36) l (nt (s 32 0)) = 0) : CRep (kL2 K l (cN c)) (cO c l x y) (sO s l x y) := by
  have n96 := h.fix.n
  have h2 : CRep K (cx_ui (cx_ui (cx_ur (cx_ur (cx_mk c (3, 0) 5) 50 (cN c) 0 (some 0)) 51 (cN c) 0 (some 0)) 48 (cN c) 0 x) 49 (cN c) 0 y) s := by
    refine CRep_ext h (fun F p hp _ => ?_) (fun F p hp => ?_) (fun p hp => ?_) (Nat.le_succ _)
    · funext j
      have hne : p ≠ cN c := by omega
      simp only [cI_ui, cI_ur, cI_mk, hne, and_false, false_and, if_false]
    · funext j
      have hne : p ≠ cN c := by omega
      simp only [cR_ui, cR_ur, cR_mk, hne, and_false, false_and, if_false]
    · have hne : p ≠ cN c := by omega
      simp only [cH_ui, cH_ur, cH_mk, hne, if_false]
  have e31 : sO s l x y 31 0 = nI (l + 1) := by show rx_up (rx_up (rx_up s 33 l x) 34 l y) 31 0 (nI (l + 1)) 31 0 = _; exact up_s
  have cs : ∀ q, q < nt (sO s l x y 31 0) → q = l ∨ (q ≠ l ∧ q < nt (s 31 0)) := by
    intro q hq
    rw [e31, nt_nI (by omega)] at hq
    rw [h31, nt_nI (by omega)]
    omega
  have plo : ∀ q, q < nt (s 31 0) → pl (sO s l x y 35) q = pl (s 35) q := by
    intro q hq
    rw [h31, nt_nI (by omega)] at hq
    show nt (rx_up s 35 (l + 1) (s 32 0) 35 (q + 1)) - nt (rx_up s 35 (l + 1) (s 32 0) 35 q) = _
    rw [up_o (by omega), up_o (by omega)]; rfl
  exact ⟨CFix_ui (CFix_ur (fun q hq z => absurd z ((by decide : ∀ q ∈ fixR, ¬ (q.1 = 406 ∧ q.2.1 = 15)) q hq)) h2.fix), h2.ug, h2.uo, h2.uh, h2.ul, h2.ua, h2.rr, h2.rm, h2.rgr, h2.sh, h2.sg, h2.s0, h2.s1, h2.s2, h2.s3, h2.s4, h2.s5, h2.bn, h2.bh, h2.bg, h2.b0, h2.b1, h2.b3, h2.b4, h2.b5, h2.bv, h2.br, h2.bo, h2.th, h2.tg, h2.t8, h2.ta, h2.tb, h2.tl, h2.tc, by show cI (cx_ui _ 64 14 0 _) 64 14 0 = _; rw [ui_s]; exact e31.symm, fun q hq => by
      rcases cs q hq with e | ⟨e, hq⟩
      · subst e
        rw [kL2_n, kP2_n, kQ2_n]
        have p0 : pl (sO s q x y 35) q = 0 := by
          show nt (rx_up s 35 (q + 1) (s 32 0) 35 (q + 1)) - nt (rx_up s 35 (q + 1) (s 32 0) 35 q) = 0
          rw [up_s, up_o (by omega), hrl]; omega
        rw [p0]
        refine ⟨?_, ?_, ?_, ?_, h.fix.h0 ▸ h2.fix.h0, h.fix.h0 ▸ h2.fix.h0⟩
        · show cR (cx_ur _ 406 15 q (some (cN c))) 406 15 q = _
          rw [cR_ur, if_pos ⟨rfl, rfl, rfl⟩]
        · show cH (cx_mk c (3, 0) 5) (cN c) = _
          rw [cH_mk, if_pos rfl]
        · simp [cR_ur, cR_ui]
        · simp [cR_ur, cR_ui]
      · rw [kL2_o e, kP2_o e, kQ2_o e, plo q hq]
        have z := h2.lh q hq
        refine ⟨?_, z.2⟩
        show cR (cx_ur _ 406 15 l (some (cN c))) 406 15 q = _
        rw [cR_ur, if_neg (fun w => e w.2.2)]; exact z.1, ⟨fun q hq => by
        show 96 ≤ kL (kL2 K l (cN c)) q ∧ kL (kL2 K l (cN c)) q < cN c + 1 ∧ (kP (kL2 K l (cN c)) q = 0 ∨ 96 ≤ kP (kL2 K l (cN c)) q) ∧ kP (kL2 K l (cN c)) q < cN c + 1 ∧ (kQ (kL2 K l (cN c)) q = 0 ∨ 96 ≤ kQ (kL2 K l (cN c)) q) ∧ kQ (kL2 K l (cN c)) q < cN c + 1
        rcases cs q hq with e | ⟨e, hq⟩
        · subst e; rw [kL2_n, kP2_n, kQ2_n]; omega
        · rw [kL2_o e, kP2_o e, kQ2_o e]
          have z := h.lg.1 q hq
          omega,
      fun q hq q2 hq2 ee => by
        rcases cs q hq with e | ⟨e, hu⟩ <;> rcases cs q2 hq2 with e2 | ⟨e2, hu2⟩
        · omega
        · subst e; rw [kL2_n, kL2_o e2] at ee
          have z := h.lg.1 q2 hu2; omega
        · subst e2; rw [kL2_n, kL2_o e] at ee
          have z := h.lg.1 q hu; omega
        · rw [kL2_o e, kL2_o e2] at ee; exact h.lg.2.1 q hu q2 hu2 ee,
      fun q hq t ht => by
        show (kP (kL2 K l (cN c)) q < kB K t ∨ kB K t + 13 ≤ kP (kL2 K l (cN c)) q) ∧ (kQ (kL2 K l (cN c)) q < kB K t ∨ kB K t + 13 ≤ kQ (kL2 K l (cN c)) q)
        rcases cs q hq with e | ⟨e, hq⟩
        · subst e; rw [kP2_n, kQ2_n]
          have z := h.bg.1 t ht; omega
        · rw [kP2_o e, kQ2_o e]; exact h.lg.2.2 q hq t ht⟩, fun q hq => by
      rcases cs q hq with e | ⟨e, hq⟩
      · subst e
        show cI _ 48 (kL (kL2 K q (cN c)) q) 0 = rx_up s 33 q x 33 q; rw [kL2_n, up_s]; simp [cI_ui, cI_ur]
      · show cI _ 48 (kL (kL2 K l (cN c)) q) 0 = rx_up s 33 l x 33 q; rw [kL2_o e, up_o e]; exact h2.lb q hq, fun q hq => by
      rcases cs q hq with e | ⟨e, hq⟩
      · subst e
        show cI _ 49 (kL (kL2 K q (cN c)) q) 0 = rx_up (rx_up s 33 q x) 34 q y 34 q; rw [kL2_n, up_s]; simp [cI_ui, cI_ur]
      · show cI _ 49 (kL (kL2 K l (cN c)) q) 0 = rx_up (rx_up s 33 l x) 34 l y 34 q; rw [kL2_o e, up_o e]; exact h2.lt q hq, fun q hq => by
      rcases cs q hq with e | ⟨e, hq⟩
      · subst e
        show cI _ 52 (kL (kL2 K q (cN c)) q) 0 = nI (cn (s 36) q (nt (s 32 0))); rw [kL2_n, hcn]; simp [cI_ui, cI_ur, cI_mk]; rfl
      · show cI _ 52 (kL (kL2 K l (cN c)) q) 0 = nI (cn (s 36) q (nt (s 32 0))); rw [kL2_o e]; exact h2.lu q hq, fun q hq j hj => by
      rcases cs q hq with e | ⟨e, hq⟩
      · subst e
        have p0 : pl (sO s q x y 35) q = 0 := by
          show nt (rx_up s 35 (q + 1) (s 32 0) 35 (q + 1)) - nt (rx_up s 35 (q + 1) (s 32 0) 35 q) = 0
          rw [up_s, up_o (by omega), hrl]; omega
        rw [p0] at hj; omega
      · rw [plo q hq] at hj
        show cI _ 400 (kP (kL2 K l (cN c)) q) j = s 36 (nt (rx_up s 35 (l + 1) (s 32 0) 35 q) + j)
        rw [kP2_o e, up_o (by have hq : q < nt (s 31 0) := hq; rw [h31, nt_nI (by omega)] at hq; omega)]; exact h2.lp q hq j hj, fun q hq j hj => by
      rcases cs q hq with e | ⟨e, hq⟩
      · subst e
        have p0 : pl (sO s q x y 35) q = 0 := by
          show nt (rx_up s 35 (q + 1) (s 32 0) 35 (q + 1)) - nt (rx_up s 35 (q + 1) (s 32 0) 35 q) = 0
          rw [up_s, up_o (by omega), hrl]; omega
        rw [p0] at hj; omega
      · rw [plo q hq] at hj
        show cI _ 400 (kQ (kL2 K l (cN c)) q) j = s 37 (nt (rx_up s 35 (l + 1) (s 32 0) 35 q) + j)
        rw [kQ2_o e, up_o (by have hq : q < nt (s 31 0) := hq; rw [h31, nt_nI (by omega)] at hq; omega)]; exact h2.lq q hq j hj, h2.nn, h2.nl⟩
theorem cn_0 {x : Nat → Int32} {l m : Nat} (h : ∀ n, n < m → x n ≠ nI l) : ∀ n, n ≤ m → cn x l n = 0
  | 0, _ => rfl
  | n + 1, hn => by rw [cn, cn_0 h n (by omega), if_neg (h n (by omega))]
/-- every row belongs to a lot -/
theorem row_of (hI : Iv K W bd s) : ∀ l, l ≤ nt (s 31 0) → ∀ n, n < nt (s 35 l) → ∃ q j, q < l ∧ j < pl (s 35) q ∧ n = nt (s 35 q) + j := by
  intro l
  induction l with
  | zero =>
    intro _ n hn
    rw [hI.il.1, b_nt0] at hn; omega
  | succ l ih =>
    intro hl n hn
    by_cases q : n < nt (s 35 l)
    · obtain ⟨a, j, h1, h2, h3⟩ := ih (by omega) n q
      exact ⟨a, j, by omega, h2, h3⟩
    · exact ⟨l, n - nt (s 35 l), by omega, by unfold pl; omega, by omega⟩
theorem row_lt (hI : Iv K W bd s) {n : Nat} (hn : n < nt (s 32 0)) : rg (s 36 n) (nt (s 31 0)) := by
  obtain ⟨q, j, h1, h2, rfl⟩ := row_of hI (nt (s 31 0)) (Nat.le_refl _) n (by rw [hI.il.2.2.2.1]; exact hn)
  have z := hI.il.2.2.2.2.2 q h1 j h2
  exact ⟨z.eq, by have := z.lt; omega⟩
theorem cn_new (hI : Iv K W bd s) : cn (s 36) (nt (s 31 0)) (nt (s 32 0)) = 0 := cn_0 (fun n hn e => by
  have z := row_lt hI hn
  rw [e] at z
  have z2 := z.2
  rw [nt_nI (by have := hI.i31.lt; omega)] at z2
  exact Nat.lt_irrefl _ z2) _ (Nat.le_refl _)
theorem inv_open (hI : Iv K W bd s) {l : Nat} {x y : Int32} (h31 : s 31 0 = nI l) (hl : l < 100) (K2 : kx) (e1 : kN K2 = kN K) (e2 : kM K2 = kM K) : Iv K2 W bd (sO s l x y) := by
  have nl : nt (s 31 0) = l := by rw [h31, nt_nI (by omega)]
  have e31 : sO s l x y 31 0 = nI (l + 1) := by show rx_up (rx_up (rx_up s 33 l x) 34 l y) 31 0 (nI (l + 1)) 31 0 = _; exact up_s
  have n31 : nt (sO s l x y 31 0) = l + 1 := by rw [e31, nt_nI (by omega)]
  have u35 : ∀ q, q ≠ l + 1 → sO s l x y 35 q = s 35 q := fun q hq => by show rx_up s 35 (l + 1) (s 32 0) 35 q = _; exact up_o hq
  have v35 : sO s l x y 35 (l + 1) = s 32 0 := up_s
  obtain ⟨i1, i2, i3, i4, i5, i6⟩ := hI.il
  rw [nl] at i2 i3 i4 i5 i6
  refine ⟨⟨hI.i3, hI.i6, hI.i7, hI.i8, hI.i9, hI.i15, by rw [e31]; exact rg_of (by omega) (by decide), hI.i32, hI.i27⟩, hI.iw, hI.if, hI.ib, fun t ht i hi => ?_, fun u hu => ?_, hI.iq, ?_, ?_⟩
  · have z := hI.it t ht i hi
    refine ⟨z.1, z.2.1, fun b => ?_⟩
    obtain ⟨a1, a2, a3, a4⟩ := z.2.2 b
    exact ⟨a1, a2, a3, fun k => by
      show rg (s 25 (8 * t + i)) (nt (sO s l x y 31 0))
      exact rg_mono (a4 k) (by rw [n31]; have := (a4 k).lt; omega)⟩
  · have z := hI.iu u hu
    exact ⟨fun j hj => by
      show rg (s 4 (100 * u + j)) (nt (sO s l x y 31 0))
      exact rg_mono (z.1 j hj) (by rw [n31]; have := (z.1 j hj).lt; omega), z.2.1, z.2.2⟩
  · unfold IL
    rw [n31]
    refine ⟨by rw [u35 0 (by omega)]; exact i1, fun q hq => ?_, fun q hq => ?_, v35, ?_, fun q hq j hj => ?_⟩
    · by_cases e : q = l + 1
      · rw [e, v35]; exact hI.i32
      · rw [u35 q e]; exact i2 q (by omega)
    · by_cases e : q = l
      · rw [e, v35, u35 l (by omega), i4]; exact Nat.le_refl _
      · rw [u35 q (by omega), u35 (q + 1) (by omega)]; exact i3 q (by omega)
    · show 2 * nt (s 32 0) ≤ (l + 1) * (l + 1 - 1)
      refine Nat.le_trans i5 ?_
      rw [Nat.add_sub_cancel]
      exact Nat.mul_le_mul (by omega) (by omega)
    · by_cases e : q = l
      · subst e
        unfold pl at hj
        rw [v35, u35 q (by omega), i4] at hj; omega
      · have hj2 : j < pl (s 35) q := by
          unfold pl at hj ⊢
          rw [u35 q (by omega), u35 (q + 1) (by omega)] at hj; exact hj
        show rg (s 36 (nt (sO s l x y 35 q) + j)) q
        rw [u35 q (by omega)]
        exact i6 q (by omega) j hj2
  · have z := hI.ln
    unfold Lin NW nw at z ⊢
    rw [e1, e2]; exact z
theorem open_C (h : CRep K c s) {l : Nat} {x y : Int32} (h31 : s 31 0 = nI l) (hl : l < 100) : D_K_open f 14 x y c = some (nI l, cO c l x y) := by
  have n96 := h.fix.n
  have e64 : cI c 64 14 0 = nI l := by rw [h.ln]; exact h31
  have hc : cH (cx_mk c (3, 0) 5) (cN c) = some (3, 0) := by rw [cH_mk, if_pos rfl]
  have h2 : CRep K (cx_ui (cx_ui (cx_ur (cx_ur (cx_mk c (3, 0) 5) 50 (cN c) 0 (some 0)) 51 (cN c) 0 (some 0)) 48 (cN c) 0 x) 49 (cN c) 0 y) s := by
    refine CRep_ext h (fun F p hp _ => ?_) (fun F p hp => ?_) (fun p hp => ?_) (Nat.le_succ _)
    · funext j
      have hne : p ≠ cN c := by omega
      simp only [cI_ui, cI_ur, cI_mk, hne, and_false, false_and, if_false]
    · funext j
      have hne : p ≠ cN c := by omega
      simp only [cR_ui, cR_ur, cR_mk, hne, and_false, false_and, if_false]
    · have hne : p ≠ cN c := by omega
      simp only [cH_ui, cH_ur, cH_mk, hne, if_false]
  unfold D_K_open
  rw [b_oc h.fix.h14, b_on n96, D_L_init, b_oc hc, b_ob, b_oc (show cH (cx_ui (cx_ui (cx_ur (cx_ur (cx_mk c (3, 0) 5) 50 (cN c) 0 (some 0)) 51 (cN c) 0 (some 0)) 48 (cN c) 0 x) 49 (cN c) 0 y) (cN c) = some (3, 0) from hc), h.fix.f65, e64, b_oa h2.fix.h15 hl (by decide), b_oc h2.fix.h14]
  have e2 : cI (cx_ur (cx_ui (cx_ui (cx_ur (cx_ur (cx_mk c (3, 0) 5) 50 (cN c) 0 (some 0)) 51 (cN c) 0 (some 0)) 48 (cN c) 0 x) 49 (cN c) 0 y) 406 15 l (some (cN c))) 64 14 0 = nI l := by
    show cI (cx_ui (cx_ui (cx_ur (cx_ur (cx_mk c (3, 0) 5) 50 (cN c) 0 (some 0)) 51 (cN c) 0 (some 0)) 48 (cN c) 0 x) 49 (cN c) 0 y) 64 14 0 = _
    rw [h2.ln]; exact h31
  rw [e2, nI_add]
theorem open_M {l t : Nat} {y : Int32} (h31 : s 31 0 = nI l) (hl : l < 100) : D_M_newLot f (nI t) y s = some (nI l, sO s l (nI t) y) := by
  unfold D_M_newLot
  have e1 : ∀ v w, rx_up (rx_up s 33 l v) 34 l w 31 0 = nI l := fun _ _ => h31
  have e2 : rx_up s 33 l (nI t) 31 0 = nI l := h31
  rw [h31, if_neg (by rw [nI_eq (by omega) (by decide)]; omega), b_og hl (by decide), e2, b_og hl (by decide), e1, nI_add]
  have e3 : rx_up (rx_up (rx_up s 33 l (nI t)) 34 l y) 31 0 (nI (l + 1)) 31 0 = nI (l + 1) := up_s
  have e4 : sO s l (nI t) y 31 0 = nI (l + 1) := e3
  simp only [e3, b_og (show l + 1 < 101 by omega) (show 101 < 2 ^ 31 by decide)]
  show some (sO s l (nI t) y 31 0 - nI 1, sO s l (nI t) y) = _
  rw [e4, pk_sub (by omega), Nat.add_sub_cancel]
end OPN
