/-! batch -/
section BAT
variable {f : Nat} {K : kx} {W : Nat → Nat → Nat} {bd : Nat} {c : cx_S} {s : rx_S}
/-- a batch more -/
def kB2 (K : kx) (n N : Nat) : kx := (kS K, fun t => if t = n then N else kB K t, fun t i => if t = n then N + 5 + i else kT K t i, K.2.2.2)
theorem kB2_n {n N : Nat} : kB (kB2 K n N) n = N := if_pos rfl
theorem kB2_o {n N t : Nat} (h : t ≠ n) : kB (kB2 K n N) t = kB K t := if_neg h
theorem kT2_n {n N i : Nat} : kT (kB2 K n N) n i = N + 5 + i := if_pos rfl
theorem kT2_o {n N t i : Nat} (h : t ≠ n) : kT (kB2 K n N) t i = kT K t i := if_neg h
/-- what the constructor made, with i tokens -/
def BN (c c2 : cx_S) (i : Nat) (x1 x2 x4 : Int32) (x3 : Option Nat) : Prop :=
  (∀ F p, p < cN c → cI c2 F p = cI c F p) ∧ (∀ F p, p < cN c → cR c2 F p = cR c F p) ∧ (∀ p, p < cN c → cH c2 p = cH c p) ∧ cN c2 = cN c + 5 + i ∧ cZ c2 = cZ c + 37 + 4 * i ∧
  (cH c2 (cN c) = some (1, 0) ∧ cR c2 18 (cN c) 0 = x3 ∧ cR c2 22 (cN c) 0 = some (cN c + 1) ∧ cR c2 23 (cN c) 0 = some (cN c + 2) ∧ cR c2 24 (cN c) 0 = some (cN c + 3) ∧ cR c2 25 (cN c) 0 = some (cN c + 4) ∧ cH c2 (cN c + 1) = some (408, 8) ∧ cH c2 (cN c + 2) = some (400, 4) ∧ cH c2 (cN c + 3) = some (400, 12) ∧ cH c2 (cN c + 4) = some (400, 3)) ∧
  (∀ k, k < i → cR c2 408 (cN c + 1) k = some (cN c + 5 + k) ∧ cH c2 (cN c + 5 + k) = some (9, 0)) ∧
  cI c2 16 (cN c) 0 = x1 ∧ cI c2 17 (cN c) 0 = x2 ∧ cI c2 19 (cN c) 0 = x4 ∧ cI c2 20 (cN c) 0 = nI 0 ∧ cI c2 21 (cN c) 0 = nI 0 ∧ (∀ j, cI c2 400 (cN c + 2) j = nI 0) ∧ (∀ j, cI c2 400 (cN c + 3) j = nI 0) ∧ ∀ j, j < 3 → cI c2 400 (cN c + 4) j = -1
/-- before its tokens -/
def bI (c : cx_S) (x1 x2 x4 : Int32) (x3 : Option Nat) : cx_S :=
  cx_ui (cx_ur (cx_ui (cx_ui (cx_ur (cx_ui (cx_ui (cx_ui (cx_mk (cx_ur (cx_mk (cx_ur (cx_mk (cx_ur (cx_mk (cx_ui (cx_mk c (1, 0) 10) 20 (cN c) 0 (nI 0)) (408, 8) 8) 22 (cN c) 0 (some (cN c + 1))) (400, 4) 4) 23 (cN c) 0 (some (cN c + 2))) (400, 12) 12) 24 (cN c) 0 (some (cN c + 3))) (400, 3) 3) 400 (cN c + 4) 0 (-1)) 400 (cN c + 4) 1 (-1)) 400 (cN c + 4) 2 (-1)) 25 (cN c) 0 (some (cN c + 4))) 16 (cN c) 0 x1) 17 (cN c) 0 x2) 18 (cN c) 0 x3) 19 (cN c) 0 x4
theorem bI_BN {x1 x2 x4 : Int32} {x3 : Option Nat} : BN c (bI c x1 x2 x4 x3) 0 x1 x2 x4 x3 := by
  unfold BN bI
  refine ⟨fun F p hp => ?_, fun F p hp => ?_, fun p hp => ?_, ?_, ?_, ?_, ?_, ?_, ?_, ?_, ?_, ?_, ?_, ?_, ?_⟩
  · funext j
    have a0 : p ≠ cN c := by omega
    have a4 : p ≠ cN c + 4 := by omega
    have a1 : p ≠ cN c + 1 := by omega
    have a2 : p ≠ cN c + 2 := by omega
    have a3 : p ≠ cN c + 3 := by omega
    have b1 : p ≠ cN c + 1 + 1 := by omega
    have b2 : p ≠ cN c + 1 + 1 + 1 := by omega
    have b3 : p ≠ cN c + 1 + 1 + 1 + 1 := by omega
    simp only [cI_ui, cI_ur, cI_mk, cN_ui, cN_ur, cN_mk, a0, a1, a2, a3, a4, b1, b2, b3, and_false, false_and, if_false]
  · funext j
    have a0 : p ≠ cN c := by omega
    have a1 : p ≠ cN c + 1 := by omega
    have b1 : p ≠ cN c + 1 + 1 := by omega
    have b2 : p ≠ cN c + 1 + 1 + 1 := by omega
    have b3 : p ≠ cN c + 1 + 1 + 1 + 1 := by omega
    simp only [cR_ui, cR_ur, cR_mk, cN_ui, cN_ur, cN_mk, a0, a1, b1, b2, b3, and_false, false_and, if_false]
  · have a0 : p ≠ cN c := by omega
    have a1 : p ≠ cN c + 1 := by omega
    have b1 : p ≠ cN c + 1 + 1 := by omega
    have b2 : p ≠ cN c + 1 + 1 + 1 := by omega
    have b3 : p ≠ cN c + 1 + 1 + 1 + 1 := by omega
    simp only [cH_ui, cH_ur, cH_mk, cN_ui, cN_ur, cN_mk, a0, a1, b1, b2, b3, if_false]
  · simp only [cN_ui, cN_ur, cN_mk]
  · simp only [cZ_ui, cZ_ur, cZ_mk]
  · refine ⟨?_, ?_, ?_, ?_, ?_, ?_, ?_, ?_, ?_, ?_⟩ <;> simp [cH_ui, cH_ur, cH_mk, cR_ui, cR_ur, cR_mk, cN_ui, cN_ur, cN_mk, Nat.add_assoc]
  · intro k hk; omega
  · simp [cI_ui, cI_ur, cI_mk]
  · simp [cI_ui, cI_ur, cI_mk]
  · simp [cI_ui, cI_ur, cI_mk]
  · simp [cI_ui, cI_ur, cI_mk, cN_ui, cN_ur, cN_mk, Nat.add_assoc]
  · simp [cI_ui, cI_ur, cI_mk, cN_ui, cN_ur, cN_mk, Nat.add_assoc]; rfl
  · intro j
    simp [cI_ui, cI_ur, cI_mk, cN_ui, cN_ur, cN_mk, Nat.add_assoc]; rfl
  · intro j
    simp [cI_ui, cI_ur, cI_mk, cN_ui, cN_ur, cN_mk, Nat.add_assoc]; rfl
  · intro j hj
    have : j = 0 ∨ j = 1 ∨ j = 2 := by omega
    rcases this with rfl | rfl | rfl <;> simp [cI_ui, cI_ur, cI_mk, cN_ui, cN_ur, cN_mk, Nat.add_assoc]
theorem BN_tok {c2 : cx_S} {i : Nat} {x1 x2 x4 : Int32} {x3 : Option Nat} (h : BN c c2 i x1 x2 x4 x3) : BN c (cx_ur (cx_mk c2 (9, 0) 4) 408 (cN c + 1) i (some (cN c2))) (i + 1) x1 x2 x4 x3 := by
  obtain ⟨h1, h2, h3, h4, h5, ⟨g1, g2, g3, g4, g5, g6, g7, g8, g9, g10⟩, h7, k1, k2, k3, k4, k5, k6, k7, k8⟩ := h
  have n1 : ∀ F p, p < cN c + 5 + i → cI (cx_ur (cx_mk c2 (9, 0) 4) 408 (cN c + 1) i (some (cN c2))) F p = cI c2 F p := fun F p hp => by
    funext j
    rw [cI_ur, cI_mk, if_neg (by omega)]
  have n2 : ∀ F p j, p < cN c + 5 + i → ¬ (F = 408 ∧ p = cN c + 1 ∧ j = i) → cR (cx_ur (cx_mk c2 (9, 0) 4) 408 (cN c + 1) i (some (cN c2))) F p j = cR c2 F p j := fun F p j hp hn => by
    rw [cR_ur, if_neg hn, cR_mk, if_neg (by omega)]
  have n3 : ∀ p, p < cN c + 5 + i → cH (cx_ur (cx_mk c2 (9, 0) 4) 408 (cN c + 1) i (some (cN c2))) p = cH c2 p := fun p hp => by
    rw [cH_ur, cH_mk, if_neg (by omega)]
  refine ⟨fun F p hp => by rw [n1 F p (by omega)]; exact h1 F p hp, fun F p hp => ?_, fun p hp => by rw [n3 p (by omega)]; exact h3 p hp, by rw [cN_ur, cN_mk]; omega, by rw [cZ_ur, cZ_mk]; omega, ?_, fun k hk => ?_, ?_, ?_, ?_, ?_, ?_, fun j => ?_, fun j => ?_, fun j hj => ?_⟩
  · funext j
    rw [n2 F p j (by omega) (by omega), h2 F p hp]
  · rw [n3 _ (by omega), n2 _ _ _ (by omega) (by omega), n2 _ _ _ (by omega) (by omega), n2 _ _ _ (by omega) (by omega), n2 _ _ _ (by omega) (by omega), n2 _ _ _ (by omega) (by omega), n3 _ (by omega), n3 _ (by omega), n3 _ (by omega), n3 _ (by omega)]
    exact ⟨g1, g2, g3, g4, g5, g6, g7, g8, g9, g10⟩
  · by_cases e : k = i
    · subst e
      refine ⟨by rw [cR_ur, if_pos ⟨rfl, rfl, rfl⟩, h4], ?_⟩
      rw [cH_ur, cH_mk, if_pos (by omega)]
    · rw [n2 _ _ _ (by omega) (by omega), n3 _ (by omega)]
      exact h7 k (by omega)
  · rw [n1 _ _ (by omega)]; exact k1
  · rw [n1 _ _ (by omega)]; exact k2
  · rw [n1 _ _ (by omega)]; exact k3
  · rw [n1 _ _ (by omega)]; exact k4
  · rw [n1 _ _ (by omega)]; exact k5
  · rw [n1 _ _ (by omega)]; exact k6 j
  · rw [n1 _ _ (by omega)]; exact k7 j
  · rw [n1 _ _ (by omega)]; exact k8 j hj
theorem bI_loop (hN : 96 ≤ cN c) {x1 x2 x4 : Int32} {x3 : Option Nat} : ∀ d i k c2, i + d = 8 → d < k → BN c c2 i x1 x2 x4 x3 → ∃ c3, D_B_init_76 f (cN c) k (nI i) c2 = some (0, c3) ∧ BN c c3 8 x1 x2 x4 x3 := by
  intro d
  induction d with
  | zero =>
    intro i k c2 hi hk hb
    obtain ⟨k, rfl⟩ : ∃ k', k = k' + 1 := ⟨k - 1, by omega⟩
    have e : i = 8 := by omega
    subst e
    exact ⟨c2, by rw [D_B_init_76, if_pos (Int32.le_refl _)], hb⟩
  | succ d ih =>
    intro i k c2 hi hk hb
    obtain ⟨k, rfl⟩ : ∃ k', k = k' + 1 := ⟨k - 1, by omega⟩
    have n4 := hb.2.2.2.1
    have g := hb.2.2.2.2.2.1
    have e1 : cH (cx_mk c2 (9, 0) 4) (cN c2) = some (9, 0) := by rw [cH_mk, if_pos rfl]
    have e2 : cH (cx_mk c2 (9, 0) 4) (cN c + 1) = some (408, 8) := by rw [cH_mk, if_neg (by omega)]; exact g.2.2.2.2.2.2.1
    obtain ⟨c3, w1, w2⟩ := ih (i + 1) k _ (by omega) (by omega) (BN_tok hb)
    refine ⟨c3, ?_, w2⟩
    rw [D_B_init_76, if_neg (nI_ge (by omega) (by decide)), b_oc g.1, b_on (by omega), D_T_init, b_ob, b_oc e1, g.2.2.1, b_oa e2 (by omega) (by decide), nI_add]
    exact w1
theorem b_Binit (hN : 96 ≤ cN c) (hf : 2 ^ 31 ≤ f) {x1 x2 x4 : Int32} {x3 : Option Nat} : ∃ c2, D_B_init f (cN c) x1 x2 x3 x4 (cx_mk c (1, 0) 10) = some (0, c2) ∧ BN c c2 8 x1 x2 x4 x3 := by
  obtain ⟨c2, w1, w2⟩ := bI_loop (f := f) hN 8 0 f (bI c x1 x2 x4 x3) (by omega) (by omega) bI_BN
  refine ⟨c2, ?_, w2⟩
  rw [← w1]
  have z : ∀ k, ¬ cN c = cN c + (k + 1) := fun k => by omega
  unfold D_B_init bI
  simp only [oc, on, oa, oh, cH_ui, cH_ur, cH_mk, cN_ui, cN_ur, cN_mk]
  have o1 : 2 ≤ cN c + 1 ∧ (cN c + 1 < 52 ∨ 96 ≤ cN c + 1) := by omega
  have o2 : 2 ≤ cN c + 1 + 1 ∧ (cN c + 1 + 1 < 52 ∨ 96 ≤ cN c + 1 + 1) := by omega
  have o3 : 2 ≤ cN c + 1 + 1 + 1 ∧ (cN c + 1 + 1 + 1 < 52 ∨ 96 ≤ cN c + 1 + 1 + 1) := by omega
  have o4 : 2 ≤ cN c + 1 + 1 + 1 + 1 ∧ (cN c + 1 + 1 + 1 + 1 < 52 ∨ 96 ≤ cN c + 1 + 1 + 1 + 1) := by omega
  have a1 : ¬ cN c = cN c + 1 := by omega
  have a2 : ¬ cN c = cN c + 1 + 1 := by omega
  have a3 : ¬ cN c = cN c + 1 + 1 + 1 := by omega
  have a4 : ¬ cN c = cN c + 1 + 1 + 1 + 1 := by omega
  simp only [if_pos o1, if_pos o2, if_pos o3, if_pos o4, a1, a2, a3, a4, if_true, if_false, b_og (show 0 < 3 by decide) (show 3 < 2 ^ 31 by decide), b_og (show 1 < 3 by decide) (show 3 < 2 ^ 31 by decide), b_og (show 2 < 3 by decide) (show 3 < 2 ^ 31 by decide)]
abbrev sB (s : rx_S) (n r z : Nat) : rx_S := rx_up (rx_up (rx_up s 16 n (nI r)) 17 n (nI z)) 15 0 (nI (n + 1))
theorem p_batch (h : CRep K c s) {c2 : cx_S} {n r z : Nat} (hb : BN c c2 8 (nI n) (nI r) (nI z) (some (40 + 3 * r))) (h15 : s 15 0 = nI n) (hn : n < 16) (hr : r < 4) (f0 : s 18 n = nI 0 ∧ s 19 n = nI 0 ∧ (∀ j, j < 4 → s 20 (4 * n + j) = nI 0) ∧ (∀ j, j < 12 → s 21 (12 * n + j) = nI 0) ∧ ∀ j, j < 3 → s 22 (3 * n + j) = -1) (hkn : ∀ i, i < kM K → kN K i < n) :
    CRep (kB2 K n (cN c)) (cx_ui (cx_ur c2 404 4 n (some (cN c))) 2 2 0 (nI (n + 1))) (sB s n r z) := by
  obtain ⟨h1, h2', h3, h4, h5, ⟨g1, g2, g3, g4, g5, g6, g7, g8, g9, g10⟩, h7, k1, k2, k3, k4, k5, k6, k7, k8⟩ := hb
  have h2 : CRep K c2 s := CRep_ext h (fun F p hp _ => h1 F p hp) h2' h3 (by omega)
  have n96 := h.fix.n
  have cs : ∀ t, t < nt (sB s n r z 15 0) → t = n ∨ (t ≠ n ∧ t < nt (s 15 0)) := by
    intro t ht
    have e : sB s n r z 15 0 = nI (n + 1) := up_s
    rw [e, nt_nI (by omega)] at ht
    rw [h15, nt_nI (by omega)]
    omega
  exact ⟨CFix_ui (CFix_ur (fun q hq z => absurd z ((by decide : ∀ q ∈ fixR, ¬ (q.1 = 404 ∧ q.2.1 = 4)) q hq)) h2.fix), h2.ug, h2.uo, h2.uh, h2.ul, h2.ua, h2.rr, h2.rm, h2.rgr, h2.sh, h2.sg, h2.s0, h2.s1, h2.s2, h2.s3, h2.s4, h2.s5, by show cI (cx_ui _ 2 2 0 _) 2 2 0 = _; rw [ui_s]; exact up_s.symm, fun t ht => by
      rcases cs t ht with e | ⟨e, ht⟩
      · subst e
        have er : sB s t r z 16 t = nI r := by show rx_up s 16 t (nI r) 16 t = _; exact up_s
        rw [kB2_n, er, nt_nI (by omega)]
        refine ⟨?_, g1, g2, g3, g4, g5, g6, g7, g8, g9, g10⟩
        show cR (cx_ur c2 404 4 t (some (cN c))) 404 4 t = _
        rw [cR_ur, if_pos ⟨rfl, rfl, rfl⟩]
      · have er : sB s n r z 16 t = s 16 t := by show rx_up s 16 n (nI r) 16 t = _; exact up_o e
        have q := h2.bh t ht
        rw [kB2_o e, er]
        refine ⟨?_, q.2⟩
        show cR (cx_ur c2 404 4 n (some (cN c))) 404 4 t = _
        rw [cR_ur, if_neg (fun w => e w.2.2)]; exact q.1, ⟨fun t ht => by
        show 96 ≤ kB (kB2 K n (cN c)) t ∧ kB (kB2 K n (cN c)) t + 13 ≤ cN c2
        rcases cs t ht with e | ⟨e, ht⟩
        · subst e; rw [kB2_n]; omega
        · rw [kB2_o e]
          have q := h.bg.1 t ht
          omega,
      fun t ht t2 ht2 ne => by
        rcases cs t ht with e | ⟨e, hu⟩ <;> rcases cs t2 ht2 with e2 | ⟨e2, hu2⟩
        · omega
        · subst e; rw [kB2_n, kB2_o e2]
          have q := h.bg.1 t2 hu2; omega
        · subst e2; rw [kB2_n, kB2_o e]
          have q := h.bg.1 t hu; omega
        · rw [kB2_o e, kB2_o e2]; exact h.bg.2 t hu t2 hu2 ne⟩, fun t ht => by
      rcases cs t ht with e | ⟨e, ht⟩
      · subst e
        show cI c2 16 (kB (kB2 K t (cN c)) t) 0 = nI t; rw [kB2_n]; exact k1
      · show cI c2 16 (kB (kB2 K n (cN c)) t) 0 = nI t; rw [kB2_o e]; exact h2.b0 t ht, fun t ht => by
      rcases cs t ht with e | ⟨e, ht⟩
      · subst e
        show cI c2 17 (kB (kB2 K t (cN c)) t) 0 = rx_up s 16 t (nI r) 16 t; rw [kB2_n, k2]; exact up_s.symm
      · show cI c2 17 (kB (kB2 K n (cN c)) t) 0 = rx_up s 16 n (nI r) 16 t; rw [kB2_o e, up_o e]; exact h2.b1 t ht, fun t ht => by
      rcases cs t ht with e | ⟨e, ht⟩
      · subst e
        show cI c2 19 (kB (kB2 K t (cN c)) t) 0 = rx_up (rx_up s 16 t (nI r)) 17 t (nI z) 17 t; rw [kB2_n, k3]; exact up_s.symm
      · show cI c2 19 (kB (kB2 K n (cN c)) t) 0 = rx_up (rx_up s 16 n (nI r)) 17 n (nI z) 17 t; rw [kB2_o e, up_o e]; exact h2.b3 t ht, fun t ht => by
      rcases cs t ht with e | ⟨e, ht⟩
      · subst e
        show cI c2 20 (kB (kB2 K t (cN c)) t) 0 = s 18 t; rw [kB2_n, k4, f0.1]
      · show cI c2 20 (kB (kB2 K n (cN c)) t) 0 = s 18 t; rw [kB2_o e]; exact h2.b4 t ht, fun t ht => by
      rcases cs t ht with e | ⟨e, ht⟩
      · subst e
        show cI c2 21 (kB (kB2 K t (cN c)) t) 0 = s 19 t; rw [kB2_n, k5, f0.2.1]
      · show cI c2 21 (kB (kB2 K n (cN c)) t) 0 = s 19 t; rw [kB2_o e]; exact h2.b5 t ht, fun t ht j hj => by
      rcases cs t ht with e | ⟨e, ht⟩
      · subst e
        show cI c2 400 (kB (kB2 K t (cN c)) t + 2) j = s 20 (4 * t + j); rw [kB2_n, k6 j, f0.2.2.1 j hj]
      · show cI c2 400 (kB (kB2 K n (cN c)) t + 2) j = s 20 (4 * t + j); rw [kB2_o e]; exact h2.bv t ht j hj, fun t ht j hj => by
      rcases cs t ht with e | ⟨e, ht⟩
      · subst e
        show cI c2 400 (kB (kB2 K t (cN c)) t + 3) j = s 21 (12 * t + j); rw [kB2_n, k7 j, f0.2.2.2.1 j hj]
      · show cI c2 400 (kB (kB2 K n (cN c)) t + 3) j = s 21 (12 * t + j); rw [kB2_o e]; exact h2.br t ht j hj, fun t ht j hj => by
      rcases cs t ht with e | ⟨e, ht⟩
      · subst e
        show cI c2 400 (kB (kB2 K t (cN c)) t + 4) j = s 22 (3 * t + j); rw [kB2_n, k8 j hj, f0.2.2.2.2 j hj]
      · show cI c2 400 (kB (kB2 K n (cN c)) t + 4) j = s 22 (3 * t + j); rw [kB2_o e]; exact h2.bo t ht j hj, fun t ht i hi => by
      rcases cs t ht with e | ⟨e, ht⟩
      · subst e
        show cR c2 408 (kB (kB2 K t (cN c)) t + 1) i = some (kT (kB2 K t (cN c)) t i) ∧ cH c2 (kT (kB2 K t (cN c)) t i) = some (9, 0); rw [kB2_n, kT2_n]; exact h7 i hi
      · show cR c2 408 (kB (kB2 K n (cN c)) t + 1) i = some (kT (kB2 K n (cN c)) t i) ∧ cH c2 (kT (kB2 K n (cN c)) t i) = some (9, 0); rw [kB2_o e, kT2_o e]; exact h2.th t ht i hi, ⟨fun t ht i hi => by
      rcases cs t ht with e | ⟨e, ht⟩
      · subst e
        rw [kB2_n, kT2_n]; omega
      · rw [kB2_o e, kT2_o e]; exact h.tg.1 t ht i hi,
    fun t ht i hi i2 hi2 q => by
      rcases cs t ht with e | ⟨e, ht⟩
      · subst e
        rw [kT2_n, kT2_n] at q; omega
      · rw [kT2_o e, kT2_o e] at q; exact h.tg.2 t ht i hi i2 hi2 q⟩, fun t ht => by
      rcases cs t ht with e | ⟨e, ht⟩
      · subst e
        show nt (s 19 t) ≤ 8; rw [f0.2.1, b_nt0]; omega
      · exact h.t8 t ht, fun t ht i hi => by
      rcases cs t ht with e | ⟨e, ht⟩
      · subst e
        have hi : i < nt (s 19 t) := hi
        rw [f0.2.1, b_nt0] at hi; omega
      · show cI c2 144 (kT (kB2 K n (cN c)) t i) 0 = s 23 (8 * t + i); rw [kT2_o e]; exact h2.ta t ht i hi, fun t ht i hi => by
      rcases cs t ht with e | ⟨e, ht⟩
      · subst e
        have hi : i < nt (s 19 t) := hi
        rw [f0.2.1, b_nt0] at hi; omega
      · show cI c2 145 (kT (kB2 K n (cN c)) t i) 0 = s 26 (8 * t + i); rw [kT2_o e]; exact h2.tb t ht i hi, fun t ht i hi hb2 => by
      rcases cs t ht with e | ⟨e, ht⟩
      · subst e
        have hi : i < nt (s 19 t) := hi
        rw [f0.2.1, b_nt0] at hi; omega
      · have ek : ka (sB s n r z) t i = ka s t i := by show s 9 (12 * nt (rx_up s 16 n (nI r) 16 t) + nt (s 23 (8 * t + i))) = _; rw [up_o e]; rfl
        show cI c2 146 (kT (kB2 K n (cN c)) t i) 0 = if ka (sB s n r z) t i = nI 4 then (if s 27 (8 * t + i) = nI 1 then nI 0 else nI 1) else s 24 (8 * t + i); rw [kT2_o e, ek]; exact h2.tl t ht i hi hb2, fun t ht i hi hb2 hk => by
      rcases cs t ht with e | ⟨e, ht⟩
      · subst e
        have hi : i < nt (s 19 t) := hi
        rw [f0.2.1, b_nt0] at hi; omega
      · have ek : ka (sB s n r z) t i = ka s t i := by show s 9 (12 * nt (rx_up s 16 n (nI r) 16 t) + nt (s 23 (8 * t + i))) = _; rw [up_o e]; rfl
        show cI c2 147 (kT (kB2 K n (cN c)) t i) 0 = s 25 (8 * t + i); rw [kT2_o e]; exact h2.tc t ht i hi hb2 (by rw [ek] at hk; exact hk), h2.ln, h2.lh, ⟨h2.lg.1, h2.lg.2.1, fun l hl t ht => by
      show (kP K l < kB (kB2 K n (cN c)) t ∨ kB (kB2 K n (cN c)) t + 13 ≤ kP K l) ∧ (kQ K l < kB (kB2 K n (cN c)) t ∨ kB (kB2 K n (cN c)) t + 13 ≤ kQ K l)
      rcases cs t ht with e | ⟨e, ht⟩
      · subst e; rw [kB2_n]
        have q := h.lg.1 l hl
        omega
      · rw [kB2_o e]; exact h.lg.2.2 l hl t ht⟩, h2.lb, h2.lt, h2.lu, h2.lp, h2.lq, h2.nn, fun i hi => by
      show cR (cx_ur c2 404 4 n (some (cN c))) 404 20 i = some (kB (kB2 K n (cN c)) (kN K i))
      rw [cR_ur, if_neg (by omega), kB2_o (fun w => by have := hkn i hi; omega)]; exact h2.nl i hi⟩
theorem b_batch (h : St K W bd c s) (hf : 2 ^ 31 ≤ f) (x y : Int32) : SimX K W bd bd c s (D_H_batch f 2 x y c) (D_M_batch f x y s) := by
  obtain ⟨h, hI⟩ := h
  unfold D_H_batch D_M_batch
  have n96 := h.fix.n
  rcases in_cases x (n := 4) (m := 3) rfl (by decide) f with ⟨r, hr, rfl, e1, e2⟩ | ⟨e1, e2⟩
  · rcases in_cases y (n := 1001) (m := 1000) rfl (by decide) f with ⟨z, hz, rfl, e3, e4⟩ | ⟨e3, e4⟩
    · have g := hI.i15
      have gl := g.lt
      have e5 : cI c 2 2 0 = nI (nt (s 15 0)) := by rw [h.bn]; exact g.eq
      have e6 := g.eq
      simp only [e1, e2, e3, e4, b_ob, b_oj, b_10, if_false, b_oc h.fix.h2, h.fix.f0, b_oa h.fix.h3 hr (by decide), h.fix.recA r hr, b_oc (h.fix.hRec r hr), b_og hr (by decide), h.rr r hr, e5]
      by_cases q : s 8 r = 0
      · simp only [if_pos q, b_on n96, goes_10, b_ob, b_00, if_true]
        exact simx_13 ⟨h, hI⟩ rfl rfl
      · simp only [if_neg q]
        by_cases q2 : nt (s 15 0) < 16
        · have q3 : ¬ nI 16 ≤ s 15 0 := by rw [e6]; exact nI_ge q2 (by decide)
          obtain ⟨c2, w1, w2⟩ := b_Binit (f := f) (c := c) n96 hf (x1 := nI (nt (s 15 0))) (x2 := nI r) (x3 := some (40 + 3 * r)) (x4 := nI z)
          have h1 : CRep K (cx_mk c (1, 0) 10) s := CRep_mk h
          have f1 := h1.fix
          have h8 : s 8 r = nI 1 := by
            have a := (hI.i8 r hr).eq
            have b := (hI.i8 r hr).lt
            rw [a] at q ⊢
            have : nt (s 8 r) = 0 ∨ nt (s 8 r) = 1 := by omega
            rcases this with w | w
            · rw [w] at q; exact absurd rfl q
            · rw [w]
          have key := p_batch (s := R0 s) h w2 e6 q2 hr (hI.if _ (Nat.le_refl _) q2) hI.ln.2.1
          have h2 : CRep K c2 s := CRep_ext h (fun F p hp _ => w2.1 F p hp) w2.2.1 w2.2.2.1 (by have := w2.2.2.2.1; omega)
          have f2 := h2.fix
          have hB := w2.2.2.2.2.2.1.1
          have ec2 : cI (cx_ur c2 404 4 (nt (s 15 0)) (some (cN c))) 2 2 0 = nI (nt (s 15 0)) := by show cI c2 2 2 0 = _; rw [h2.bn]; exact e6
          have em : R0 s 15 0 = nI (nt (s 15 0)) := e6
          have em2 : rx_up (R0 s) 16 (nt (s 15 0)) (nI r) 15 0 = nI (nt (s 15 0)) := e6
          have em3 : rx_up (rx_up (R0 s) 16 (nt (s 15 0)) (nI r)) 17 (nt (s 15 0)) (nI z) 15 0 = nI (nt (s 15 0)) := e6
          simp only [if_pos (nI_lt q2 (show 16 < 2 ^ 31 by decide)), if_neg q3, b_on n96, b_oc f1.h2, f1.f0, b_oa f1.h3 hr (show 4 < 2 ^ 31 by decide), f1.recA r hr, w1, b_ob, b_oc hB, h.fix.f1, b_oa f2.h4 q2 (show 16 < 2 ^ 31 by decide), b_oc f2.h2, ec2, nI_add, goes_11, b_10, if_false, em, b_og q2 (show 16 < 2 ^ 31 by decide), em2, em3, up_s, pk_sub (show 1 ≤ nt (s 15 0) + 1 by omega), Nat.add_sub_cancel]
          refine ⟨_, W, _, _, ⟨key, ?_⟩, rfl, ⟨Nat.le_refl _, by show cN c2 ≤ _; have := w2.2.2.2.1; omega, by show cZ c2 ≤ _; have := w2.2.2.2.2.1; omega⟩, Or.inl ⟨_, rfl, rfl, rfl⟩⟩
          generalize hn : nt (s 15 0) = n at *
          have s15 : sB (R0 s) n r z 15 0 = nI (n + 1) := up_s
          have cs : ∀ t, t < nt (sB (R0 s) n r z 15 0) → t = n ∨ (t ≠ n ∧ t < nt (s 15 0)) := by
            intro t ht
            rw [s15, nt_nI (by omega)] at ht
            omega
          have hF := hI.if n (by omega) q2
          refine ⟨⟨hI.i3, hI.i6, hI.i7, hI.i8, hI.i9, by rw [s15]; exact rg_of (by omega) (by decide), hI.i31, hI.i32, hI.i27⟩, hI.iw, fun t h1 h2 => ?_, fun t ht => ?_, fun t ht i hi => ?_, hI.iu, hI.iq, hI.il, ?_⟩
          · rw [s15, nt_nI (by omega)] at h1
            exact hI.if t (by omega) h2
          · rcases cs t ht with e | ⟨e, ht⟩
            · subst e
              have er : sB (R0 s) t r z 16 t = nI r := by show rx_up (R0 s) 16 t (nI r) 16 t = _; exact up_s
              have ez : sB (R0 s) t r z 17 t = nI z := by show rx_up (rx_up (R0 s) 16 t (nI r)) 17 t (nI z) 17 t = _; exact up_s
              unfold IB
              rw [er, ez, nt_nI (show r < 2 ^ 31 by omega)]
              refine ⟨rg_of hr (by decide), h8, rg_of hz (by decide), ?_, ?_, Or.inr (Or.inr (Or.inr ⟨hF.2.1, hF.2.2.2.2⟩)), fun w => ?_, fun k hk => Or.inl (hF.2.2.2.2 k hk), fun i hi _ => ?_, ?_⟩
              · show rg (s 18 t) 8; rw [hF.1]; exact rg_of (by decide) (by decide)
              · show rg (s 19 t) 9; rw [hF.2.1]; exact rg_of (by decide) (by decide)
              · have w : On (s 18 t) := w
                exact absurd hF.1 (on_ne w).1
              · show rg (s 21 (12 * t + i)) _
                have := (hI.i7 r hr).lt
                have hi : i < nt (s 7 r) := hi
                rw [hF.2.2.2.1 i (by omega)]; exact ⟨by rw [b_nt0], by rw [b_nt0]; omega⟩
              · show gs (W r) _ (nt (s 19 t)) ≤ 8
                rw [hF.2.1, b_nt0]; exact Nat.zero_le _
            · have er : sB (R0 s) n r z 16 t = s 16 t := by show rx_up (R0 s) 16 n (nI r) 16 t = _; rw [up_o e]; rfl
              have ez : sB (R0 s) n r z 17 t = s 17 t := by show rx_up (rx_up (R0 s) 16 n (nI r)) 17 n (nI z) 17 t = _; rw [up_o e]; rfl
              have b := hI.ib t (by omega)
              unfold IB at b ⊢
              rw [er, ez]; exact b
          · rcases cs t ht with e | ⟨e, ht⟩
            · subst e
              have hi : i < nt (s 19 t) := hi
              rw [hF.2.1, b_nt0] at hi; omega
            · have er : sB (R0 s) n r z 16 t = s 16 t := by show rx_up (R0 s) 16 n (nI r) 16 t = _; rw [up_o e]; rfl
              have b := hI.it t (by omega) i hi
              unfold IT ka at b ⊢
              rw [er]; exact b
          · have l := hI.ln
            rw [s15, nt_nI (by omega)]
            have hkn : ∀ i, i < kM K → kN K i < n := fun i hi => by have := l.2.1 i hi; omega
            refine ⟨l.1, fun i hi => by have := hkn i hi; show kN K i < n + 1; omega, l.2.2.1, fun t ht => ?_, l.2.2.2.2⟩
            by_cases e : t = n
            · subst e
              exact ⟨fun _ i hi => by have := hkn i hi; show kN K i ≠ t; omega, fun _ => hF.1⟩
            · exact l.2.2.2.1 t (by omega)
        · have q3 : nI 16 ≤ s 15 0 := by rw [e6]; exact nI_le (by omega) (by omega)
          simp only [if_neg (fun w => q2 ((nI_ltI (show nt (s 15 0) < 2 ^ 31 by omega) (show 16 < 2 ^ 31 by decide)).mp w)), if_pos q3, b_on n96, goes_10, b_ob, b_00, if_true]
          exact simx_13 ⟨h, hI⟩ rfl rfl
    · simp only [e1, e2, e3, e4, b_ob, b_oj, b_10, b_00, if_false, if_true, b_on n96, goes_0]
      exact simx_12 ⟨h, hI⟩ rfl rfl
  · simp only [e1, e2, b_ob, b_oj, b_10, b_00, if_false, if_true, b_on n96, goes_0]
    exact simx_12 ⟨h, hI⟩ rfl rfl
end BAT
