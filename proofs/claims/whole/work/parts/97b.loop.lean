/-! the law's loop, whole -/
theorem law_loop {f xl NB ZB : Nat} {xs : Nat → Int32} (hf : 2 ^ 31 ≤ f) (hx : xl ≤ 3072) : ∀ d i n c s o, xl < i + 6 + 6 * d → i ≤ 3072 → d < n → Lw NB ZB d c s → ∃ t9 : lx_S, D_W_law_23 f xl xs n (nI i) (c, s, o) = some (nI 1, t9) ∧ cN t9.1 ≤ NB ∧ cZ t9.1 ≤ ZB := by
  have fin : ∀ {d c s}, Lw NB ZB d c s → cN c ≤ NB ∧ cZ c ≤ ZB := fun {d c s} h => by
    obtain ⟨K, W, bd, -, -, -, b2, b3⟩ := h
    exact ⟨Nat.le_trans (Nat.le_trans (Nat.le_add_right _ _) (Nat.le_add_right _ _)) b2, Nat.le_trans (Nat.le_trans (Nat.le_add_right _ _) (Nat.le_add_right _ _)) b3⟩
  intro d
  induction d with
  | zero =>
    intro i n c s o h1 h2 hn hL
    obtain ⟨n, rfl⟩ : ∃ k', n = k' + 1 := ⟨n - 1, by omega⟩
    exact ⟨(c, s, o), law_end hx (by omega) (by omega), fin hL⟩
  | succ d ih =>
    intro i n c s o h1 h2 hn hL
    obtain ⟨n, rfl⟩ : ∃ k', n = k' + 1 := ⟨n - 1, by omega⟩
    by_cases z : xl < i + 6
    · exact ⟨(c, s, o), law_end hx z (by omega), fin hL⟩
    have nx : ∀ c2 s2 o2, Lw NB ZB d c2 s2 → ∃ t9 : lx_S, D_W_law_23 f xl xs n (nI (i + 6)) (c2, s2, o2) = some (nI 1, t9) ∧ cN t9.1 ≤ NB ∧ cZ t9.1 ≤ ZB := fun c2 s2 o2 q => ih (i + 6) n c2 s2 o2 (by omega) (by omega) (by omega) q
    obtain ⟨K, W, bd, hS, h30, b1, b2, b3⟩ := hL
    have hfix := hS.1.fix
    have bt : bd + 129280 + d * 129280 ≤ 66191360 := by
      rw [Nat.succ_mul] at b1
      exact Nat.le_trans (Nat.le_of_eq (by rw [Nat.add_assoc, Nat.add_comm 129280])) b1
    have bb : bd + d * 129280 ≤ 66191360 := Nat.le_trans (Nat.add_le_add_left (Nat.mul_le_mul_right _ (Nat.le_succ _)) _) b1
    have bs : bd + 129280 < 2 ^ 27 := Nat.lt_of_le_of_lt (Nat.le_trans (Nat.le_add_right _ _) bt) (by decide)
    have bs2 : bd < 2 ^ 31 := Nat.lt_of_le_of_lt (Nat.le_trans (Nat.le_add_right _ _) bb) (by decide)
    clear ih fin
    have xl31 : xl < 2 ^ 31 := Nat.lt_of_le_of_lt hx (by decide)
    have l1 : i + 1 < xl := by clear b1 b2 b3 bt bb; omega
    have l2 : i + 2 < xl := by clear b1 b2 b3 bt bb; omega
    have l3 : i + 3 < xl := by clear b1 b2 b3 bt bb; omega
    have l4 : i + 4 < xl := by clear b1 b2 b3 bt bb; omega
    have l5 : i + 5 < xl := by clear b1 b2 b3 bt bb; omega
    rw [D_W_law_23, if_neg (by
      rw [Int32.lt_iff_toInt_lt, pk_sub_toInt (by clear b1 b2 b3 bt bb; omega) (by decide), nI_toInt (by clear b1 b2 b3 bt bb; omega)]
      clear b1 b2 b3 bt bb
      omega), b_og (show i < xl by clear b1 b2 b3 bt bb; omega) (by clear b1 b2 b3 bt bb; omega), b_oj]
    dsimp only
    simp only [nI_add]
    by_cases e0 : (xs i &&& nI 31) = nI 0
    · rw [if_pos e0, b_og l1 xl31, b_og l2 xl31, b_oc hfix.h2]
      obtain ⟨x, K2, W2, c2, s2, a1, a2, a3, a4, a5⟩ := b_unit (f := f) hS (xs (i + 1)) (xs (i + 2))
      rw [a1, b_ob, a2, b_ob, if_pos rfl]
      exact nx _ _ _ (Lw_go a3 a4 a5 h30 bb b2 b3)
    rw [if_neg e0]
    by_cases e1 : (xs i &&& nI 31) = nI 1
    · rw [if_pos e1, b_og l1 xl31, b_og l2 xl31, b_og l3 xl31, b_oc hfix.h2]
      obtain ⟨x, K2, W2, c2, s2, a1, a2, a3, a4, a5⟩ := b_role (f := f) hS (xs (i + 1)) (xs (i + 2)) (xs (i + 3))
      rw [a1, b_ob, a2, b_ob, if_pos rfl]
      exact nx _ _ _ (Lw_go a3 a4 a5 h30 bb b2 b3)
    rw [if_neg e1]
    by_cases e2 : (xs i &&& nI 31) = nI 2
    · rw [if_pos e2, b_og l1 xl31, b_og l2 xl31, b_og l3 xl31, b_og l4 xl31, b_og l5 xl31, b_oc hfix.h2]
      obtain ⟨x, K2, W2, c2, s2, a1, a2, a3, a4, a5⟩ := b_step (f := f) hS (xs (i + 1)) (xs (i + 2)) (xs (i + 3)) (xs (i + 4)) (xs (i + 5))
      rw [a1, b_ob, a2, b_ob, if_pos rfl]
      exact nx _ _ _ (Lw_go a3 a4 a5 h30 bb b2 b3)
    rw [if_neg e2]
    by_cases e3 : (xs i &&& nI 31) = nI 3
    · rw [if_pos e3, b_og l1 xl31, b_og l2 xl31, b_og l3 xl31, b_og l4 xl31, b_oc hfix.h2]
      obtain ⟨x, K2, W2, c2, s2, a1, a2, a3, a4, a5⟩ := b_link (f := f) hS (xs (i + 1)) (xs (i + 2)) (xs (i + 3)) (xs (i + 4))
      rw [a1, b_ob, a2, b_ob, if_pos rfl]
      exact nx _ _ _ (Lw_go a3 a4 a5 h30 bb b2 b3)
    rw [if_neg e3]
    by_cases e4 : (xs i &&& nI 31) = nI 4
    · rw [if_pos e4, b_og l1 xl31, D_W_release]
      dsimp only
      rw [b_oc hfix.h2]
      obtain ⟨K2, W2, c2, s2, y, o2, a3, a4, a5, w1, w2, w3⟩ := wi_all (o := o) (b_release (f := f) hS hf (xs (i + 1)))
      rw [w1, b_ob]
      dsimp only
      rw [w2, b_ob, D_M_thrown, b_ob, if_pos rfl, b_oj]
      by_cases y0 : s2 0 0 = 0
      · rw [if_pos y0, if_pos ((lg_cmp_eq _ _).mpr (w3 y0))]
        exact nx _ _ _ (Lw_go a3 a4 a5 h30 bb b2 b3)
      · rw [if_neg y0]
        exact nx _ _ _ (Lw_go a3 a4 a5 h30 bb b2 b3)
    rw [if_neg e4]
    by_cases e5 : (xs i &&& nI 31) = nI 5
    · rw [if_pos e5, b_og l1 xl31, b_og l2 xl31, D_W_batch]
      dsimp only
      rw [b_oc hfix.h2]
      obtain ⟨K2, W2, c2, s2, y, o2, a3, a4, a5, w1, w2, w3⟩ := wi_all (o := o) (b_batch (f := f) hS hf (xs (i + 1)) (xs (i + 2)))
      rw [w1, b_ob]
      dsimp only
      rw [w2, b_ob, D_M_thrown, b_ob, if_pos rfl, b_oj]
      by_cases y0 : s2 0 0 = 0
      · rw [if_pos y0, if_pos ((lg_cmp_eq _ _).mpr (w3 y0))]
        exact nx _ _ _ (Lw_go a3 a4 a5 h30 bb b2 b3)
      · rw [if_neg y0]
        exact nx _ _ _ (Lw_go a3 a4 a5 h30 bb b2 b3)
    rw [if_neg e5]
    by_cases e6 : (xs i &&& nI 31) = nI 6
    · rw [if_pos e6, b_og l1 xl31, D_W_start]
      dsimp only
      rw [b_oc hfix.h2]
      obtain ⟨K2, W2, c2, s2, y, o2, a3, a4, a5, w1, w2, w3⟩ := wi_all (o := o) (b_start (f := f) hS hf bs2 h30 (xs (i + 1)))
      rw [w1, b_ob]
      dsimp only
      rw [w2, b_ob, D_M_thrown, b_ob, if_pos rfl, b_oj]
      by_cases y0 : s2 0 0 = 0
      · rw [if_pos y0, if_pos ((lg_cmp_eq _ _).mpr (w3 y0))]
        exact nx _ _ _ (Lw_go a3 a4 a5 h30 bb b2 b3)
      · rw [if_neg y0]
        exact nx _ _ _ (Lw_go a3 a4 a5 h30 bb b2 b3)
    rw [if_neg e6]
    by_cases e7 : (xs i &&& nI 31) = nI 7
    · rw [if_pos e7, b_oc hfix.h2]
      obtain ⟨x, K2, W2, c2, s2, a1, a2, a3, a4, a5⟩ := b_tick (f := f) hS hf bs h30
      rw [a1, b_ob, a2, b_ob, if_pos rfl]
      exact nx _ _ _ (Lw_go a3 a4 a5 h30 bt b2 b3)
    rw [if_neg e7]
    by_cases e8 : (xs i &&& nI 31) = nI 8
    · rw [if_pos e8, b_og l1 xl31, D_W_hold]
      dsimp only
      rw [b_oc hfix.h2]
      obtain ⟨K2, W2, c2, s2, y, a3, a4, a5, w1, w2⟩ := wv_all (o := o) (b_hold (f := f) hS (xs (i + 1)))
      rw [w1, b_ob]
      dsimp only
      rw [w2, b_ob, D_M_thrown, b_ob, if_pos rfl]
      exact nx _ _ _ (Lw_go a3 a4 a5 h30 bb b2 b3)
    rw [if_neg e8]
    by_cases e9 : (xs i &&& nI 31) = nI 9
    · rw [if_pos e9, b_og l1 xl31, D_W_restart]
      dsimp only
      rw [b_oc hfix.h2]
      obtain ⟨K2, W2, c2, s2, y, o2, a3, a4, a5, w1, w2, w3⟩ := wi_all (o := o) (b_restart (f := f) hS (xs (i + 1)))
      rw [w1, b_ob]
      dsimp only
      rw [w2, b_ob, D_M_thrown, b_ob, if_pos rfl, b_oj]
      by_cases y0 : s2 0 0 = 0
      · rw [if_pos y0, if_pos ((lg_cmp_eq _ _).mpr (w3 y0))]
        exact nx _ _ _ (Lw_go a3 a4 a5 h30 bb b2 b3)
      · rw [if_neg y0]
        exact nx _ _ _ (Lw_go a3 a4 a5 h30 bb b2 b3)
    rw [if_neg e9]
    by_cases e10 : (xs i &&& nI 31) = nI 10
    · rw [if_pos e10, b_og l1 xl31, D_W_stop]
      dsimp only
      rw [b_oc hfix.h2]
      obtain ⟨K2, W2, c2, s2, y, o2, a3, a4, a5, w1, w2, w3⟩ := wi_all (o := o) (b_stop (f := f) hS hf bs2 h30 (xs (i + 1)))
      rw [w1, b_ob]
      dsimp only
      rw [w2, b_ob, D_M_thrown, b_ob, if_pos rfl, b_oj]
      by_cases y0 : s2 0 0 = 0
      · rw [if_pos y0, if_pos ((lg_cmp_eq _ _).mpr (w3 y0))]
        exact nx _ _ _ (Lw_go a3 a4 a5 h30 bb b2 b3)
      · rw [if_neg y0]
        exact nx _ _ _ (Lw_go a3 a4 a5 h30 bb b2 b3)
    rw [if_neg e10]
    by_cases e11 : (xs i &&& nI 31) = nI 11
    · rw [if_pos e11, b_og l1 xl31, D_W_abort]
      dsimp only
      rw [b_oc hfix.h2]
      obtain ⟨K2, W2, c2, s2, y, a3, a4, a5, w1, w2⟩ := wv_all (o := o) (b_abort (f := f) hS hf bs2 h30 (xs (i + 1)))
      rw [w1, b_ob]
      dsimp only
      rw [w2, b_ob, D_M_thrown, b_ob, if_pos rfl]
      exact nx _ _ _ (Lw_go a3 a4 a5 h30 bb b2 b3)
    rw [if_neg e11]
    by_cases e12 : (xs i &&& nI 31) = nI 12
    · rw [if_pos e12, b_og l1 xl31, b_og l2 xl31, b_og l3 xl31, b_oc hfix.h2]
      obtain ⟨x, K2, W2, c2, s2, a1, a2, a3, a4, a5⟩ := b_measure (f := f) hS hf (xs (i + 1)) (xs (i + 2)) (xs (i + 3))
      rw [a1, b_ob, a2, b_ob, if_pos rfl]
      exact nx _ _ _ (Lw_go a3 a4 a5 h30 bb b2 b3)
    rw [if_neg e12]
    by_cases e13 : (xs i &&& nI 31) = nI 13
    · rw [if_pos e13, b_og l1 xl31, b_og l2 xl31, b_oc hfix.h2]
      obtain ⟨x, K2, W2, c2, s2, a1, a2, a3, a4, a5⟩ := sim_ask hS (b_batchIs (f := f) hS.1 hf hS.2.i15 hS.2.i19 (xs (i + 1)) (xs (i + 2)))
      rw [a1, b_ob, a2, b_ob, if_pos rfl]
      exact nx _ _ _ (Lw_go a3 a4 a5 h30 bb b2 b3)
    rw [if_neg e13]
    by_cases e14 : (xs i &&& nI 31) = nI 14
    · rw [if_pos e14, b_og l1 xl31, b_og l2 xl31, b_oc hfix.h2]
      obtain ⟨x, K2, W2, c2, s2, a1, a2, a3, a4, a5⟩ := sim_ask hS (b_token (f := f) hS.1 hS.2.i15 hS.2.i19 (xs (i + 1)) (xs (i + 2)))
      rw [a1, b_ob, a2, b_ob, if_pos rfl]
      exact nx _ _ _ (Lw_go a3 a4 a5 h30 bb b2 b3)
    rw [if_neg e14]
    by_cases e15 : (xs i &&& nI 31) = nI 15
    · rw [if_pos e15, b_og l1 xl31, b_og l2 xl31, b_oc hfix.h2]
      obtain ⟨x, K2, W2, c2, s2, a1, a2, a3, a4, a5⟩ := sim_ask hS (b_unitOf (f := f) hS.1 hS.2.i15 (xs (i + 1)) (xs (i + 2)))
      rw [a1, b_ob, a2, b_ob, if_pos rfl]
      exact nx _ _ _ (Lw_go a3 a4 a5 h30 bb b2 b3)
    rw [if_neg e15]
    by_cases e16 : (xs i &&& nI 31) = nI 16
    · rw [if_pos e16, b_og l1 xl31, b_og l2 xl31, b_oc hfix.h2]
      obtain ⟨x, K2, W2, c2, s2, a1, a2, a3, a4, a5⟩ := sim_ask hS (b_unitIs (f := f) hS.1 hf hS.2.i3 (xs (i + 1)) (xs (i + 2)))
      rw [a1, b_ob, a2, b_ob, if_pos rfl]
      exact nx _ _ _ (Lw_go a3 a4 a5 h30 bb b2 b3)
    rw [if_neg e16]
    by_cases e17 : (xs i &&& nI 31) = nI 17
    · rw [if_pos e17, b_og l1 xl31, b_og l2 xl31, b_og l3 xl31, b_oc hfix.h2]
      obtain ⟨x, K2, W2, c2, s2, a1, a2, a3, a4, a5⟩ := sim_ask hS (b_content (f := f) hS.1 hS.2.i3 (xs (i + 1)) (xs (i + 2)) (xs (i + 3)))
      rw [a1, b_ob, a2, b_ob, if_pos rfl]
      exact nx _ _ _ (Lw_go a3 a4 a5 h30 bb b2 b3)
    rw [if_neg e17]
    by_cases e18 : (xs i &&& nI 31) = nI 18
    · rw [if_pos e18, b_og l1 xl31, b_og l2 xl31, b_oc hfix.h2]
      obtain ⟨x, K2, W2, c2, s2, a1, a2, a3, a4, a5⟩ := b_lot (f := f) hS hf (xs (i + 1)) (xs (i + 2))
      rw [a1, b_ob, a2, b_ob, if_pos rfl]
      exact nx _ _ _ (Lw_go a3 a4 a5 h30 bb b2 b3)
    rw [if_neg e18]
    by_cases e19 : (xs i &&& nI 31) = nI 19
    · rw [if_pos e19, b_og l1 xl31, b_og l2 xl31, b_og l3 xl31, b_oc hfix.h2]
      obtain ⟨x, K2, W2, c2, s2, a1, a2, a3, a4, a5⟩ := b_from (f := f) hS (xs (i + 1)) (xs (i + 2)) (xs (i + 3))
      rw [a1, b_ob, a2, b_ob, if_pos rfl]
      exact nx _ _ _ (Lw_go a3 a4 a5 h30 bb b2 b3)
    rw [if_neg e19]
    by_cases e20 : (xs i &&& nI 31) = nI 20
    · rw [if_pos e20, b_og l1 xl31, b_og l2 xl31, b_oj]
      by_cases y : xs (i + 2) = 0
      · rw [if_pos y]
        dsimp only
        rw [b_og l3 xl31, b_oc hfix.h2]
        obtain ⟨x, K2, W2, c2, s2, a1, a2, a3, a4, a5⟩ := b_trace (f := f) hS hf (xs (i + 1)) (nI 0) (xs (i + 3))
        rw [a1, b_ob, b_oj, if_pos y]
        dsimp only
        rw [a2, b_ob, if_pos rfl]
        exact nx _ _ _ (Lw_go a3 a4 a5 h30 bb b2 b3)
      · rw [if_neg y]
        dsimp only
        rw [b_og l3 xl31, b_oc hfix.h2]
        obtain ⟨x, K2, W2, c2, s2, a1, a2, a3, a4, a5⟩ := b_trace (f := f) hS hf (xs (i + 1)) (nI 1) (xs (i + 3))
        rw [a1, b_ob, b_oj, if_neg y]
        dsimp only
        rw [a2, b_ob, if_pos rfl]
        exact nx _ _ _ (Lw_go a3 a4 a5 h30 bb b2 b3)
    rw [if_neg e20]
    by_cases e21 : (xs i &&& nI 31) = nI 21
    · rw [if_pos e21, b_oc hfix.h2]
      obtain ⟨x, K2, W2, c2, s2, a1, a2, a3, a4, a5⟩ := sim_ask hS (b_lots (f := f) hS.1)
      rw [a1, b_ob, a2, b_ob, if_pos rfl]
      exact nx _ _ _ (Lw_go a3 a4 a5 h30 bb b2 b3)
    rw [if_neg e21]
    exact nx _ _ _ ⟨K, W, bd, hS, h30, bb, Nat.le_trans (Nat.add_le_add_right (Nat.add_le_add_left (Nat.mul_le_mul_right _ (Nat.le_succ _)) _) _) b2, Nat.le_trans (Nat.add_le_add_right (Nat.add_le_add_left (Nat.mul_le_mul_right _ (Nat.le_succ _)) _) _) b3⟩
