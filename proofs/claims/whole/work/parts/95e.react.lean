/-! a reaction, both sides -/
section REA
variable {f : Nat} {K : kx} {W : Nat → Nat → Nat} {bd : Nat} {c : cx_S} {s : rx_S}
abbrev cM1 (c : cx_S) (u m : Nat) : cx_S := cx_cp (cx_mk c (400, m) m) (cN c) (23 + 3 * u) m
abbrev cM2 (c : cx_S) (u m : Nat) : cx_S := cx_cp (cx_mk (cM1 c u m) (400, m) m) (cN c + 1) (24 + 3 * u) m
abbrev cM3 (c : cx_S) (u m p : Nat) : cx_S := cx_ur (cM1 c u m) 50 p 0 (some (cN c))
abbrev cM4 (c : cx_S) (u m p : Nat) : cx_S := cx_ur (cx_cp (cx_mk (cM3 c u m p) (400, m) m) (cN c + 1) (24 + 3 * u) m) 51 p 0 (some (cN c + 1))
theorem cp_I {a m p F q j : Nat} : cI (cx_cp c p a m) F q j = if F = 400 ∧ q = p ∧ j < m then cI c 400 a j else cI c F q j := rfl
theorem copy_C {a m : Nat} (h : cH c a = some (400, 100)) (ha : 2 ≤ a) (hm : m < 100) (hn : 96 ≤ cN c) : D_A_copyOf f (some a) (nI m) c = some (some (cN c), cx_cp (cx_mk c (400, m) m) (cN c) a m) := by
  unfold D_A_copyOf
  rw [b_o2 ha, b_oq h, if_pos (by decide), b_og hm (by decide), b_on hn]
theorem cM2_I {u m F p : Nat} (hp : p < cN c) : cI (cM2 c u m) F p = cI c F p := by
  funext j
  rw [cp_I, if_neg (by omega), cI_mk, if_neg (by show ¬ p = cN c + 1; omega), cp_I, if_neg (by omega), cI_mk, if_neg (by omega)]
theorem cM2_R {u m F p : Nat} (hp : p < cN c) : cR (cM2 c u m) F p = cR c F p := by
  funext j
  show cR (cx_mk (cM1 c u m) (400, m) m) F p j = _
  rw [cR_mk, if_neg (by show ¬ p = cN c + 1; omega)]
  show cR (cx_mk c (400, m) m) F p j = _
  rw [cR_mk, if_neg (by omega)]
theorem cM2_H {u m p : Nat} (hp : p < cN c) : cH (cM2 c u m) p = cH c p := by
  show cH (cx_mk (cM1 c u m) (400, m) m) p = _
  rw [cH_mk, if_neg (by show ¬ p = cN c + 1; omega)]
  show cH (cx_mk c (400, m) m) p = _
  rw [cH_mk, if_neg (by omega)]
theorem cM2_P {u m j : Nat} (hu : 23 + 3 * u < cN c) (hj : j < m) : cI (cM2 c u m) 400 (cN c) j = cI c 400 (23 + 3 * u) j := by
  rw [cp_I, if_neg (by omega), cI_mk, if_neg (by show ¬ cN c = cN c + 1; omega), cp_I, if_pos ⟨rfl, rfl, hj⟩, cI_mk, if_neg (by omega)]
theorem cM2_Q {u m j : Nat} (hu : 24 + 3 * u < cN c) (hj : j < m) : cI (cM2 c u m) 400 (cN c + 1) j = cI c 400 (24 + 3 * u) j := by
  rw [cp_I, if_pos ⟨rfl, rfl, hj⟩, cI_mk, if_neg (by show ¬ 24 + 3 * u = cN c + 1; omega), cp_I, if_neg (by omega), cI_mk, if_neg (by omega)]
theorem cM2_HP {u m : Nat} : cH (cM2 c u m) (cN c) = some (400, m) := by
  show cH (cx_mk (cM1 c u m) (400, m) m) (cN c) = _
  rw [cH_mk, if_neg (by show ¬ cN c = cN c + 1; omega)]
  show cH (cx_mk c (400, m) m) (cN c) = _
  rw [cH_mk, if_pos rfl]
theorem cM2_HQ {u m : Nat} : cH (cM2 c u m) (cN c + 1) = some (400, m) := by
  show cH (cx_mk (cM1 c u m) (400, m) m) (cN c + 1) = _
  rw [cH_mk, if_pos (show cN c + 1 = cN (cM1 c u m) from rfl)]
theorem cM4_I {u m p : Nat} : cI (cM4 c u m p) = cI (cM2 c u m) := rfl
theorem cM4_H {u m p : Nat} : cH (cM4 c u m p) = cH (cM2 c u m) := rfl
theorem cM4_R {u m p F : Nat} (h1 : F ≠ 50) (h2 : F ≠ 51) : cR (cM4 c u m p) F = cR (cM2 c u m) F := by
  funext q j
  rw [cR_ur, if_neg (fun z => h2 z.1)]
  show cR (cx_mk (cM3 c u m p) (400, m) m) F q j = cR (cx_mk (cM1 c u m) (400, m) m) F q j
  rw [cR_mk, cR_mk]
  show (if q = cN c + 1 then none else cR (cM3 c u m p) F q j) = if q = cN c + 1 then none else cR (cM1 c u m) F q j
  rw [cR_ur, if_neg (show ¬ (F = 50 ∧ q = p ∧ j = 0) from fun z => h1 z.1)]
theorem cM4_50 {u m p q : Nat} (hq : q < cN c) : cR (cM4 c u m p) 50 q 0 = if q = p then some (cN c) else cR c 50 q 0 := by
  rw [cR_ur, if_neg (by omega)]
  show cR (cx_mk (cM3 c u m p) (400, m) m) 50 q 0 = _
  rw [cR_mk, if_neg (by show ¬ q = cN c + 1; omega), cR_ur]
  by_cases e : q = p
  · rw [if_pos ⟨rfl, e, rfl⟩, if_pos e]
  · rw [if_neg (fun z => e z.2.1), if_neg e]
    show cR (cx_mk c (400, m) m) 50 q 0 = _
    rw [cR_mk, if_neg (by omega)]
theorem cM4_51 {u m p q : Nat} (hq : q < cN c) : cR (cM4 c u m p) 51 q 0 = if q = p then some (cN c + 1) else cR c 51 q 0 := by
  rw [cR_ur]
  by_cases e : q = p
  · rw [if_pos ⟨rfl, e, rfl⟩, if_pos e]
  · rw [if_neg (fun z => e z.2.1), if_neg e]
    show cR (cx_mk (cM3 c u m p) (400, m) m) 51 q 0 = _
    rw [cR_mk, if_neg (by show ¬ q = cN c + 1; omega), cR_ur, if_neg (by omega)]
    show cR (cx_mk c (400, m) m) 51 q 0 = _
    rw [cR_mk, if_neg (by omega)]
/-- the rows after a reaction -/
def row (s : rx_S) (u n k : Nat) (z : Nat → Int32) : Nat → Int32 := fun x => if n ≤ x then s k (100 * u + (x - n)) else z x
theorem uses_C (h : CRep K c s) {u m n p l : Nat} (hu : u < 6) (hm : s 3 u = nI m) (hm1 : m < 100) (h31 : s 31 0 = nI (l + 1)) (hl : l < 100) (hl4 : ∀ j, j < m → rg (s 4 (100 * u + j)) l) : ∀ d j k cj, j + d = m → d < k → (∀ F, F ≠ 52 → cI cj F = cI (cM2 c u m) F) → cj.2 = (cM4 c u m p).2 → (∀ q, q < l + 1 → cI cj 52 (kL K q) 0 = nI (cn (row s u n 4 (s 36)) q (n + j))) →
    ∃ c3, D_K_putInto_42 f 14 (some (22 + 3 * u)) k (nI j) cj = some (0, c3) ∧ (∀ F, F ≠ 52 → cI c3 F = cI (cM2 c u m) F) ∧ c3.2 = (cM4 c u m p).2 ∧ ∀ q, q < l + 1 → cI c3 52 (kL K q) 0 = nI (cn (row s u n 4 (s 36)) q (n + m)) := by
  have em : nt (s 3 u) = m := by rw [hm, nt_nI (by omega)]
  have n31 : nt (s 31 0) = l + 1 := by rw [h31, nt_nI (by omega)]
  have n96 := h.fix.n
  intro d
  induction d with
  | zero =>
    intro j k cj hj hk q1 q2 q3
    obtain ⟨k, rfl⟩ : ∃ k', k = k' + 1 := ⟨k - 1, by omega⟩
    have e : j = m := by omega
    subst e
    have qH : cH cj = cH (cM2 c u j) := congrArg (fun z => z.2.1) q2
    refine ⟨cj, ?_, q1, q2, q3⟩
    rw [D_K_putInto_42, b_oc (by rw [qH, cM2_H (by omega)]; exact h.fix.hUn u hu), q1 162 (by decide), cM2_I (by omega), h.uh u hu, hm, if_pos (Int32.le_refl _)]
  | succ d ih =>
    intro j k cj hj hk q1 q2 q3
    obtain ⟨k, rfl⟩ : ∃ k', k = k' + 1 := ⟨k - 1, by omega⟩
    have hjm : j < m := by omega
    have qH : cH cj = cH (cM2 c u m) := congrArg (fun z => z.2.1) q2
    have qR : ∀ F, F ≠ 50 → F ≠ 51 → cR cj F = cR (cM2 c u m) F := fun F h1 h2 => by
      have : cR cj = cR (cM4 c u m p) := congrArg (fun z => z.1) q2
      rw [this, cM4_R h1 h2]
    have lr := hl4 j hjm
    have le := lr.eq
    have ll := lr.lt
    generalize hlj : nt (s 4 (100 * u + j)) = lj at *
    have lh := h.lh lj (by omega)
    have lg := h.lg.1 lj (by omega)
    have c4 : cI cj 400 (23 + 3 * u) j = nI lj := by rw [q1 400 (by decide), cM2_I (by omega), h.ul u hu j (by omega)]; exact le
    rw [D_K_putInto_42, b_oc (by rw [qH, cM2_H (by omega)]; exact h.fix.hUn u hu), q1 162 (by decide), cM2_I (by omega), h.uh u hu, hm, if_neg (nI_ge hjm (by omega)), b_oc (by rw [qH, cM2_H (by omega)]; exact h.fix.h14), qR 163 (by decide) (by decide), cM2_R (by omega), h.fix.lots u hu, b_oa (by rw [qH, cM2_H (by omega)]; exact h.fix.hLots u hu) (by omega) (by decide), c4, qR 65 (by decide) (by decide), cM2_R (by omega), h.fix.f65, b_oa (by rw [qH, cM2_H (by omega)]; exact h.fix.h15) (by omega) (by decide), qR 406 (by decide) (by decide), cM2_R (by omega), lh.1, b_oc (by rw [qH, cM2_H lg.2.1]; exact lh.2.1), q3 lj (by omega), nI_add, nI_add]
    refine ih (j + 1) k _ (by omega) (by omega) (fun F hF => ?_) q2 (fun q hq => ?_)
    · funext a b; rw [ui_F hF, q1 F hF]
    · have rj : row s u n 4 (s 36) (n + j) = nI lj := by
        show (if n ≤ n + j then s 4 (100 * u + (n + j - n)) else s 36 (n + j)) = _
        rw [if_pos (by omega), show n + j - n = j by omega]; exact le
      rw [← Nat.add_assoc, cn, rj]
      by_cases e : q = lj
      · rw [e, ui_s, if_pos rfl]
      · rw [ui_o (fun z => e (h.lg.2.1 q (by omega) lj (by omega) z)), if_neg (by rw [nI_eq (by omega) (by omega)]; exact fun z => e z.symm)]
        exact q3 q hq
theorem react_34M {u m n : Nat} {x1 x4 : Int32} {kk : rx_S → Option (Int32 × rx_S)} (hu : u < 6) (hm : s 3 u = nI m) (hm1 : m ≤ 100) (hn : n + m < 5000) : ∀ d j k sj, j + d = m → d < k → (∀ q, q ≠ 32 → q ≠ 36 → q ≠ 37 → sj q = s q) → sj 32 0 = nI (n + j) → (∀ x, x < n + j → sj 36 x = row s u n 4 (s 36) x ∧ sj 37 x = row s u n 5 (s 37) x) → (∀ x, x ≠ 0 → sj 32 x = s 32 x) →
    ∃ s3, D_M_react_34 f (nI u) x1 x4 kk k (nI j) sj = kk s3 ∧ (∀ q, q ≠ 32 → q ≠ 36 → q ≠ 37 → s3 q = s q) ∧ s3 32 0 = nI (n + m) ∧ ∀ x, x < n + m → s3 36 x = row s u n 4 (s 36) x ∧ s3 37 x = row s u n 5 (s 37) x := by
  intro d
  induction d with
  | zero =>
    intro j k sj hj hk q1 q2 q3 q4
    obtain ⟨k, rfl⟩ : ∃ k', k = k' + 1 := ⟨k - 1, by omega⟩
    have e : j = m := by omega
    subst e
    exact ⟨sj, by rw [D_M_react_34, b_og hu (by decide), q1 3 (by decide) (by decide) (by decide), hm, if_pos (Int32.le_refl _)], q1, q2, q3⟩
  | succ d ih =>
    intro j k sj hj hk q1 q2 q3 q4
    obtain ⟨k, rfl⟩ : ∃ k', k = k' + 1 := ⟨k - 1, by omega⟩
    have hjm : j < m := by omega
    rw [D_M_react_34, b_og hu (by decide), q1 3 (by decide) (by decide) (by decide), hm, if_neg (nI_ge hjm (by omega)), pk_mul, nI_add (100 * u) j, b_og (show 100 * u + j < 600 by omega) (by decide), q2, b_og (show n + j < 5000 by omega) (by decide)]
    rw [show ∀ y, rx_up sj 36 (n + j) y 32 0 = nI (n + j) from fun y => q2, b_og (show n + j < 5000 by omega) (by decide), show ∀ y y2, rx_up (rx_up sj 36 (n + j) y) 37 (n + j) y2 32 0 = nI (n + j) from fun y y2 => q2, show ∀ y, rx_up sj 36 (n + j) y 5 (100 * u + j) = sj 5 (100 * u + j) from fun y => rfl, q1 4 (by decide) (by decide) (by decide), q1 5 (by decide) (by decide) (by decide), nI_add, nI_add]
    refine ih (j + 1) k _ (by omega) (by omega) (fun q h1 h2 h3 => ?_) up_s (fun x hx => ?_) (fun x hx => ?_)
    · funext x; rw [up_k h1, up_k h3, up_k h2, q1 q h1 h2 h3]
    · show rx_up sj 36 (n + j) (s 4 (100 * u + j)) 36 x = _ ∧ rx_up (rx_up sj 36 (n + j) (s 4 (100 * u + j))) 37 (n + j) (s 5 (100 * u + j)) 37 x = _
      by_cases e : x = n + j
      · rw [e, up_s, up_s]
        show s 4 (100 * u + j) = (if n ≤ n + j then s 4 (100 * u + (n + j - n)) else s 36 (n + j)) ∧ s 5 (100 * u + j) = (if n ≤ n + j then s 5 (100 * u + (n + j - n)) else s 37 (n + j))
        rw [if_pos (by omega), if_pos (by omega), show n + j - n = j by omega]
        exact ⟨rfl, rfl⟩
      · rw [up_o e, up_o e]
        exact q3 x (by omega)
    · rw [up_o hx]
      exact q4 x hx
theorem inv_parts {K2 : kx} {s2 : rx_S} {u l n m T : Nat} (hI : Iv K W bd s) (hs : ∀ k, (k ≠ 3 ∧ k ≠ 4 ∧ k ≠ 5 ∧ k ≠ 32 ∧ k ≠ 35 ∧ k ≠ 36 ∧ k ≠ 37) → s2 k = s k) (hu : u < 6) (h31 : s 31 0 = nI (l + 1)) (hl : l < 100) (hn : nt (s 32 0) = n) (hm : m ≤ l) (h3 : s2 3 u = nI 1) (h3o : ∀ v, v ≠ u → s2 3 v = s 3 v) (h4 : s2 4 (100 * u) = nI l) (h5 : s2 5 (100 * u) = nI T) (h45 : ∀ j, (j < 100 * u ∨ 100 * u + 100 ≤ j) → s2 4 j = s 4 j ∧ s2 5 j = s 5 j) (hT : tU s u = T) (hT1 : 1 ≤ T) (hT2 : T < 2 ^ 31)
    (h32 : s2 32 0 = nI (n + m)) (h35 : ∀ q, q ≤ l → s2 35 q = s 35 q) (h35l : s2 35 (l + 1) = nI (n + m)) (h35n : s 35 l = nI n) (hn2 : 2 * n ≤ l * (l - 1)) (h36 : ∀ x, x < n → s2 36 x = s 36 x) (h36m : ∀ j, j < m → rg (s2 36 (n + j)) l) (eN : kN K2 = kN K) (eM : kM K2 = kM K) : Iv K2 W bd s2 := by
  have e6 := hs 6 (by decide)
  have e7 := hs 7 (by decide)
  have e8 := hs 8 (by decide)
  have e9 := hs 9 (by decide)
  have e10 := hs 10 (by decide)
  have e11 := hs 11 (by decide)
  have e12 := hs 12 (by decide)
  have e13 := hs 13 (by decide)
  have e14 := hs 14 (by decide)
  have e15 := hs 15 (by decide)
  have e16 := hs 16 (by decide)
  have e17 := hs 17 (by decide)
  have e18 := hs 18 (by decide)
  have e19 := hs 19 (by decide)
  have e20 := hs 20 (by decide)
  have e21 := hs 21 (by decide)
  have e22 := hs 22 (by decide)
  have e23 := hs 23 (by decide)
  have e24 := hs 24 (by decide)
  have e25 := hs 25 (by decide)
  have e26 := hs 26 (by decide)
  have e27 := hs 27 (by decide)
  have e28 := hs 28 (by decide)
  have e29 := hs 29 (by decide)
  have e31 := hs 31 (by decide)
  have n31 : nt (s 31 0) = l + 1 := by rw [h31, nt_nI (by omega)]
  have l99 : l * (l - 1) ≤ 99 * 98 := Nat.mul_le_mul (by omega) (by omega)
  have nb : 2 * (n + m) ≤ (l + 1) * l := by
    have e : (l + 1) * l = l * (l - 1) + 2 * l := by
      cases l with
      | zero => rfl
      | succ l => rw [Nat.succ_sub_one, show l + 1 + 1 = l + 2 from rfl, Nat.add_mul, Nat.mul_comm (l + 1) l]
    omega
  have nm5 : n + m < 5000 := by
    have : (l + 1) * l ≤ 100 * 99 := Nat.mul_le_mul (by omega) (by omega)
    omega
  have tn : tU s2 u = T := by
    unfold tU
    rw [h3, nt_nI (by decide), gs, gs]
    show 0 + nt (s2 5 (100 * u)) = T
    rw [h5, nt_nI hT2]; omega
  have to : ∀ v, v < 6 → v ≠ u → tU s2 v = tU s v := fun v hv e => by
    unfold tU
    rw [h3o v e]
    have := (hI.i3 v hv).lt
    exact gs_congr (fun j hj => by rw [(h45 (100 * v + j) (by omega)).2])
  refine ⟨⟨fun v hv => ?_, by rw [e6]; exact hI.i6, by rw [e7]; exact hI.i7, by rw [e8]; exact hI.i8, by rw [e7, e9]; exact hI.i9, by rw [e15]; exact hI.i15, by rw [e31]; exact hI.i31, by rw [h32]; exact rg_of nm5 (by decide), by rw [e27]; exact hI.i27⟩, ?_, ?_, ?_, ?_, ?_, ?_, ?_, ?_⟩
  · by_cases e : v = u
    · rw [e, h3]; exact rg_of (by decide) (by decide)
    · rw [h3o v e]; exact hI.i3 v hv
  · have := hI.iw
    unfold IW SS zk za zb zn zo at this ⊢
    rw [e6, e7, e8, e9, e10, e11, e12, e13, e14]; exact this
  · have := hI.if
    unfold IF at this ⊢
    rw [e15, e18, e19, e20, e21, e22]; exact this
  · have := hI.ib
    unfold IB zk za at this ⊢
    rw [e6, e7, e8, e9, e10, e15, e16, e17, e18, e19, e21, e22, e23]; exact this
  · have := hI.it
    unfold IT ka at this ⊢
    rw [e7, e9, e15, e16, e19, e23, e24, e25, e26, e27, e31]; exact this
  · intro v hv
    by_cases e : v = u
    · subst e
      unfold IU
      rw [h3, nt_nI (by decide), e31, n31]
      refine ⟨fun j hj => ?_, fun j hj k hk _ => by omega, fun j hj => ?_⟩
      · have : j = 0 := by omega
        subst this
        show rg (s2 4 (100 * v)) (l + 1)
        rw [h4]; exact rg_of (by omega) (by omega)
      · have : j = 0 := by omega
        subst this
        show rg (s2 5 (100 * v)) (2 ^ 31) ∧ 1 ≤ nt (s2 5 (100 * v))
        rw [h5, nt_nI hT2]
        exact ⟨⟨by rw [nt_nI hT2], by rw [nt_nI hT2]; exact hT2⟩, hT1⟩
    · have q := hI.iu v hv
      have v3 := (hI.i3 v hv).lt
      have w : ∀ j, j < nt (s 3 v) → s2 4 (100 * v + j) = s 4 (100 * v + j) ∧ s2 5 (100 * v + j) = s 5 (100 * v + j) := fun j hj => h45 _ (by omega)
      unfold IU at q ⊢
      rw [h3o v e, e31]
      exact ⟨fun j hj => by rw [(w j hj).1]; exact q.1 j hj, fun j hj k hk z => q.2.1 j hj k hk (by rw [← (w j hj).1, ← (w k hk).1]; exact z), fun j hj => by rw [(w j hj).2]; exact q.2.2 j hj⟩
  · have z := hI.iq
    have all : ∀ v, v < 6 → tU s2 v = tU s v := fun v hv => by
      by_cases e : v = u
      · rw [e, tn, hT]
      · exact to v hv e
    rw [all 0 (by decide), all 1 (by decide), all 2 (by decide), all 3 (by decide), all 4 (by decide), all 5 (by decide)]
    exact z
  · obtain ⟨i1, i2, i3, i4, i5, i6⟩ := hI.il
    rw [n31] at i2 i3 i6
    unfold IL
    rw [e31, n31, h32]
    have nn : nt (nI (n + m)) = n + m := nt_nI (by omega)
    have n35 : nt (s 35 l) = n := by rw [h35n, nt_nI (by omega)]
    have le35 : ∀ d q, q + d = l → nt (s 35 q) ≤ n := by
      intro d
      induction d with
      | zero => intro q hq; rw [show q = l by omega, n35]; exact Nat.le_refl _
      | succ d ih =>
        intro q hq
        have := ih (q + 1) (by omega)
        have := i3 q (by omega)
        omega
    refine ⟨by rw [h35 0 (by omega)]; exact i1, fun q hq => ?_, fun q hq => ?_, h35l, by rw [nn]; exact nb, fun q hq j hj => ?_⟩
    · by_cases e : q = l + 1
      · rw [e, h35l]; exact rg_of nm5 (by decide)
      · rw [h35 q (by omega)]; exact i2 q (by omega)
    · by_cases e : q = l
      · rw [e, h35 l (by omega), h35l, nn, n35]; omega
      · rw [h35 q (by omega), h35 (q + 1) (by omega)]; exact i3 q (by omega)
    · by_cases e : q = l
      · subst e
        have pe : pl (s2 35) q = m := by
          unfold pl
          rw [h35 q (by omega), h35l, nn, n35]; omega
        rw [pe] at hj
        rw [h35 q (by omega), n35]; exact h36m j hj
      · have pe : pl (s2 35) q = pl (s 35) q := by
          unfold pl
          rw [h35 q (by omega), h35 (q + 1) (by omega)]
        rw [pe] at hj
        have b1 := le35 (l - (q + 1)) (q + 1) (by omega)
        have : pl (s 35) q = nt (s 35 (q + 1)) - nt (s 35 q) := rfl
        rw [h35 q (by omega), h36 _ (by omega)]
        exact i6 q (by omega) j hj
  · rw [e15, e18, e28, e29]
    have z := hI.ln
    unfold Lin NW nw at z ⊢
    rw [eN, eM]; exact z
end REA
