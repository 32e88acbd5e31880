/-! a lot's amount comes into a unit -/
section ADD
variable {f : Nat} {W : Nat → Nat → Nat} {bd : Nat} {c : cx_S} {s : rx_S}
/-- only unit u's content changed -/
def Fu (u : Nat) (s s2 : rx_S) : Prop := (∀ k, k ≠ 3 → k ≠ 4 → k ≠ 5 → s2 k = s k) ∧ (∀ v, v ≠ u → s2 3 v = s 3 v) ∧ ∀ j, (j < 100 * u ∨ 100 * u + 100 ≤ j) → s2 4 j = s 4 j ∧ s2 5 j = s 5 j
def Fc (u : Nat) (c c2 : cx_S) : Prop := (∀ F p, ¬ (F = 400 ∧ (p = 23 + 3 * u ∨ p = 24 + 3 * u)) → ¬ (F = 162 ∧ p = 22 + 3 * u) → cI c2 F p = cI c F p) ∧ c2.2 = c.2
theorem Fu.rfl {u : Nat} {s : rx_S} : Fu u s s := ⟨fun _ _ _ _ => Eq.refl _, fun _ _ => Eq.refl _, fun _ _ => ⟨Eq.refl _, Eq.refl _⟩⟩
theorem Fu.tr {u : Nat} {s1 s2 : rx_S} (h : Fu u s s1) (g : Fu u s1 s2) : Fu u s s2 :=
  ⟨fun k a b c => by rw [g.1 k a b c, h.1 k a b c], fun v e => by rw [g.2.1 v e, h.2.1 v e], fun j hj => ⟨by rw [(g.2.2 j hj).1, (h.2.2 j hj).1], by rw [(g.2.2 j hj).2, (h.2.2 j hj).2]⟩⟩
theorem Fc.rfl {u : Nat} {c : cx_S} : Fc u c c := ⟨fun _ _ _ _ => Eq.refl _, Eq.refl _⟩
theorem Fc.tr {u : Nat} {c1 c2 : cx_S} (h : Fc u c c1) (g : Fc u c1 c2) : Fc u c c2 := ⟨fun F p a b => by rw [g.1 F p a b, h.1 F p a b], by rw [g.2, h.2]⟩
theorem Fc.ui {u p j F : Nat} {x : Int32} (h : (F = 400 ∧ (p = 23 + 3 * u ∨ p = 24 + 3 * u)) ∨ (F = 162 ∧ p = 22 + 3 * u)) : Fc u c (cx_ui c F p j x) := by
  refine ⟨fun F2 p2 a b => ?_, Eq.refl _⟩
  funext q
  rw [cI_ui, if_neg]
  rintro ⟨rfl, rfl, _⟩
  rcases h with h | h
  · exact a h
  · exact b h
theorem Fc.R {u : Nat} {c2 : cx_S} (h : Fc u c c2) : cR c2 = cR c := congrArg (fun z => z.1) h.2
theorem Fc.H {u : Nat} {c2 : cx_S} (h : Fc u c c2) : cH c2 = cH c := congrArg (fun z => z.2.1) h.2
theorem Fc.N {u : Nat} {c2 : cx_S} (h : Fc u c c2) : cN c2 = cN c := congrArg (fun z => z.2.2.1) h.2
theorem Fc.Z {u : Nat} {c2 : cx_S} (h : Fc u c c2) : cZ c2 = cZ c := congrArg (fun z => z.2.2.2) h.2
theorem IU_o {u v : Nat} {s2 : rx_S} (h : Fu u s s2) (e : v ≠ u) (hI : IU s v) (l : nt (s 3 v) ≤ 100) : IU s2 v ∧ tU s2 v = tU s v := by
  have e3 := h.2.1 v e
  have q : ∀ j, j < nt (s 3 v) → s2 4 (100 * v + j) = s 4 (100 * v + j) ∧ s2 5 (100 * v + j) = s 5 (100 * v + j) := fun j hj => h.2.2 _ (by omega)
  obtain ⟨a, b, c⟩ := hI
  refine ⟨?_, ?_⟩
  · unfold IU
    rw [e3, h.1 31 (by decide) (by decide) (by decide)]
    exact ⟨fun j hj => by rw [(q j hj).1]; exact a j hj, fun j hj k hk z => b j hj k hk (by rw [← (q j hj).1, ← (q k hk).1]; exact z), fun j hj => by rw [(q j hj).2]; exact c j hj⟩
  · unfold tU
    rw [e3]
    exact gs_congr (fun j hj => by rw [(q j hj).2])
def pL (s : rx_S) (u l : Nat) : Nat → Bool := fun j => decide (s 4 (100 * u + j) = nI l)
theorem pL_iff {u l j : Nat} : pL s u l j = true ↔ s 4 (100 * u + j) = nI l := by unfold pL; simp
theorem place_U (h : CU c s) {u l m : Nat} (hu : u < 6) (hm : s 3 u = nI m) (hm1 : m ≤ 100) : ∀ d v n, v + d = m → d < n →
    ((∀ w, v ≤ w → w < m → ¬ pL s u l w = true) → D_U_placeOf_2 f (22 + 3 * u) (nI l) n (nI v) c = some (-1, c)) ∧ ∀ j, v ≤ j → j < m → pL s u l j = true → (∀ w, v ≤ w → w < j → ¬ pL s u l w = true) → D_U_placeOf_2 f (22 + 3 * u) (nI l) n (nI v) c = some (nI j, c) := by
  have em : nt (s 3 u) = m := by rw [hm, nt_nI (by omega)]
  intro d
  induction d with
  | zero =>
    intro v n hv hn
    obtain ⟨n, rfl⟩ : ∃ k', n = k' + 1 := ⟨n - 1, by omega⟩
    refine ⟨fun _ => ?_, fun j h1 h2 => by omega⟩
    rw [D_U_placeOf_2, b_oc (h.fix.hUn u hu), h.uh u hu, hm, if_pos (by rw [show v = m by omega]; exact Int32.le_refl _)]
  | succ d ih =>
    intro v n hv hn
    obtain ⟨n, rfl⟩ : ∃ k', n = k' + 1 := ⟨n - 1, by omega⟩
    obtain ⟨i1, i2⟩ := ih (v + 1) n (by omega) (by omega)
    have e := h.ul u hu v (by omega)
    rw [D_U_placeOf_2, b_oc (h.fix.hUn u hu), h.uh u hu, hm, if_neg (nI_ge (by omega) (by omega)), h.fix.lots u hu, b_oa (h.fix.hLots u hu) (by omega) (by decide), e, nI_add]
    refine ⟨fun z => ?_, fun j h1 h2 h3 h4 => ?_⟩
    · rw [if_neg (fun w => z v (Nat.le_refl _) (by omega) (pL_iff.mpr w))]
      exact i1 (fun w w1 w2 => z w (by omega) w2)
    · by_cases q : j = v
      · rw [if_pos (by rw [← q]; exact pL_iff.mp h3), q]
      · rw [if_neg (fun w => h4 v (Nat.le_refl _) (by omega) (pL_iff.mpr w))]
        exact i2 j (by omega) h2 h3 (fun w w1 w2 => h4 w (by omega) w2)
theorem add_3M {u l m : Nat} {a : Int32} {kk : Int32 → rx_S → Option (Int32 × rx_S)} (hu : u < 6) (hm : s 3 u = nI m) (hm1 : m ≤ 100) : ∀ d v n, v + d = m → d < n →
    ((∀ w, v ≤ w → w < m → ¬ pL s u l w = true) → D_M_add_3 f (nI u) (nI l) a kk n (nI v) s = kk (nI m) s) ∧ ∀ j, v ≤ j → j < m → pL s u l j = true → (∀ w, v ≤ w → w < j → ¬ pL s u l w = true) → D_M_add_3 f (nI u) (nI l) a kk n (nI v) s = kk (nI j) s := by
  intro d
  induction d with
  | zero =>
    intro v n hv hn
    obtain ⟨n, rfl⟩ : ∃ k', n = k' + 1 := ⟨n - 1, by omega⟩
    refine ⟨fun _ => ?_, fun j h1 h2 => by omega⟩
    have e : v = m := by omega
    rw [D_M_add_3, b_og hu (by decide), hm, if_pos (by rw [e]; exact Int32.le_refl _), e]
  | succ d ih =>
    intro v n hv hn
    obtain ⟨n, rfl⟩ : ∃ k', n = k' + 1 := ⟨n - 1, by omega⟩
    obtain ⟨i1, i2⟩ := ih (v + 1) n (by omega) (by omega)
    rw [D_M_add_3, b_og hu (by decide), hm, if_neg (nI_ge (by omega) (by omega)), pk_mul, nI_add, b_og (by omega) (by decide), nI_add]
    refine ⟨fun z => ?_, fun j h1 h2 h3 h4 => ?_⟩
    · rw [if_neg (fun w => z v (Nat.le_refl _) (by omega) (pL_iff.mpr w))]
      exact i1 (fun w w1 w2 => z w (by omega) w2)
    · by_cases q : j = v
      · rw [if_pos (by rw [← q]; exact pL_iff.mp h3), q]
      · rw [if_neg (fun w => h4 v (Nat.le_refl _) (by omega) (pL_iff.mpr w))]
        exact i2 j (by omega) h2 h3 (fun w w1 w2 => h4 w (by omega) w2)
theorem up_5 {p u : Nat} {x y z w : Int32} : rx_up (rx_up (rx_up (rx_up s 4 p x) 5 p y) 3 u z) 5 p w = rx_up (rx_up (rx_up s 4 p x) 5 p w) 3 u z := by
  funext k j
  by_cases e3 : k = 3
  · subst e3
    rw [up_k (by decide)]
    by_cases e : j = u
    · rw [e, up_s, up_s]
    · rw [up_o e, up_o e]; rfl
  · by_cases e5 : k = 5
    · subst e5
      rw [up_k (k := 3) (by decide)]
      by_cases e : j = p
      · rw [e, up_s, up_s]
      · rw [up_o e, up_o e, up_k (by decide), up_o e]
    · rw [up_k e5, up_k e3, up_k e5, up_k e3, up_k e5]
theorem add_both (h : CU c s) (h3 : ∀ u, u < 6 → nt (s 3 u) ≤ 100) (hf : 2 ^ 31 ≤ f) {u l a m : Nat} (hu : u < 6) (hm : s 3 u = nI m) (hm1 : m ≤ 100) (hU : IU s u) (h31 : nt (s 31 0) ≤ 100) (hl : l < nt (s 31 0)) (ha : 1 ≤ a) (hb : ∀ j, j < m → nt (s 5 (100 * u + j)) + a < 2 ^ 31) (ha2 : a < 2 ^ 31) :
    ∃ c2 s2, D_U_add f (22 + 3 * u) (nI l) (nI a) c = some (0, c2) ∧ D_M_add f (nI u) (nI l) (nI a) s = some (0, s2) ∧ CU c2 s2 ∧ Fu u s s2 ∧ Fc u c c2 ∧ IU s2 u ∧ tU s2 u = tU s u + a ∧ rg (s2 3 u) 101 := by
  have em : nt (s 3 u) = m := by rw [hm, nt_nI (by omega)]
  obtain ⟨U1, U2, U3⟩ := hU
  rw [em] at U1 U2 U3
  have ap : (0 : Int32) < nI a := by
    have := nI_lt (show 0 < a by omega) ha2
    exact this
  unfold D_U_add D_M_add
  rw [if_pos ap, b_oc (h.fix.hUn u hu), D_U_placeOf]
  rcases least_F (pL s u l) m with z | ⟨j, z1, z2, z3⟩
  · -- a new one
    have m99 : m < 100 := by
      have := php_f (nt (s 31 0)) (m + 1) (fun i => if i = m then l else nt (s 4 (100 * u + i))) (fun i hi => by
        show (if i = m then l else nt (s 4 (100 * u + i))) < nt (s 31 0)
        by_cases e : i = m
        · rw [if_pos e]; exact hl
        · rw [if_neg e]; exact (U1 i (by omega)).lt) (fun i hi j hj e => by
        have e : (if i = m then l else nt (s 4 (100 * u + i))) = if j = m then l else nt (s 4 (100 * u + j)) := e
        by_cases e1 : i = m
        · rw [if_pos e1] at e
          by_cases e2 : j = m
          · omega
          · rw [if_neg e2] at e
            exact absurd (pL_iff.mpr (by rw [e]; exact (U1 j (by omega)).eq)) (z j (by omega))
        · rw [if_neg e1] at e
          by_cases e2 : j = m
          · rw [if_pos e2] at e
            exact absurd (pL_iff.mpr (by rw [← e]; exact (U1 i (by omega)).eq)) (z i (by omega))
          · rw [if_neg e2] at e
            exact U2 i (by omega) j (by omega) (by rw [(U1 i (by omega)).eq, (U1 j (by omega)).eq, e]))
      omega
    have c162 := h.uh u hu
    rw [hm] at c162
    rw [(place_U h hu hm hm1 m 0 f (by omega) (by omega)).1 (fun w _ hw => z w hw), b_ob, b_oj, if_pos rfl, b_oc (h.fix.hUn u hu), c162, if_neg (nI_ge m99 (by decide)), h.fix.lots u hu, b_oa (h.fix.hLots u hu) m99 (by decide)]
    rw [show cR (cx_ui c 400 (23 + 3 * u) m (nI l)) 164 (22 + 3 * u) 0 = some (24 + 3 * u) from h.fix.amts u hu, show cI (cx_ui c 400 (23 + 3 * u) m (nI l)) 162 (22 + 3 * u) 0 = nI m from c162, b_oa (h.fix.hAmts u hu) m99 (by decide), show cI (cx_ui (cx_ui c 400 (23 + 3 * u) m (nI l)) 400 (24 + 3 * u) m (nI a)) 162 (22 + 3 * u) 0 = nI m from c162, nI_add]
    rw [(add_3M hu hm hm1 m 0 f (by omega) (by omega)).1 (fun w _ hw => z w hw), b_og hu (by decide), b_oj, hm, if_pos rfl, pk_mul, nI_add, b_og (show 100 * u + m < 600 by omega) (by decide)]
    rw [show rx_up (rx_up s 4 (100 * u + m) (nI l)) 5 (100 * u + m) (nI 0) 3 u = nI m from hm, nI_add]
    dsimp only
    rw [b_og (show 100 * u + m < 600 by omega) (by decide), show ∀ y, rx_up (rx_up (rx_up s 4 (100 * u + m) (nI l)) 5 (100 * u + m) (nI 0)) 3 u y 5 (100 * u + m) = nI 0 from fun y => by
      show rx_up (rx_up s 4 (100 * u + m) (nI l)) 5 (100 * u + m) (nI 0) 5 (100 * u + m) = nI 0
      exact up_s, nI_add, Nat.zero_add, up_5]
    have h1 := u_lotin (x := nI l) h h3 hu m99
    have h2 := u_amt (s := rx_up s 4 (100 * u + m) (nI l)) (x := nI a) h1 h3 hu m99
    have e4 : ∀ i, i < m → rx_up (rx_up (rx_up s 4 (100 * u + m) (nI l)) 5 (100 * u + m) (nI a)) 3 u (nI (m + 1)) 4 (100 * u + i) = s 4 (100 * u + i) := fun i hi => by
      show rx_up s 4 (100 * u + m) (nI l) 4 (100 * u + i) = _
      exact up_o (by omega)
    have e4m : rx_up (rx_up (rx_up s 4 (100 * u + m) (nI l)) 5 (100 * u + m) (nI a)) 3 u (nI (m + 1)) 4 (100 * u + m) = nI l := by
      show rx_up s 4 (100 * u + m) (nI l) 4 (100 * u + m) = _
      exact up_s
    have e5 : ∀ i, i < m → rx_up (rx_up (rx_up s 4 (100 * u + m) (nI l)) 5 (100 * u + m) (nI a)) 3 u (nI (m + 1)) 5 (100 * u + i) = s 5 (100 * u + i) := fun i hi => by
      show rx_up (rx_up s 4 (100 * u + m) (nI l)) 5 (100 * u + m) (nI a) 5 (100 * u + i) = _
      rw [up_o (by omega)]; rfl
    have e5m : rx_up (rx_up (rx_up s 4 (100 * u + m) (nI l)) 5 (100 * u + m) (nI a)) 3 u (nI (m + 1)) 5 (100 * u + m) = nI a := by
      show rx_up (rx_up s 4 (100 * u + m) (nI l)) 5 (100 * u + m) (nI a) 5 (100 * u + m) = _
      exact up_s
    have e3 : rx_up (rx_up (rx_up s 4 (100 * u + m) (nI l)) 5 (100 * u + m) (nI a)) 3 u (nI (m + 1)) 3 u = nI (m + 1) := up_s
    have n3 : nt (rx_up (rx_up (rx_up s 4 (100 * u + m) (nI l)) 5 (100 * u + m) (nI a)) 3 u (nI (m + 1)) 3 u) = m + 1 := by rw [e3, nt_nI (by omega)]
    have h4 := u_held (s := rx_up (rx_up s 4 (100 * u + m) (nI l)) 5 (100 * u + m) (nI a)) (u := u) (x := nI (m + 1)) h2 (fun j hj => by
      rw [nt_nI (by omega)] at hj
      by_cases e : j = m
      · subst e
        refine ⟨?_, ?_⟩
        · rw [ui_o (by omega), ui_s]; exact e4m.symm
        · rw [ui_s]; exact e5m.symm
      · refine ⟨?_, ?_⟩
        · rw [ui_o (by omega), cI_ui, if_neg (fun w => e w.2.2)]
          exact (h.ul u hu j (by omega)).trans (e4 j (by omega)).symm
        · rw [cI_ui, if_neg (fun w => e w.2.2), ui_o (by omega)]
          exact (h.ua u hu j (by omega)).trans (e5 j (by omega)).symm)
    refine ⟨_, _, rfl, rfl, h4, ⟨fun k k3 k4 k5 => ?_, fun v e => ?_, fun j hj => ⟨?_, ?_⟩⟩, (Fc.ui (Or.inl ⟨rfl, Or.inl rfl⟩)).tr ((Fc.ui (Or.inl ⟨rfl, Or.inr rfl⟩)).tr (Fc.ui (Or.inr ⟨rfl, rfl⟩))), ⟨?_, ?_, ?_⟩, ?_, ?_⟩
    · funext j; rw [up_k k3, up_k k5, up_k k4]
    · rw [up_o e]; rfl
    · show rx_up s 4 (100 * u + m) (nI l) 4 j = _
      exact up_o (by omega)
    · show rx_up (rx_up s 4 (100 * u + m) (nI l)) 5 (100 * u + m) (nI a) 5 j = _
      rw [up_o (by omega)]; rfl
    · rw [n3]
      intro j hj
      show rg _ (nt (s 31 0))
      by_cases e : j = m
      · rw [e, e4m]; exact rg_of hl (by omega)
      · rw [e4 j (by omega)]; exact U1 j (by omega)
    · rw [n3]
      intro i hi j hj e
      by_cases e1 : i = m
      · rw [e1, e4m] at e
        by_cases e2 : j = m
        · omega
        · rw [e4 j (by omega)] at e
          exact absurd (pL_iff.mpr e.symm) (z j (by omega))
      · rw [e4 i (by omega)] at e
        by_cases e2 : j = m
        · rw [e2, e4m] at e
          exact absurd (pL_iff.mpr e) (z i (by omega))
        · rw [e4 j (by omega)] at e
          exact U2 i (by omega) j (by omega) e
    · rw [n3]
      intro j hj
      by_cases e : j = m
      · rw [e, e5m, nt_nI ha2]; exact ⟨⟨by rw [nt_nI ha2], by rw [nt_nI ha2]; exact ha2⟩, ha⟩
      · rw [e5 j (by omega)]; exact U3 j (by omega)
    · unfold tU
      rw [n3, gs, em, e5m, nt_nI ha2]
      rw [gs_congr (fun j hj => by rw [e5 j hj])]
    · rw [e3]; exact rg_of (by omega) (by decide)
  · -- one that is there
    rw [(place_U h hu hm hm1 m 0 f (by omega) (by omega)).2 j (Nat.zero_le _) z1 z2 (fun w _ hw => z3 w hw), b_ob, b_oj, if_neg (nI_m1 (by omega)), b_oc (h.fix.hUn u hu), h.fix.amts u hu, b_oa (h.fix.hAmts u hu) (by omega) (by decide), h.ua u hu j (by omega)]
    rw [(add_3M hu hm hm1 m 0 f (by omega) (by omega)).2 j (Nat.zero_le _) z1 z2 (fun w _ hw => z3 w hw), b_og hu (by decide), b_oj, hm, if_neg (by rw [nI_eq (by omega) (by omega)]; omega), pk_mul, nI_add]
    dsimp only
    rw [b_og (show 100 * u + j < 600 by omega) (by decide)]
    have ae := (U3 j z1).1.eq
    have hb1 := hb j z1
    have e5 : ∀ i, i ≠ j → rx_up s 5 (100 * u + j) (s 5 (100 * u + j) + nI a) 5 (100 * u + i) = s 5 (100 * u + i) := fun i e => up_o (by omega)
    have e5j : rx_up s 5 (100 * u + j) (s 5 (100 * u + j) + nI a) 5 (100 * u + j) = nI (nt (s 5 (100 * u + j)) + a) := by
      rw [up_s]
      rw [show s 5 (100 * u + j) + nI a = nI (nt (s 5 (100 * u + j))) + nI a by rw [← ae], nI_add]
    refine ⟨_, _, rfl, rfl, u_amt h h3 hu (by omega), ⟨fun k k3 k4 k5 => ?_, fun v e => rfl, fun q hq => ⟨rfl, up_o (by omega)⟩⟩, Fc.ui (Or.inl ⟨rfl, Or.inr rfl⟩), ⟨?_, ?_, ?_⟩, ?_, ?_⟩
    · funext q; rw [up_k k5]
    · show ∀ j, j < nt (s 3 u) → rg (s 4 (100 * u + j)) (nt (s 31 0))
      rw [em]; exact U1
    · show ∀ j, j < nt (s 3 u) → ∀ k, k < nt (s 3 u) → s 4 (100 * u + j) = s 4 (100 * u + k) → j = k
      rw [em]; exact U2
    · intro i hi
      have hi : i < nt (s 3 u) := hi
      rw [em] at hi
      by_cases e : i = j
      · rw [e, e5j, nt_nI hb1]
        exact ⟨⟨by rw [nt_nI hb1], by rw [nt_nI hb1]; exact hb1⟩, by omega⟩
      · rw [e5 i e]; exact U3 i hi
    · unfold tU
      have := gs_set (g := fun v => v) (x := fun j => nt (s 5 (100 * u + j))) (y := fun i => nt (rx_up s 5 (100 * u + j) (s 5 (100 * u + j) + nI a) 5 (100 * u + i))) (m := nt (s 3 u)) (j := j) (by omega) (fun k hk e => by
        show nt (rx_up s 5 (100 * u + j) (s 5 (100 * u + j) + nI a) 5 (100 * u + k)) = _
        rw [e5 k e])
      have e6 : nt (rx_up s 5 (100 * u + j) (s 5 (100 * u + j) + nI a) 5 (100 * u + j)) = nt (s 5 (100 * u + j)) + a := by rw [e5j, nt_nI hb1]
      show gs (fun v => v) (fun i => nt (rx_up s 5 (100 * u + j) (s 5 (100 * u + j) + nI a) 5 (100 * u + i))) (nt (s 3 u)) = _
      have this : gs (fun v => v) (fun i => nt (rx_up s 5 (100 * u + j) (s 5 (100 * u + j) + nI a) 5 (100 * u + i))) (nt (s 3 u)) + nt (s 5 (100 * u + j)) = gs (fun v => v) (fun j => nt (s 5 (100 * u + j))) (nt (s 3 u)) + nt (rx_up s 5 (100 * u + j) (s 5 (100 * u + j) + nI a) 5 (100 * u + j)) := this
      omega
    · show rg (s 3 u) 101
      rw [hm]; exact rg_of (by omega) (by decide)
end ADD
