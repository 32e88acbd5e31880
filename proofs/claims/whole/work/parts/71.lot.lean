/-! lot, from -/
section LOT
variable {f : Nat} {K : kx} {W : Nat → Nat → Nat} {bd : Nat} {c : cx_S} {s : rx_S}
theorem b_oq {β : Type} {T a n : Nat} {c : cx_S} {k : Nat → Nat → Option β} (h : cH c a = some (T, n)) : oq T (some a) c k = k a n := by
  show oh (cH c a) T (k a) = _
  rw [h]
  show (if T = T then k a n else none) = _
  rw [if_pos rfl]
theorem b_place (h : CRep K c s) (hf : 2 ^ 31 ≤ f) {u : Nat} (hu : u < 6) (h3 : rg (s 3 u) 101) (l : Int32) : (D_U_placeOf f (22 + 3 * u) l c = some (-1, c) ∧ ∀ j, j < nt (s 3 u) → s 4 (100 * u + j) ≠ l) ∨ (∃ j, j < nt (s 3 u) ∧ D_U_placeOf f (22 + 3 * u) l c = some (nI j, c) ∧ s 4 (100 * u + j) = l ∧ ∀ k, k < j → s 4 (100 * u + k) ≠ l) := by
  have e3 : cI c 162 (22 + 3 * u) 0 = nI (nt (s 3 u)) := by rw [h.uh u hu]; exact h3.eq
  have l3 := h3.lt
  have key : ∀ d i k, i + d = nt (s 3 u) → d < k → (∀ j, j < i → s 4 (100 * u + j) ≠ l) → (D_U_placeOf_2 f (22 + 3 * u) l k (nI i) c = some (-1, c) ∧ ∀ j, j < nt (s 3 u) → s 4 (100 * u + j) ≠ l) ∨ (∃ j, j < nt (s 3 u) ∧ D_U_placeOf_2 f (22 + 3 * u) l k (nI i) c = some (nI j, c) ∧ s 4 (100 * u + j) = l ∧ ∀ k, k < j → s 4 (100 * u + k) ≠ l) := by
    intro d
    induction d with
    | zero =>
      intro i k hi hk hn
      obtain ⟨k, rfl⟩ : ∃ k', k = k' + 1 := ⟨k - 1, by omega⟩
      left
      rw [D_U_placeOf_2, b_oc (h.fix.hUn u hu), e3, if_pos (by rw [show i = nt (s 3 u) by omega]; exact Int32.le_refl _)]
      exact ⟨rfl, fun j hj => hn j (by omega)⟩
    | succ d ih =>
      intro i k hi hk hn
      obtain ⟨k, rfl⟩ : ∃ k', k = k' + 1 := ⟨k - 1, by omega⟩
      rw [D_U_placeOf_2, b_oc (h.fix.hUn u hu), e3, if_neg (nI_ge (by omega) (by omega)), h.fix.lots u hu, b_oa (h.fix.hLots u hu) (by omega) (by decide), h.ul u hu i (by omega), nI_add]
      by_cases q : s 4 (100 * u + i) = l
      · rw [if_pos q]
        exact Or.inr ⟨i, by omega, rfl, q, hn⟩
      · rw [if_neg q]
        refine ih (i + 1) k (by omega) (by omega) (fun j hj => ?_)
        by_cases e : j = i
        · rw [e]; exact q
        · exact hn j (by omega)
  exact key (nt (s 3 u)) 0 f (by omega) (by omega) (fun j hj => by omega)
/-- v and all of y where x is l -/
def selA (v : Int32) (x y : Nat → Int32) (o : Nat) (l : Int32) : Nat → Int32
  | 0 => v
  | n + 1 => if x (o + n) = l then selA v x y o l n + y (o + n) else selA v x y o l n
theorem selA_no {v l : Int32} {x y : Nat → Int32} {o n : Nat} (h : ∀ j, j < n → x (o + j) ≠ l) : selA v x y o l n = v := by
  induction n with
  | zero => rfl
  | succ n ih => rw [selA, if_neg (h n (by omega)), ih (fun j hj => h j (by omega))]
theorem selA_one {v l : Int32} {x y : Nat → Int32} {o n j : Nat} (hj : j < n) (hx : x (o + j) = l) (h : ∀ k, k < n → k ≠ j → x (o + k) ≠ l) : selA v x y o l n = v + y (o + j) := by
  induction n with
  | zero => omega
  | succ n ih =>
    rw [selA]
    by_cases e : j = n
    · subst e
      rw [if_pos hx, selA_no (fun k hk => h k (by omega) (by omega))]
    · rw [if_neg (h n (by omega) (fun z => e z.symm)), ih (by omega) (fun k hk hkj => h k (by omega) hkj)]
theorem amt_loop {u n : Nat} {v l : Int32} {k65 : Int32 → rx_S → Option (Int32 × rx_S)} (hu : u < 6) (h3 : s 3 u = nI n) (hn : n ≤ 100) : ∀ d i k, i + d = n → d < k → D_M_amount_13 f l (nI u) k65 k (selA v (s 4) (s 5) (100 * u) l i) (nI i) s = k65 (selA v (s 4) (s 5) (100 * u) l n) s := by
  intro d
  induction d with
  | zero =>
    intro i k hi hk
    obtain ⟨k, rfl⟩ : ∃ k', k = k' + 1 := ⟨k - 1, by omega⟩
    rw [D_M_amount_13, b_og hu (by decide), h3, if_pos (by rw [show i = n by omega]; exact Int32.le_refl _), show i = n by omega]
  | succ d ih =>
    intro i k hi hk
    obtain ⟨k, rfl⟩ : ∃ k', k = k' + 1 := ⟨k - 1, by omega⟩
    have e := ih (i + 1) k (by omega) (by omega)
    rw [selA] at e
    rw [D_M_amount_13, b_og hu (by decide), h3, if_neg (nI_ge (by omega) (by omega)), pk_mul, nI_add, b_og (by omega) (by decide), b_oj, nI_add]
    by_cases q : s 4 (100 * u + i) = l
    · rw [if_pos q]; rw [if_pos q] at e; exact e
    · rw [if_neg q]; rw [if_neg q] at e; exact e
theorem amt_both (h : CRep K c s) (hI : Iv K W bd s) (hf : 2 ^ 31 ≤ f) (l : Int32) : ∀ d i k k2 v, i + d = 6 → d < k → d < k2 → ∃ x, D_F_amountOf_4 f 12 l k v (nI i) c = some (x, c) ∧ D_M_amount_4 f l k2 v (nI i) s = some (x, s) := by
  intro d
  induction d with
  | zero =>
    intro i k k2 v hi hk hk2
    obtain ⟨k, rfl⟩ : ∃ k', k = k' + 1 := ⟨k - 1, by omega⟩
    obtain ⟨k2, rfl⟩ : ∃ k', k2 = k' + 1 := ⟨k2 - 1, by omega⟩
    have e : i = 6 := by omega
    subst e
    exact ⟨v, by rw [D_F_amountOf_4, if_pos (Int32.le_refl _)], by rw [D_M_amount_4, if_pos (Int32.le_refl _)]⟩
  | succ d ih =>
    intro i k k2 v hi hk hk2
    obtain ⟨k, rfl⟩ : ∃ k', k = k' + 1 := ⟨k - 1, by omega⟩
    obtain ⟨k2, rfl⟩ : ∃ k', k2 = k' + 1 := ⟨k2 - 1, by omega⟩
    have hu : i < 6 := by omega
    have h3 := hI.i3 i hu
    have h3l := h3.lt
    have iu := hI.iu i hu
    have em := amt_loop (f := f) (s := s) (v := v) (l := l) (k65 := fun v5 s6 => D_M_amount_4 f l k2 v5 (nI i + nI 1) s6) hu h3.eq (by omega) (nt (s 3 i)) 0 f (by omega) (by omega)
    rw [selA] at em
    rw [D_M_amount_4, if_neg (nI_ge hu (by decide)), em, D_F_amountOf_4, if_neg (nI_ge hu (by decide)), b_oc h.fix.h12, h.fix.f32, b_oa h.fix.h13 hu (by decide), h.fix.unA i hu, b_oc (h.fix.hUn i hu), D_U_amountOf, b_oc (h.fix.hUn i hu), nI_add]
    rcases b_place h hf hu h3 l with ⟨e1, e2⟩ | ⟨j, hj, e1, e2, e3⟩
    · rw [e1, b_ob, b_oj, if_pos rfl, b_ob, selA_no e2, Int32.add_comm v (nI 0), show nI 0 + v = v from Int32.zero_add v]
      exact ih (i + 1) k k2 v (by omega) (by omega) (by omega)
    · have nm : ¬ nI j = (-1 : Int32) := fun z => by
        have := nI_pos (n := j) (by omega)
        rw [z] at this; exact absurd (by decide) this
      rw [e1, b_ob, b_oj, if_neg nm, b_oc (h.fix.hUn i hu), h.fix.amts i hu, b_oa (h.fix.hAmts i hu) (by omega) (by decide), b_ob, h.ua i hu j hj, selA_one hj e2 (fun k hk hkj q => hkj (iu.2.1 k hk j hj (by rw [q, e2])))]
      exact ih (i + 1) k k2 _ (by omega) (by omega) (by omega)
theorem into_loop {lot : Nat} {w : Int32} {k60 : Int32 → rx_S → Option (Int32 × rx_S)} (h32 : rg (s 32 0) 5000) : ∀ d i k, i + d = nt (s 32 0) → d < k → D_M_lot_26 f (nI lot) w k60 k (nI (cn (s 36) lot i)) (nI i) s = k60 (nI (cn (s 36) lot (nt (s 32 0)))) s := by
  have e := h32.eq
  have l := h32.lt
  intro d
  induction d with
  | zero =>
    intro i k hi hk
    obtain ⟨k, rfl⟩ : ∃ k', k = k' + 1 := ⟨k - 1, by omega⟩
    rw [D_M_lot_26, if_pos (by rw [e, show i = nt (s 32 0) by omega]; exact Int32.le_refl _), show i = nt (s 32 0) by omega]
  | succ d ih =>
    intro i k hi hk
    obtain ⟨k, rfl⟩ : ∃ k', k = k' + 1 := ⟨k - 1, by omega⟩
    have e2 := ih (i + 1) k (by omega) (by omega)
    rw [cn] at e2
    rw [D_M_lot_26, if_neg (by rw [e]; exact nI_ge (by omega) (by omega)), b_og (by omega) (by decide), b_oj, nI_add]
    by_cases q : s 36 i = nI lot
    · rw [if_pos q, nI_add]; rw [if_pos q] at e2; exact e2
    · rw [if_neg q]; rw [if_neg q] at e2; exact e2
theorem row_le (hI : Iv K W bd s) {l : Nat} (hl : l < nt (s 31 0)) : rg (s 35 l) 5000 ∧ rg (s 35 (l + 1)) 5000 ∧ nt (s 35 l) ≤ nt (s 35 (l + 1)) := ⟨hI.il.2.1 l (by omega), hI.il.2.1 (l + 1) (by omega), hI.il.2.2.1 l hl⟩
theorem b_lot (h : St K W bd c s) (hf : 2 ^ 31 ≤ f) (x w : Int32) : Sim K W bd bd c s (D_H_lot f 2 x w c) (D_M_lot f x w s) := by
  obtain ⟨h, hI⟩ := h
  refine sim_ask ⟨h, hI⟩ ?_
  unfold D_H_lot D_M_lot
  have g := hI.i31
  have gl := g.lt
  have e3 : cI c 64 14 0 = nI (nt (s 31 0)) := by rw [h.ln]; exact g.eq
  have e4 : rx_up s 0 0 (nI 0) 31 0 = nI (nt (s 31 0)) := g.eq
  rcases inm_cases x (n := nt (s 31 0)) (by omega) f with ⟨l, hl, rfl, e1, e2⟩ | ⟨e1, e2⟩
  · obtain ⟨r1, r2, r3⟩ := row_le hI hl
    have lh := h.lh l hl
    have em := into_loop (f := f) (s := R0 s) (lot := l) (w := w) (k60 := fun v6 s7 => if w = nI 0 then og 100 (nI l) fun j8 => some (s7 33 j8, s7) else if w = nI 1 then og 100 (nI l) fun j9 => some (s7 34 j9, s7) else if w = nI 2 then ob (D_M_amount f (nI l) s7) fun x10 s11 => some (x10, s11) else if w = nI 3 then og 101 (nI l + (nI 1)) fun j12 => og 101 (nI l) fun j13 => some ((s7 35 j12) - (s7 35 j13), s7) else if w = nI 4 then some (v6, s7) else some ((-1), s7)) hI.i32 (nt (s 32 0)) 0 f (by show 0 + _ = nt (s 32 0); omega) (by have := hI.i32.lt; omega)
    obtain ⟨y, y1, y2⟩ := amt_both (f := f) (s := R0 s) h hI hf (nI l) 6 0 f f (nI 0) (by omega) (by omega) (by omega)
    have y1 : D_F_amountOf f 12 (nI l) c = some (y, c) := y1
    have y2 : D_M_amount f (nI l) (R0 s) = some (y, R0 s) := y2
    have em : D_M_lot_26 f (nI l) w _ f (nI 0) (nI 0) (R0 s) = _ := em
    simp only [b_oc h.fix.h2, h.fix.f6, b_oc h.fix.h14, e3, e4, e1, e2, b_ob, b_10, if_false, h.fix.f65, b_oa h.fix.h15 (show l < 100 by omega) (show 100 < 2 ^ 31 by decide), lh.1, b_oc lh.2.1, h.fix.f4, b_oc h.fix.h12, y1, lh.2.2.1, b_oq lh.2.2.2.2.1]
    rw [em]
    simp only [b_og (show l < 100 by omega) (show 100 < 2 ^ 31 by decide), nI_add, b_og (show l + 1 < 101 by omega) (show 101 < 2 ^ 31 by decide), b_og (show l < 101 by omega) (show 101 < 2 ^ 31 by decide), y2, b_ob, h.lb l hl, h.lt l hl, h.lu l hl]
    by_cases w0 : w = nI 0
    · rw [if_pos w0, if_pos w0]; exact ⟨_, rfl, rfl⟩
    rw [if_neg w0, if_neg w0]
    by_cases w0 : w = nI 1
    · rw [if_pos w0, if_pos w0]; exact ⟨_, rfl, rfl⟩
    rw [if_neg w0, if_neg w0]
    by_cases w0 : w = nI 2
    · rw [if_pos w0, if_pos w0]; exact ⟨_, rfl, rfl⟩
    rw [if_neg w0, if_neg w0]
    by_cases w0 : w = nI 3
    · rw [if_pos w0, if_pos w0]
      have e5 : R0 s 35 (l + 1) - R0 s 35 l = nI (pl (s 35) l) := by
        show s 35 (l + 1) - s 35 l = _
        rw [r2.eq, r1.eq, pk_sub r3]; rfl
      rw [e5]; exact ⟨_, rfl, rfl⟩
    rw [if_neg w0, if_neg w0]
    by_cases w0 : w = nI 4
    · rw [if_pos w0, if_pos w0]; exact ⟨_, rfl, rfl⟩
    rw [if_neg w0, if_neg w0]
    exact ⟨_, rfl, rfl⟩
  · simp only [b_oc h.fix.h2, h.fix.f6, b_oc h.fix.h14, e3, e4, e1, e2, b_ob, b_oj, b_10, b_00, if_false, if_true]
    exact ⟨_, rfl, rfl⟩
theorem b_from (h : St K W bd c s) (x y w : Int32) : Sim K W bd bd c s (D_H_from f 2 x y w c) (D_M_from f x y w s) := by
  obtain ⟨h, hI⟩ := h
  refine sim_ask ⟨h, hI⟩ ?_
  unfold D_H_from D_M_from
  have g := hI.i31
  have gl := g.lt
  have e3 : cI c 64 14 0 = nI (nt (s 31 0)) := by rw [h.ln]; exact g.eq
  have e4 : rx_up s 0 0 (nI 0) 31 0 = nI (nt (s 31 0)) := g.eq
  rcases inm_cases x (n := nt (s 31 0)) (by omega) f with ⟨l, hl, rfl, e1, e2⟩ | ⟨e1, e2⟩
  · obtain ⟨r1, r2, r3⟩ := row_le hI hl
    have r2l := r2.lt
    have lh := h.lh l hl
    have e5 : rx_up s 0 0 (nI 0) 35 (l + 1) - rx_up s 0 0 (nI 0) 35 l = nI (pl (s 35) l) := by
      show s 35 (l + 1) - s 35 l = _
      rw [r2.eq, r1.eq, pk_sub r3]; rfl
    have ple : pl (s 35) l = nt (s 35 (l + 1)) - nt (s 35 l) := rfl
    have e6 : rx_up s 0 0 (nI 0) 35 l = nI (nt (s 35 l)) := r1.eq
    simp only [b_oc h.fix.h2, h.fix.f6, b_oc h.fix.h14, e3, e4, e1, e2, b_ob, b_oj, b_10, if_false, h.fix.f65, b_oa h.fix.h15 (show l < 100 by omega) (show 100 < 2 ^ 31 by decide), lh.1, b_oc lh.2.1, lh.2.2.1, b_oq lh.2.2.2.2.1, nI_add, b_og (show l + 1 < 101 by omega) (show 101 < 2 ^ 31 by decide), b_og (show l < 101 by omega) (show 101 < 2 ^ 31 by decide), e5]
    rcases inm_cases y (n := pl (s 35) l) (by omega) f with ⟨j, hj, rfl, e7, e8⟩ | ⟨e7, e8⟩
    · simp only [e7, e8, b_ob, b_10, if_false, b_oc h.fix.h2, h.fix.f6, b_oc h.fix.h14, h.fix.f65, b_oa h.fix.h15 (show l < 100 by omega) (show 100 < 2 ^ 31 by decide), lh.1, b_oc lh.2.1, lh.2.2.1, lh.2.2.2.1, b_oa lh.2.2.2.2.1 hj (show pl (s 35) l < 2 ^ 31 by omega), b_oa lh.2.2.2.2.2 hj (show pl (s 35) l < 2 ^ 31 by omega), h.lp l hl j hj, h.lq l hl j hj, e6, nI_add, b_og (show nt (s 35 l) + j < 5000 by omega) (show 5000 < 2 ^ 31 by decide)]
      by_cases w0 : w = nI 0
      · subst w0
        simp only [b_in_t (show 0 ≤ 1 by omega) (show 1 < 2 ^ 31 by decide), b_ob, b_10, if_false, b_00, if_true, e6, nI_add, b_og (show nt (s 35 l) + j < 5000 by omega) (show 5000 < 2 ^ 31 by decide)]
        exact ⟨_, rfl, rfl⟩
      by_cases w1 : w = nI 1
      · subst w1
        simp only [b_in_t (show 1 ≤ 1 by omega) (show 1 < 2 ^ 31 by decide), b_ob, b_10, if_false, b_00, if_true, w0, e6, nI_add, b_og (show nt (s 35 l) + j < 5000 by omega) (show 5000 < 2 ^ 31 by decide)]
        exact ⟨_, rfl, rfl⟩
      have hw : w < 0 ∨ nI 2 ≤ w := by
        rcases b_ix w (n := 2) (by decide) with ⟨j, hj, rfl⟩ | q
        · have : j = 0 ∨ j = 1 := by omega
          rcases this with rfl | rfl
          · exact absurd rfl w0
          · exact absurd rfl w1
        · exact q
      simp only [if_neg w0, if_neg w1, b_in_f (n := 1) (by decide) hw, b_ob, b_00, if_true]
      exact ⟨_, rfl, rfl⟩
    · simp only [e7, e8, b_ob, b_oj, b_10, b_00, if_false, if_true]
      exact ⟨_, rfl, rfl⟩
  · simp only [b_oc h.fix.h2, h.fix.f6, b_oc h.fix.h14, e3, e4, e1, e2, b_ob, b_oj, b_10, b_00, if_false, if_true]
    exact ⟨_, rfl, rfl⟩
end LOT
