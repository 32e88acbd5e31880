/-! the questions -/
/-- how many of n are not 0 -/
def rn (x : Nat → Int32) (o : Nat) : Nat → Nat
  | 0 => 0
  | n + 1 => rn x o n + if x (o + n) = 0 then 0 else 1
theorem b_run_M {f t n : Nat} {s : rx_S} (ht : t < 16) (h4 : s 19 t = nI n) (hn : n ≤ 8) : ∀ (d i k : Nat), i + d = n → d < k → D_M_running_4 f (nI t) k (nI (rn (s 26) (8 * t) i)) (nI i) s = some (nI (rn (s 26) (8 * t) n), s) := by
  intro d
  induction d with
  | zero =>
    intro i k hi hk
    obtain ⟨k, rfl⟩ : ∃ k', k = k' + 1 := ⟨k - 1, by omega⟩
    have e : i = n := by omega
    subst e
    rw [D_M_running_4, b_og ht (by decide), h4, if_pos (Int32.le_refl _)]
  | succ d ih =>
    intro i k hi hk
    obtain ⟨k, rfl⟩ : ∃ k', k = k' + 1 := ⟨k - 1, by omega⟩
    have e := ih (i + 1) k (by omega) (by omega)
    rw [rn] at e
    rw [D_M_running_4, b_og ht (by decide), h4, if_neg (nI_ge (by omega) (by omega)), pk_mul, nI_add, b_og (by omega) (by decide), b_oj, nI_add]
    by_cases q : s 26 (8 * t + i) = 0
    · rw [if_pos q]; rw [if_pos q] at e; exact e
    · rw [if_neg q, nI_add]; rw [if_neg q] at e; exact e
theorem b_run_C {f t n : Nat} {K : kx} {c : cx_S} {s : rx_S} (h : CRep K c s) (ht : t < nt (s 15 0)) (h4 : s 19 t = nI n) (hn : n ≤ 8) : ∀ (d i k : Nat), i + d = n → d < k → D_B_countBegun_4 f (kB K t) k (nI (rn (s 26) (8 * t) i)) (nI i) c = some (nI (rn (s 26) (8 * t) n), c) := by
  have hb := h.bh t ht
  have h5 : cI c 21 (kB K t) 0 = nI n := by rw [h.b5 t ht]; exact h4
  have hnn : nt (s 19 t) = n := by rw [h4, nt_nI (by omega)]
  intro d
  induction d with
  | zero =>
    intro i k hi hk
    obtain ⟨k, rfl⟩ : ∃ k', k = k' + 1 := ⟨k - 1, by omega⟩
    have e : i = n := by omega
    subst e
    rw [D_B_countBegun_4, b_oc hb.2.1, h5, if_pos (Int32.le_refl _)]
  | succ d ih =>
    intro i k hi hk
    obtain ⟨k, rfl⟩ : ∃ k', k = k' + 1 := ⟨k - 1, by omega⟩
    have e := ih (i + 1) k (by omega) (by omega)
    rw [rn] at e
    have hT := h.th t ht i (by omega)
    rw [D_B_countBegun_4, b_oc hb.2.1, h5, if_neg (nI_ge (by omega) (by omega)), hb.2.2.2.1, b_oa hb.2.2.2.2.2.2.2.1 (by omega) (by decide), hT.1, b_oc hT.2, b_oj, nI_add, h.tb t ht i (by omega)]
    by_cases q : s 26 (8 * t + i) = 0
    · rw [if_pos q]; rw [if_pos q] at e; exact e
    · rw [if_neg q, nI_add]; rw [if_neg q] at e; exact e
theorem b_cntC {f t : Nat} {K : kx} {c : cx_S} {s : rx_S} (h : CRep K c s) (hf : 2 ^ 31 ≤ f) (ht : t < nt (s 15 0)) (h9 : rg (s 19 t) 9) : D_B_countBegun f (kB K t) c = some (nI (rn (s 26) (8 * t) (nt (s 19 t))), c) := by
  have hl := h9.lt
  unfold D_B_countBegun
  exact b_run_C h ht h9.eq (by omega) (nt (s 19 t)) 0 f (by omega) (by omega)
theorem b_cntM {f t : Nat} {s : rx_S} (hf : 2 ^ 31 ≤ f) (ht : t < 16) (h9 : rg (s 19 t) 9) : D_M_running f (nI t) s = some (nI (rn (s 26) (8 * t) (nt (s 19 t))), s) := by
  have hl := h9.lt
  unfold D_M_running
  exact b_run_M ht h9.eq (by omega) (nt (s 19 t)) 0 f (by omega) (by omega)
/-- a question's answer: alike, and nothing moved but 'thrown' -/
def Ask (a : Option (Int32 × cx_S)) (b : Option (Int32 × rx_S)) (c : cx_S) (s : rx_S) : Prop := ∃ x, a = some (x, c) ∧ b = some (x, rx_up s 0 0 (nI 0))
section QRY
variable {f : Nat} {K : kx} {c : cx_S} {s : rx_S}
theorem b_lots (h : CRep K c s) : Ask (D_H_lots f 2 c) (D_M_lots f s) c s := by
  unfold D_H_lots D_M_lots
  rw [b_oc h.fix.h2, h.fix.f6, b_oc h.fix.h14, h.ln]
  exact ⟨_, rfl, rfl⟩
theorem b_unitIs (h : CRep K c s) (hf : 2 ^ 31 ≤ f) (h3 : RN 6 101 (s 3)) (u w : Int32) : Ask (D_H_unitIs f 2 u w c) (D_M_unitIs f u w s) c s := by
  unfold D_H_unitIs D_M_unitIs
  rcases b_ix u (n := 6) (by decide) with ⟨u, hu, rfl⟩ | hu
  · have e1 := b_totC h hf hu (h3 u hu)
    have e2 := b_totM (f := f) (s := rx_up s 0 0 (nI 0)) hf hu (h3 u hu)
    simp only [b_below_t hu (by decide), b_in_t (show u ≤ 5 by omega) (by decide), b_ob, b_10, if_false, b_oc h.fix.h2, h.fix.f5, b_oa h.fix.h13 hu (by decide), h.fix.unA u hu, b_oc (h.fix.hUn u hu), b_og hu (by decide), h.uo u hu, h.ug u hu, h.uh u hu, e1, e2]
    by_cases w0 : w = nI 0
    · rw [if_pos w0, if_pos w0]; exact ⟨_, rfl, rfl⟩
    rw [if_neg w0, if_neg w0]
    by_cases w0 : w = nI 1
    · rw [if_pos w0, if_pos w0]; exact ⟨_, rfl, rfl⟩
    rw [if_neg w0, if_neg w0]
    by_cases w0 : w = nI 2
    · rw [if_pos w0, if_pos w0]; exact ⟨_, rfl, rfl⟩
    rw [if_neg w0, if_neg w0]
    by_cases w0 : w = nI 3
    · rw [if_pos w0, if_pos w0]; exact ⟨_, rfl, rfl⟩
    rw [if_neg w0, if_neg w0]
    exact ⟨_, rfl, rfl⟩
  · simp only [b_below_f hu, b_in_f (by decide) hu, b_ob, b_00, if_true]
    exact ⟨_, rfl, rfl⟩
theorem b_content (h : CRep K c s) (h3 : RN 6 101 (s 3)) (u i w : Int32) : Ask (D_H_content f 2 u i w c) (D_M_content f u i w s) c s := by
  unfold D_H_content D_M_content
  rcases b_ix u (n := 6) (by decide) with ⟨u, hu, rfl⟩ | hu
  · have g3 := (h3 u hu).lt
    have e3 : cI c 162 (22 + 3 * u) 0 = nI (nt (s 3 u)) := by rw [h.uh u hu]; exact (h3 u hu).eq
    have e4 : rx_up s 0 0 (nI 0) 3 u = nI (nt (s 3 u)) := (h3 u hu).eq
    simp only [b_below_t hu (by decide), b_in_t (show u ≤ 5 by omega) (by decide), b_ob, b_oj, b_10, if_false, b_oc h.fix.h2, h.fix.f5, b_oa h.fix.h13 hu (by decide), h.fix.unA u hu, b_oc (h.fix.hUn u hu), b_og hu (by decide), e3, e4]
    rcases b_ix i (n := nt (s 3 u)) (by omega) with ⟨i, hi, rfl⟩ | hi
    · simp only [b_oc h.fix.h2, h.fix.f5, b_oa h.fix.h13 hu (by decide), h.fix.unA u hu, b_oc (h.fix.hUn u hu), b_og hu (by decide), b_below_t hi (by omega), b_inm_t hi (by omega), b_ob, b_10, if_false, h.fix.lots u hu, h.fix.amts u hu, b_oa (h.fix.hLots u hu) (show i < 100 by omega) (by decide), b_oa (h.fix.hAmts u hu) (show i < 100 by omega) (by decide), h.ul u hu i hi, h.ua u hu i hi, pk_mul, nI_add, b_og (show 100 * u + i < 600 by omega) (by decide)]
      by_cases w0 : w = nI 0
      · subst w0
        simp only [b_oc h.fix.h2, h.fix.f5, b_oa h.fix.h13 hu (by decide), h.fix.unA u hu, b_oc (h.fix.hUn u hu), b_og hu (by decide), h.fix.lots u hu, b_oa (h.fix.hLots u hu) (show i < 100 by omega) (by decide), h.ul u hu i hi, b_in_t (show 0 ≤ 1 by omega) (by decide), b_ob, b_10, if_false, b_00, if_true]
        exact ⟨_, rfl, rfl⟩
      by_cases w1 : w = nI 1
      · subst w1
        simp only [b_oc h.fix.h2, h.fix.f5, b_oa h.fix.h13 hu (by decide), h.fix.unA u hu, b_oc (h.fix.hUn u hu), b_og hu (by decide), h.fix.amts u hu, b_oa (h.fix.hAmts u hu) (show i < 100 by omega) (by decide), h.ua u hu i hi, b_in_t (show 1 ≤ 1 by omega) (by decide), b_ob, b_10, if_false, if_true, w0]
        exact ⟨_, rfl, rfl⟩
      have hw : w < 0 ∨ nI 2 ≤ w := by
        rcases b_ix w (n := 2) (by decide) with ⟨j, hj, rfl⟩ | q
        · have : j = 0 ∨ j = 1 := by omega
          rcases this with rfl | rfl
          · exact absurd rfl w0
          · exact absurd rfl w1
        · exact q
      simp only [if_neg w0, if_neg w1, b_in_f (n := 1) (by decide) hw, b_ob, b_00, if_true]
      exact ⟨_, rfl, rfl⟩
    · simp only [b_below_f hi, b_inm_f (show nt (s 3 u) < 2 ^ 31 by omega) hi, b_ob, b_00, if_true]
      exact ⟨_, rfl, rfl⟩
  · simp only [b_below_f hu, b_in_f (by decide) hu, b_ob, b_oj, b_00, if_true]
    exact ⟨_, rfl, rfl⟩
theorem b_unitOf (h : CRep K c s) (h15 : rg (s 15 0) 17) (t r : Int32) : Ask (D_H_unitOf f 2 t r c) (D_M_unitOf f t r s) c s := by
  unfold D_H_unitOf D_M_unitOf
  have g := h15.lt
  have e3 : cI c 2 2 0 = nI (nt (s 15 0)) := by rw [h.bn]; exact h15.eq
  rcases b_ix t (n := nt (s 15 0)) (by omega) with ⟨t, ht, rfl⟩ | ht
  · have hb := h.bh t ht
    simp only [b_oc h.fix.h2, e3, b_below_t ht (by omega), b_isB_t (s := rx_up s 0 0 (nI 0)) h15 ht, b_ob, b_oj, b_10, if_false]
    rcases b_ix r (n := 3) (by decide) with ⟨r, hr, rfl⟩ | hr
    · simp only [b_oc h.fix.h2, h.fix.f1, b_oa h.fix.h4 (show t < 16 by omega) (by decide), (h.bh t ht).1, b_oc (h.bh t ht).2.1, b_og (show t < 16 by omega) (by decide), b_below_t hr (by decide), b_in_t (show r ≤ 2 by omega) (by decide), b_ob, b_10, if_false, hb.2.2.2.2.2.2.1, b_oa hb.2.2.2.2.2.2.2.2.2.2 hr (by decide), h.bo t ht r hr, pk_mul, nI_add, b_og (show 3 * t + r < 48 by omega) (by decide)]
      exact ⟨_, rfl, rfl⟩
    · simp only [b_below_f hr, b_in_f (n := 2) (by decide) hr, b_ob, b_00, if_true]
      exact ⟨_, rfl, rfl⟩
  · simp only [b_oc h.fix.h2, e3, b_below_f ht, b_isB_f (s := rx_up s 0 0 (nI 0)) h15 ht, b_ob, b_oj, b_00, if_true]
    exact ⟨_, rfl, rfl⟩
theorem b_batchIs (h : CRep K c s) (hf : 2 ^ 31 ≤ f) (h15 : rg (s 15 0) 17) (h19 : RN 16 9 (s 19)) (t w : Int32) : Ask (D_H_batchIs f 2 t w c) (D_M_batchIs f t w s) c s := by
  unfold D_H_batchIs D_M_batchIs
  have g := h15.lt
  have e3 : cI c 2 2 0 = nI (nt (s 15 0)) := by rw [h.bn]; exact h15.eq
  rcases b_ix t (n := nt (s 15 0)) (by omega) with ⟨t, ht, rfl⟩ | ht
  · have hb := h.bh t ht
    have e1 := b_cntC h hf ht (h19 t (by omega))
    have e2 := b_cntM (f := f) (s := rx_up s 0 0 (nI 0)) hf (show t < 16 by omega) (h19 t (by omega))
    simp only [b_oc h.fix.h2, e3, b_below_t ht (by omega), b_isB_t (s := rx_up s 0 0 (nI 0)) h15 ht, b_ob, b_oj, b_10, if_false, h.fix.f1, b_oa h.fix.h4 (show t < 16 by omega) (by decide), hb.1, b_oc hb.2.1, b_og (show t < 16 by omega) (by decide), h.b4 t ht, h.b1 t ht, h.b3 t ht, h.b5 t ht, e1, e2]
    by_cases w0 : w = nI 0
    · rw [if_pos w0, if_pos w0]; exact ⟨_, rfl, rfl⟩
    rw [if_neg w0, if_neg w0]
    by_cases w0 : w = nI 1
    · rw [if_pos w0, if_pos w0]; exact ⟨_, rfl, rfl⟩
    rw [if_neg w0, if_neg w0]
    by_cases w0 : w = nI 2
    · rw [if_pos w0, if_pos w0]; exact ⟨_, rfl, rfl⟩
    rw [if_neg w0, if_neg w0]
    by_cases w0 : w = nI 3
    · rw [if_pos w0, if_pos w0]; exact ⟨_, rfl, rfl⟩
    rw [if_neg w0, if_neg w0]
    by_cases w0 : w = nI 4
    · rw [if_pos w0, if_pos w0]; exact ⟨_, rfl, rfl⟩
    rw [if_neg w0, if_neg w0]
    exact ⟨_, rfl, rfl⟩
  · simp only [b_oc h.fix.h2, e3, b_below_f ht, b_isB_f (s := rx_up s 0 0 (nI 0)) h15 ht, b_ob, b_00, if_true]
    exact ⟨_, rfl, rfl⟩
theorem b_token (h : CRep K c s) (h15 : rg (s 15 0) 17) (h19 : RN 16 9 (s 19)) (t i : Int32) : Ask (D_H_token f 2 t i c) (D_M_token f t i s) c s := by
  unfold D_H_token D_M_token
  have g := h15.lt
  have e3 : cI c 2 2 0 = nI (nt (s 15 0)) := by rw [h.bn]; exact h15.eq
  rcases b_ix t (n := nt (s 15 0)) (by omega) with ⟨t, ht, rfl⟩ | ht
  · have hb := h.bh t ht
    have g9 := h19 t (by omega)
    have g9l := g9.lt
    have e4 : cI c 21 (kB K t) 0 = nI (nt (s 19 t)) := by rw [h.b5 t ht]; exact g9.eq
    have e5 : rx_up s 0 0 (nI 0) 19 t = nI (nt (s 19 t)) := g9.eq
    simp only [b_oc h.fix.h2, e3, b_below_t ht (by omega), b_isB_t (s := rx_up s 0 0 (nI 0)) h15 ht, b_ob, b_oj, b_10, if_false, h.fix.f1, b_oa h.fix.h4 (show t < 16 by omega) (by decide), hb.1, b_oc hb.2.1, b_og (show t < 16 by omega) (by decide), e4, e5]
    rcases b_ix i (n := nt (s 19 t)) (by omega) with ⟨i, hi, rfl⟩ | hi
    · have hT := h.th t ht i (by omega)
      simp only [b_oc h.fix.h2, h.fix.f1, b_oa h.fix.h4 (show t < 16 by omega) (by decide), (h.bh t ht).1, b_oc (h.bh t ht).2.1, b_og (show t < 16 by omega) (by decide), b_below_t hi (by omega), b_inm_t hi (by omega), b_ob, b_10, if_false, hb.2.2.2.1, b_oa hb.2.2.2.2.2.2.2.1 (show i < 8 by omega) (by decide), hT.1, b_oc hT.2, pk_mul, nI_add, b_og (show 8 * t + i < 128 by omega) (by decide), h.ta t ht i hi, h.tb t ht i hi]
      have e6 : rx_up s 0 0 (nI 0) 26 (8 * t + i) = s 26 (8 * t + i) := rfl
      rw [e6]
      by_cases q : s 26 (8 * t + i) = 0
      · rw [if_pos q, if_pos q]; exact ⟨_, rfl, rfl⟩
      · rw [if_neg q, if_neg q]; exact ⟨_, rfl, rfl⟩
    · simp only [b_below_f hi, b_inm_f (show nt (s 19 t) < 2 ^ 31 by omega) hi, b_ob, b_00, if_true]
      exact ⟨_, rfl, rfl⟩
  · simp only [b_oc h.fix.h2, e3, b_below_f ht, b_isB_f (s := rx_up s 0 0 (nI 0)) h15 ht, b_ob, b_oj, b_00, if_true]
    exact ⟨_, rfl, rfl⟩
end QRY
