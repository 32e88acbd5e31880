/-! the reference's ranges -/
def RN (n m : Nat) (x : Nat → Int32) : Prop := ∀ j, j < n → rg (x j) m
theorem rg.eq {x : Int32} {n : Nat} (h : rg x n) : x = nI (nt x) := h.1
theorem rg.lt {x : Int32} {n : Nat} (h : rg x n) : nt x < n := h.2
theorem b_nt0 : nt (nI 0) = 0 := by decide
theorem b_inm_t {f j n : Nat} {s : rx_S} (h : j < n) (hn : n < 2 ^ 31) : D_M_in f (nI j) (nI 0) (nI n - nI 1) s = some (nI 1, s) := by
  rw [pk_sub (by omega)]
  exact b_in_t (by omega) (by omega)
theorem b_inm_f {f n : Nat} {x : Int32} {s : rx_S} (hn : n < 2 ^ 31) (h : x < 0 ∨ nI n ≤ x) : D_M_in f x (nI 0) (nI n - nI 1) s = some (nI 0, s) := by
  by_cases h0 : n = 0
  · subst h0
    unfold D_M_in
    simp only [b_oj, ozb_0]
    by_cases hx : x < nI 0
    · rw [if_pos hx]
    · have h1 : (0 : Int32) ≤ x := Int32.not_lt.mp hx
      have e : nI 0 - nI 1 = (-1 : Int32) := by decide
      have h2 : (-1 : Int32) < x := Int32.lt_of_lt_of_le (by decide) h1
      rw [if_neg hx, e, if_pos h2]
  · rw [pk_sub (by omega)]
    exact b_in_f (by omega) (by rw [show n - 1 + 1 = n from by omega]; exact h)
theorem b_isB_t {f t : Nat} {s : rx_S} (hn : rg (s 15 0) 17) (h : t < nt (s 15 0)) : D_M_isBatch f (nI t) s = some (nI 1, s) := by
  unfold D_M_isBatch
  have h17 := hn.lt
  rw [hn.eq]
  simp only [b_inm_t h (show nt (s 15 0) < 2 ^ 31 by omega), b_ob, ozb_1]
theorem b_isB_f {f : Nat} {x : Int32} {s : rx_S} (hn : rg (s 15 0) 17) (h : x < 0 ∨ nI (nt (s 15 0)) ≤ x) : D_M_isBatch f x s = some (nI 0, s) := by
  unfold D_M_isBatch
  have h17 := hn.lt
  rw [hn.eq]
  simp only [b_inm_f (show nt (s 15 0) < 2 ^ 31 by omega) h, b_ob, ozb_0]
/-- the sum of n of x from o on -/
def sm (x : Nat → Int32) (o : Nat) : Nat → Int32
  | 0 => nI 0
  | n + 1 => sm x o n + x (o + n)
theorem b_total_C {f p a n : Nat} {c : cx_S} (h1 : cH c p = some (10, 0)) (h2 : cR c 164 p 0 = some a) (h3 : cH c a = some (400, 100)) (h4 : cI c 162 p 0 = nI n) (hn : n ≤ 100) : ∀ (d i k : Nat), i + d = n → d < k → D_U_total_4 f p k (sm (cI c 400 a) 0 i) (nI i) c = some (sm (cI c 400 a) 0 n, c) := by
  intro d
  induction d with
  | zero =>
    intro i k hi hk
    obtain ⟨k, rfl⟩ : ∃ k', k = k' + 1 := ⟨k - 1, by omega⟩
    have e : i = n := by omega
    subst e
    rw [D_U_total_4, b_oc h1, h4, if_pos (Int32.le_refl _)]
  | succ d ih =>
    intro i k hi hk
    obtain ⟨k, rfl⟩ : ∃ k', k = k' + 1 := ⟨k - 1, by omega⟩
    rw [D_U_total_4, b_oc h1, h4, if_neg (nI_ge (by omega) (by omega)), h2, b_oa h3 (by omega) (by decide), nI_add]
    have e : sm (cI c 400 a) 0 i + cI c 400 a i = sm (cI c 400 a) 0 (i + 1) := by rw [sm, Nat.zero_add]
    rw [e]
    exact ih (i + 1) k (by omega) (by omega)
theorem b_total_M {f u n : Nat} {s : rx_S} (hu : u < 6) (h4 : s 3 u = nI n) (hn : n ≤ 100) : ∀ (d i k : Nat), i + d = n → d < k → D_M_total_4 f (nI u) k (sm (s 5) (100 * u) i) (nI i) s = some (sm (s 5) (100 * u) n, s) := by
  intro d
  induction d with
  | zero =>
    intro i k hi hk
    obtain ⟨k, rfl⟩ : ∃ k', k = k' + 1 := ⟨k - 1, by omega⟩
    have e : i = n := by omega
    subst e
    rw [D_M_total_4, b_og hu (by decide), h4, if_pos (Int32.le_refl _)]
  | succ d ih =>
    intro i k hi hk
    obtain ⟨k, rfl⟩ : ∃ k', k = k' + 1 := ⟨k - 1, by omega⟩
    rw [D_M_total_4, b_og hu (by decide), h4, if_neg (nI_ge (by omega) (by omega)), pk_mul, nI_add, b_og (by omega) (by decide), nI_add]
    exact ih (i + 1) k (by omega) (by omega)
theorem sm_congr {x y : Nat → Int32} {o p n : Nat} (h : ∀ j, j < n → x (o + j) = y (p + j)) : sm x o n = sm y p n := by
  induction n with
  | zero => rfl
  | succ n ih => rw [sm, sm, ih (fun j hj => h j (by omega)), h n (by omega)]
theorem b_totC {f u : Nat} {K : kx} {c : cx_S} {s : rx_S} (h : CRep K c s) (hf : 2 ^ 31 ≤ f) (hu : u < 6) (h3 : rg (s 3 u) 101) : D_U_total f (22 + 3 * u) c = some (sm (s 5) (100 * u) (nt (s 3 u)), c) := by
  have hl := h3.lt
  unfold D_U_total
  have e := b_total_C (f := f) (h.fix.hUn u hu) (h.fix.amts u hu) (h.fix.hAmts u hu) (by rw [h.uh u hu]; exact h3.eq) (by omega) (nt (s 3 u)) 0 f (by omega) (by omega)
  have e2 : sm (cI c 400 (24 + 3 * u)) 0 (nt (s 3 u)) = sm (s 5) (100 * u) (nt (s 3 u)) := sm_congr (fun j hj => by rw [Nat.zero_add]; exact h.ua u hu j hj)
  rw [e2] at e
  exact e
theorem b_totM {f u : Nat} {s : rx_S} (hf : 2 ^ 31 ≤ f) (hu : u < 6) (h3 : rg (s 3 u) 101) : D_M_total f (nI u) s = some (sm (s 5) (100 * u) (nt (s 3 u)), s) := by
  have hl := h3.lt
  unfold D_M_total
  exact b_total_M hu h3.eq (by omega) (nt (s 3 u)) 0 f (by omega) (by omega)
