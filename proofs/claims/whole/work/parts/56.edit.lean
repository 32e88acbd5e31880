/-! both look alike at what is asked -/
abbrev R0 (s : rx_S) : rx_S := rx_up s 0 0 (nI 0)
section EDT
variable {f : Nat} {K : kx} {c : cx_S} {s : rx_S}
theorem ed_cases (h : CRep K c s) (x : Int32) : (∃ r, r < 4 ∧ x = nI r ∧ s 8 r = 0 ∧ D_H_isEditable f 2 x c = some (nI 1, c) ∧ D_M_isOpen f x (R0 s) = some (nI 1, R0 s)) ∨ (D_H_isEditable f 2 x c = some (nI 0, c) ∧ D_M_isOpen f x (R0 s) = some (nI 0, R0 s)) := by
  unfold D_H_isEditable D_M_isOpen
  rcases b_ix x (n := 4) (by decide) with ⟨r, hr, rfl⟩ | hr
  · simp only [b_below_t hr (by decide), b_in_t (show r ≤ 3 by omega) (by decide), b_ob, b_oj, b_10, b_00, if_false, if_true, b_oc h.fix.h2, h.fix.f0, b_oa h.fix.h3 hr (by decide), h.fix.recA r hr, b_oc (h.fix.hRec r hr), b_og hr (by decide), h.rr r hr]
    by_cases q : s 8 r = 0
    · left
      refine ⟨r, hr, rfl, q, ?_, ?_⟩
      · rw [if_pos q, ozb_1]
      · rw [if_pos (show R0 s 8 r = 0 from q), ozb_1]
    · right
      refine ⟨?_, ?_⟩
      · rw [if_neg q, ozb_0]
      · rw [if_neg (show ¬ R0 s 8 r = 0 from q), ozb_0]
  · right
    simp only [b_below_f hr, b_in_f (n := 3) (by decide) hr, b_ob, b_oj, b_10, b_00, if_false, if_true, ozb_0, and_self]
/-- below n there, in [0, n - 1] here -/
theorem in_cases (x : Int32) {n m : Nat} (hn : n = m + 1) (hm : m < 2 ^ 30) (f : Nat) : (∃ j, j < n ∧ x = nI j ∧ (∀ c, D_H_isBelow f x (nI n) c = some (nI 1, c)) ∧ ∀ s, D_M_in f x (nI 0) (nI m) s = some (nI 1, s)) ∨ ((∀ c, D_H_isBelow f x (nI n) c = some (nI 0, c)) ∧ ∀ s, D_M_in f x (nI 0) (nI m) s = some (nI 0, s)) := by
  subst hn
  rcases b_ix x (n := m + 1) (by omega) with ⟨j, hj, rfl⟩ | hj
  · exact Or.inl ⟨j, hj, rfl, fun c => b_below_t hj (by omega), fun s => b_in_t (by omega) (by omega)⟩
  · exact Or.inr ⟨fun c => b_below_f hj, fun s => b_in_f (by omega) hj⟩
theorem inm_cases (x : Int32) {n : Nat} (hm : n < 2 ^ 30) (f : Nat) : (∃ j, j < n ∧ x = nI j ∧ (∀ c, D_H_isBelow f x (nI n) c = some (nI 1, c)) ∧ ∀ s, D_M_in f x (nI 0) (nI n - nI 1) s = some (nI 1, s)) ∨ ((∀ c, D_H_isBelow f x (nI n) c = some (nI 0, c)) ∧ ∀ s, D_M_in f x (nI 0) (nI n - nI 1) s = some (nI 0, s)) := by
  rcases b_ix x (n := n) (by omega) with ⟨j, hj, rfl⟩ | hj
  · exact Or.inl ⟨j, hj, rfl, fun c => b_below_t hj (by omega), fun s => b_inm_t hj (by omega)⟩
  · exact Or.inr ⟨fun c => b_below_f hj, fun s => b_inm_f (by omega) hj⟩
theorem bat_cases (h : CRep K c s) (h15 : rg (s 15 0) 17) (x : Int32) : (∃ t, t < nt (s 15 0) ∧ t < 16 ∧ x = nI t ∧ D_H_isBelow f x (s 15 0) c = some (nI 1, c) ∧ ∀ s2 : rx_S, s2 15 0 = s 15 0 → D_M_isBatch f x s2 = some (nI 1, s2)) ∨ (D_H_isBelow f x (s 15 0) c = some (nI 0, c) ∧ ∀ s2 : rx_S, s2 15 0 = s 15 0 → D_M_isBatch f x s2 = some (nI 0, s2)) := by
  have g := h15.lt
  have e := h15.eq
  rcases b_ix x (n := nt (s 15 0)) (by omega) with ⟨t, ht, rfl⟩ | ht
  · refine Or.inl ⟨t, ht, by omega, rfl, ?_, fun s2 e2 => b_isB_t (by rw [e2]; exact h15) (by rw [e2]; exact ht)⟩
    rw [e]; exact b_below_t ht (by omega)
  · refine Or.inr ⟨?_, fun s2 e2 => b_isB_f (by rw [e2]; exact h15) (by rw [e2]; exact ht)⟩
    rw [e]; exact b_below_f ht
end EDT
