/-! LEVEL B: the functions themselves. Small words and ranges. -/
theorem b_10 : (nI 1 = 0) = False := by simp; decide
theorem b_00 : (nI 0 = 0) = True := by simp; decide
theorem b_ob {α σ β : Type} {a : α} {s : σ} {k : α → σ → Option β} : ob (some (a, s)) k = k a s := rfl
theorem b_obn {α σ β : Type} {k : α → σ → Option β} : ob none k = none := rfl
theorem b_oj {α β : Type} {J : α} {k : α → β} : oj J k = k J := rfl
theorem b_ot {α β : Type} {v : α} {c : cx_S} {k : α → Option ((Nat ⊕ β) × cx_S)} : ot (Sum.inr v) c k = k v := rfl
theorem b_otx {α β : Type} {x : Nat} {c : cx_S} {k : α → Option ((Nat ⊕ β) × cx_S)} : ot (Sum.inl x) c k = some (.inl x, c) := rfl
theorem b_oc {β : Type} {ci p : Nat} {c : cx_S} {k : Nat → Option β} (h : cH c p = some (ci, 0)) : oc ci (some p) c k = k p := if_pos h
theorem b_oa {β : Type} {T a n j : Nat} {c : cx_S} {k : Nat → Nat → Option β} (h : cH c a = some (T, n)) (hj : j < n) (hn : n < 2 ^ 31) : oa T (some a) (nI j) c k = k a j := oa_ok h hj (by omega)
theorem b_og {β : Type} {n j : Nat} {k : Nat → Option β} (hj : j < n) (hn : n < 2 ^ 31) : og n (nI j) k = k j := og_nI hj (by omega)
theorem b_on {β : Type} {c : cx_S} {k : Option β} (h : 96 ≤ cN c) : on c k = k := if_pos ⟨by omega, Or.inr h⟩
theorem b_o2 {β : Type} {p : Nat} {k : Option β} (h : 2 ≤ p) : o2 (some p) k = k := if_neg (fun q => by rcases q with q | q <;> cases q <;> omega)
theorem b_o2n {β : Type} {k : Option β} : o2 none k = k := if_neg (fun q => by rcases q with q | q <;> cases q)
theorem cI_ui {c : cx_S} {F p j F2 p2 j2 : Nat} {x : Int32} : cI (cx_ui c F p j x) F2 p2 j2 = if F2 = F ∧ p2 = p ∧ j2 = j then x else cI c F2 p2 j2 := rfl
theorem cR_ui {c : cx_S} {F p j : Nat} {x : Int32} : cR (cx_ui c F p j x) = cR c := rfl
theorem cH_ui {c : cx_S} {F p j : Nat} {x : Int32} : cH (cx_ui c F p j x) = cH c := rfl
theorem cN_ui {c : cx_S} {F p j : Nat} {x : Int32} : cN (cx_ui c F p j x) = cN c := rfl
theorem cZ_ui {c : cx_S} {F p j : Nat} {x : Int32} : cZ (cx_ui c F p j x) = cZ c := rfl
theorem cI_ur {c : cx_S} {F p j : Nat} {x : Option Nat} : cI (cx_ur c F p j x) = cI c := rfl
theorem cR_ur {c : cx_S} {F p j F2 p2 j2 : Nat} {x : Option Nat} : cR (cx_ur c F p j x) F2 p2 j2 = if F2 = F ∧ p2 = p ∧ j2 = j then x else cR c F2 p2 j2 := rfl
theorem cH_ur {c : cx_S} {F p j : Nat} {x : Option Nat} : cH (cx_ur c F p j x) = cH c := rfl
theorem cN_ur {c : cx_S} {F p j : Nat} {x : Option Nat} : cN (cx_ur c F p j x) = cN c := rfl
theorem cZ_ur {c : cx_S} {F p j : Nat} {x : Option Nat} : cZ (cx_ur c F p j x) = cZ c := rfl
theorem cI_mk {c : cx_S} {k : Nat × Nat} {z F p j : Nat} : cI (cx_mk c k z) F p j = if p = cN c then 0 else cI c F p j := rfl
theorem cR_mk {c : cx_S} {k : Nat × Nat} {z F p j : Nat} : cR (cx_mk c k z) F p j = if p = cN c then none else cR c F p j := rfl
theorem cH_mk {c : cx_S} {k : Nat × Nat} {z p : Nat} : cH (cx_mk c k z) p = if p = cN c then some k else cH c p := rfl
theorem cN_mk {c : cx_S} {k : Nat × Nat} {z : Nat} : cN (cx_mk c k z) = cN c + 1 := rfl
theorem cZ_mk {c : cx_S} {k : Nat × Nat} {z : Nat} : cZ (cx_mk c k z) = cZ c + z := rfl
theorem b_up {s : rx_S} {k j k2 j2 : Nat} {x : Int32} : rx_up s k j x k2 j2 = if k2 = k ∧ j2 = j then x else s k2 j2 := by
  unfold rx_up
  by_cases h : k2 = k
  · rw [if_pos h]
    unfold upd
    by_cases h2 : j2 = j
    · rw [if_pos h2, if_pos ⟨h, h2⟩]
    · rw [if_neg h2, if_neg (fun q => h2 q.2), h]
  · rw [if_neg h, if_neg (fun q => h q.1)]
/-- in or out of [0, n) -/
theorem b_ix (x : Int32) {n : Nat} (hn : n < 2 ^ 31) : (∃ j, j < n ∧ x = nI j) ∨ (x < 0 ∨ nI n ≤ x) := by
  rcases pk_ix x hn with h | h | h
  · exact Or.inr (Or.inl h)
  · exact Or.inr (Or.inr h)
  · exact Or.inl h
theorem b_below_t {f j n : Nat} {c : cx_S} (h : j < n) (hn : n < 2 ^ 31) : D_H_isBelow f (nI j) (nI n) c = some (nI 1, c) := by
  unfold D_H_isBelow
  simp only [b_oj]
  rw [if_neg (nI_pos (by omega)), if_neg (nI_ge h hn), ozb_1]
theorem b_below_f {f n : Nat} {x : Int32} {c : cx_S} (h : x < 0 ∨ nI n ≤ x) : D_H_isBelow f x (nI n) c = some (nI 0, c) := by
  unfold D_H_isBelow
  simp only [b_oj, ozb_0]
  by_cases h0 : x < 0
  · rw [if_pos h0]
  · rw [if_neg h0, if_pos (h.resolve_left h0)]
theorem b_in_t {f j n : Nat} {s : rx_S} (h : j ≤ n) (hn : n < 2 ^ 31) : D_M_in f (nI j) (nI 0) (nI n) s = some (nI 1, s) := by
  unfold D_M_in
  simp only [b_oj]
  rw [if_neg (show ¬ nI j < nI 0 from nI_pos (by omega)), if_neg (fun q => absurd (nI_le h hn) (Int32.not_le.mpr q)), ozb_1]
theorem b_in_f {f n : Nat} {x : Int32} {s : rx_S} (hn : n + 1 < 2 ^ 31) (h : x < 0 ∨ nI (n + 1) ≤ x) : D_M_in f x (nI 0) (nI n) s = some (nI 0, s) := by
  unfold D_M_in
  simp only [b_oj, ozb_0]
  by_cases h0 : x < nI 0
  · rw [if_pos h0]
  · have h1 : nI (n + 1) ≤ x := h.resolve_left (fun q => h0 q)
    have h2 : nI n < x := Int32.lt_of_lt_of_le (nI_lt (Nat.lt_succ_self n) hn) h1
    rw [if_neg h0, if_pos h2]
