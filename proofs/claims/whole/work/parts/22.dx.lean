/-! The small words of the functions that decomp.py prints: none where an index is out of bounds, a divisor is 0, fuel is out. -/
def ob {α σ β : Type} (o : Option (α × σ)) (k : α → σ → Option β) : Option β := match o with
  | none => none
  | some w => k w.1 w.2
def og {β : Type} (n : Nat) (i : Int32) (k : Nat → Option β) : Option β := if 0 ≤ i.toInt ∧ i.toInt < (n : Int) then k i.toNatClampNeg else none
def od {β : Type} (y : Int32) (k : Option β) : Option β := if y = 0 then none else k
def ozb {β : Type} (x : Int32) (k : Option β) : Option β := if x = nI 0 ∨ x = nI 1 then k else none
def oj {α β : Type} (J : α) (k : α → β) : β := k J
theorem ob_some {α σ β : Type} {a : α} {s : σ} {k : α → σ → Option β} : ob (some (a, s)) k = k a s := rfl
theorem ob_inv {α σ β : Type} {o : Option (α × σ)} {k : α → σ → Option β} {w : β} (h : ob o k = some w) : ∃ a s, o = some (a, s) ∧ k a s = some w := by
  cases o with
  | none => exact absurd h (by simp [ob])
  | some v => exact ⟨v.1, v.2, rfl, h⟩
theorem og_nI {β : Type} {n j : Nat} {k : Nat → Option β} (hj : j < n) (hn : n ≤ 2 ^ 31) : og n (nI j) k = k j := by
  have h : j < 2 ^ 31 := by omega
  unfold og
  rw [if_pos (by rw [nI_toInt h]; omega), nI_clamp h]
theorem og_inv {β : Type} {n : Nat} {i : Int32} {k : Nat → Option β} {w : β} (hn : n ≤ 2 ^ 31) (h : og n i k = some w) : ∃ j, j < n ∧ i = nI j ∧ k j = some w := by
  unfold og at h
  split at h
  · next q =>
    have h0 : ¬ i < 0 := fun hlt => by
      have := Int32.lt_iff_toInt_lt.mp hlt
      have e : (0 : Int32).toInt = 0 := by decide
      omega
    obtain ⟨j, hj, rfl⟩ := nI_of h0
    rw [nI_clamp hj] at h
    rw [nI_toInt hj] at q
    exact ⟨j, by omega, rfl, h⟩
  · exact absurd h (by simp)
theorem od_inv {β : Type} {y : Int32} {k : Option β} {w : β} (h : od y k = some w) : ¬ y = 0 ∧ k = some w := by
  unfold od at h
  split at h
  · exact absurd h (by simp)
  · next q => exact ⟨q, h⟩
theorem ozb_inv {β : Type} {x : Int32} {k : Option β} {w : β} (h : ozb x k = some w) : (x = nI 0 ∨ x = nI 1) ∧ k = some w := by
  unfold ozb at h
  split at h
  · next q => exact ⟨q, h⟩
  · exact absurd h (by simp)
theorem ozb_0 {β : Type} {k : Option β} : ozb (nI 0) k = k := if_pos (Or.inl rfl)
theorem ozb_1 {β : Type} {k : Option β} : ozb (nI 1) k = k := if_pos (Or.inr rfl)
theorem ozb_nar {x : Int32} (h : x = nI 0 ∨ x = nI 1) : narrow .boolean (.int x) = .int x := by
  rcases h with rfl | rfl <;> rfl
theorem ozb_vn {x : Int32} (h : x = nI 0 ∨ x = nI 1) : vp_nar .boolean x = x := by
  rcases h with rfl | rfl <;> rfl
theorem ozb_fits {x : Int32} (h : x = nI 0 ∨ x = nI 1) : fits .boolean (.int x) = true := by
  rcases h with rfl | rfl <;> rfl
theorem oj_step {α β : Type} {J : α} {k : α → β} {w : β} {P : α → Prop} {C : Prop} (h : oj J k = w) (h1 : P J) (h2 : ∀ J, P J → k J = w → C) : C := h2 J h1 h
theorem ox_i {σ : Type} {Q : bm_R → σ → Prop} {x r : Int32} {s s9 : σ} (hq : Q (.inl (some (.int r))) s9) (h : some (x, s) = some (r, s9)) : Q (.inl (some (.int x))) s := by
  cases h; exact hq
theorem ox_v {σ : Type} {Q : bm_R → σ → Prop} {x r : Int32} {s s9 : σ} (hq : Q (.inl none) s9) (h : some (x, s) = some (r, s9)) : Q (.inl none) s := by
  cases h; exact hq
theorem ox_p1 (x : Int32) : x + Int32.ofInt 1 = x + nI 1 := congrArg (x + ·) (by decide)
theorem ox_m1 (x : Int32) : x + Int32.ofInt (-1) = x - nI 1 := by
  rw [show Int32.ofInt (-1) = - nI 1 from by decide, Int32.sub_eq_add_neg]
theorem sw_out {x : Int32} (n : Nat) (hn : n < 2 ^ 31) (h : ∀ j, j ≤ n → ¬ x = nI j) : x.toInt < 0 ∨ (n : Int) < x.toInt := by
  by_cases h0 : x < 0
  · left
    have := Int32.lt_iff_toInt_lt.mp h0
    have e : (0 : Int32).toInt = 0 := by decide
    omega
  · obtain ⟨j, hj, rfl⟩ := nI_of h0
    right
    rw [nI_toInt hj]
    by_cases q : j ≤ n
    · exact absurd rfl (h j q)
    · omega
section DX
variable {G : bm_G} {M K : bm_M} {pc : Nat} {L L' : bm_L} {st : List Value} {s : rx_S} {Q : bm_R → rx_S → Prop}
theorem rx_iincP {i : Nat} {x : Int32} (hd : decode M.2.1 pc = .ok (.iinc i 1, 3)) (hn : i < M.2.2.1) (hl : L[i]? = some (some (.int x))) (k : rx G M (pc + 3) (L.set i (some (.int (x + nI 1)))) st s Q) : rx G M pc L st s Q := rx_iinc hd hn hl (by rw [ox_p1]; exact k)
theorem rx_iincM {i : Nat} {x : Int32} (hd : decode M.2.1 pc = .ok (.iinc i (-1), 3)) (hn : i < M.2.2.1) (hl : L[i]? = some (some (.int x))) (k : rx G M (pc + 3) (L.set i (some (.int (x - nI 1)))) st s Q) : rx G M pc L st s Q := rx_iinc hd hn hl (by rw [ox_m1]; exact k)
theorem rx_tab {d hi : Int} {offs : Array Int} {len : Nat} {x : Int32} {off : Int} {tgt : Nat} (hd : decode M.2.1 pc = .ok (.tableswitch d 0 hi offs, len)) (i : Nat) (hx : x = nI i) (hi1 : i < 2 ^ 31) (h2 : ¬ hi < (i : Int)) (ho : offs[i]? = some off) (ht : (pc : Int) + off = (tgt : Int)) (k : rx G M tgt L st s Q) : rx G M pc L (.int x :: st) s Q := by
  subst hx
  refine rx_tableIn hd ?_ ?_ (off := off) ?_ ht k
  · rw [nI_toInt hi1]; omega
  · rw [nI_toInt hi1]; exact h2
  · rw [nI_toInt hi1]
    rw [show ((i : Int) - 0).toNat = i from by omega]
    exact ho
end DX
