/-! a token's work: the reference's by kinds, and what follows the work -/
section GON
variable {f : Nat} {K : kx} {W : Nat → Nat → Nat} {bd bd2 : Nat} {c : cx_S} {s s2 : rx_S}
def o01 (x : Int32) : Int32 := if x = 0 then nI 1 else nI 0
theorem ozb_o {A : Int32} {S : rx_S} : (if A = 0 then ozb (nI 1) (some (nI 1, S)) else ozb (nI 0) (some (nI 0, S))) = some (o01 A, S) := by
  unfold o01
  by_cases h : A = 0
  · rw [if_pos h, if_pos h, ozb_1]
  · rw [if_neg h, if_neg h, ozb_0]
theorem z10_t {x : Int32} (h : nI 10 ≤ x) : z10 x = nI 10 := if_pos h
theorem z10_f {x : Int32} (h : ¬ nI 10 ≤ x) : z10 x = x := if_neg h
section WKS
theorem works_0 {t i r a k : Nat} (t16 : t < 16) (i8 : i < 8) (e16 : s 16 t = nI r) (r4 : r < 4) (e23 : s 23 (8 * t + i) = nI a) (a12 : a < 12) (e10 : s 10 (12 * r + a) = nI k) (k3 : k < 3) (kd : s 9 (12 * r + a) = nI 0) : D_M_works f (nI t) (nI i) s = if z10 (s 24 (8 * t + i)) ≤ 0 then some (o01 (s 24 (8 * t + i) - z10 (s 24 (8 * t + i))), rx_up s 24 (8 * t + i) (s 24 (8 * t + i) - z10 (s 24 (8 * t + i)))) else ob (D_M_add f (s 22 (3 * t + k)) (s 25 (8 * t + i)) (z10 (s 24 (8 * t + i))) s) fun _ s9 => some (o01 (s9 24 (8 * t + i) - z10 (s 24 (8 * t + i))), rx_up s9 24 (8 * t + i) (s9 24 (8 * t + i) - z10 (s 24 (8 * t + i)))) := by
  unfold D_M_works
  rw [stepAt_w t16 i8 e16 e23, b_ob, b_og (show 12 * r + a < 48 by omega) (by decide), e10, pk_mul, nI_add, b_og (show 3 * t + k < 48 by omega) (by decide), pk_mul, nI_add, b_og (show 8 * t + i < 128 by omega) (by decide)]
  simp only [b_oj, kd, up_s, ozb_o]
  by_cases h10 : nI 10 ≤ s 24 (8 * t + i)
  · rw [if_pos h10, z10_t h10, if_pos trivial]
  · rw [if_neg h10, z10_f h10, if_pos trivial]
theorem works_1 {t i r a k : Nat} (t16 : t < 16) (i8 : i < 8) (e16 : s 16 t = nI r) (r4 : r < 4) (e23 : s 23 (8 * t + i) = nI a) (a12 : a < 12) (e10 : s 10 (12 * r + a) = nI k) (k3 : k < 3) (kd : s 9 (12 * r + a) = nI 1) : D_M_works f (nI t) (nI i) s = some (o01 (s 24 (8 * t + i) - nI 1), rx_up s 24 (8 * t + i) (s 24 (8 * t + i) - nI 1)) := by
  unfold D_M_works
  rw [stepAt_w t16 i8 e16 e23, b_ob, b_og (show 12 * r + a < 48 by omega) (by decide), e10, pk_mul, nI_add, b_og (show 3 * t + k < 48 by omega) (by decide), pk_mul, nI_add, b_og (show 8 * t + i < 128 by omega) (by decide)]
  have k9 : ∀ y, rx_up s 24 (8 * t + i) y 9 (12 * r + a) = nI 1 := fun y => kd
  simp only [b_oj, kd, k9, up_s, ozb_o, if_neg (show ¬ nI 1 = nI 0 by decide), if_neg (show ¬ nI 1 = nI 3 by decide), ite_self, if_true]
theorem works_3 {t i r a k : Nat} (t16 : t < 16) (i8 : i < 8) (e16 : s 16 t = nI r) (r4 : r < 4) (e23 : s 23 (8 * t + i) = nI a) (a12 : a < 12) (e10 : s 10 (12 * r + a) = nI k) (k3 : k < 3) (kd : s 9 (12 * r + a) = nI 3) : D_M_works f (nI t) (nI i) s = if s 24 (8 * t + i) - nI 1 = 0 then ob (D_M_react f (nI t) (s 22 (3 * t + k)) (nI a) (rx_up s 24 (8 * t + i) (s 24 (8 * t + i) - nI 1))) fun _ s9 => some (o01 (s9 24 (8 * t + i)), s9) else some (o01 (s 24 (8 * t + i) - nI 1), rx_up s 24 (8 * t + i) (s 24 (8 * t + i) - nI 1)) := by
  unfold D_M_works
  rw [stepAt_w t16 i8 e16 e23, b_ob, b_og (show 12 * r + a < 48 by omega) (by decide), e10, pk_mul, nI_add, b_og (show 3 * t + k < 48 by omega) (by decide), pk_mul, nI_add, b_og (show 8 * t + i < 128 by omega) (by decide)]
  have k9 : ∀ y, rx_up s 24 (8 * t + i) y 9 (12 * r + a) = nI 3 := fun y => kd
  have k23 : ∀ y, rx_up s 24 (8 * t + i) y 23 (8 * t + i) = nI a := fun y => e23
  simp only [b_oj, kd, k9, k23, up_s, ozb_o, if_neg (show ¬ nI 3 = nI 0 by decide), if_neg (show ¬ nI 3 = nI 1 by decide), if_neg (show ¬ nI 3 = nI 2 by decide), ite_self, if_true]
theorem works_4 {t i r a k : Nat} (t16 : t < 16) (i8 : i < 8) (e16 : s 16 t = nI r) (r4 : r < 4) (e23 : s 23 (8 * t + i) = nI a) (a12 : a < 12) (e10 : s 10 (12 * r + a) = nI k) (k3 : k < 3) (kd : s 9 (12 * r + a) = nI 4) (h27 : s 27 (8 * t + i) = nI 0 ∨ s 27 (8 * t + i) = nI 1) : D_M_works f (nI t) (nI i) s = some (s 27 (8 * t + i), s) := by
  unfold D_M_works
  rw [stepAt_w t16 i8 e16 e23, b_ob, b_og (show 12 * r + a < 48 by omega) (by decide), e10, pk_mul, nI_add, b_og (show 3 * t + k < 48 by omega) (by decide), pk_mul, nI_add, b_og (show 8 * t + i < 128 by omega) (by decide)]
  simp only [b_oj, kd, if_neg (show ¬ nI 4 = nI 0 by decide), if_neg (show ¬ nI 4 = nI 1 by decide), if_neg (show ¬ nI 4 = nI 2 by decide), if_neg (show ¬ nI 4 = nI 3 by decide), ite_self, if_true]
  rcases h27 with e | e
  · rw [e, ozb_0]
  · rw [e, ozb_1]
theorem works_2 {t i r a k : Nat} (t16 : t < 16) (i8 : i < 8) (e16 : s 16 t = nI r) (r4 : r < 4) (e23 : s 23 (8 * t + i) = nI a) (a12 : a < 12) (e10 : s 10 (12 * r + a) = nI k) (k3 : k < 3) {k2 T : Nat} (kd : s 9 (12 * r + a) = nI 2) (e11 : s 11 (12 * r + a) = nI k2) (hk2 : k2 < 3) (hT : D_M_total f (s 22 (3 * t + k)) s = some (nI T, s)) : D_M_works f (nI t) (nI i) s =
    if z10 (s 24 (8 * t + i)) ≤ nI T then (if z10 (s 24 (8 * t + i)) ≤ 0 then some (o01 (s 24 (8 * t + i) - z10 (s 24 (8 * t + i))), rx_up s 24 (8 * t + i) (s 24 (8 * t + i) - z10 (s 24 (8 * t + i)))) else ob (D_M_carry f (s 22 (3 * t + k)) (s 22 (3 * t + k2)) (z10 (s 24 (8 * t + i))) (rx_up s 24 (8 * t + i) (s 24 (8 * t + i) - z10 (s 24 (8 * t + i))))) fun _ s9 => some (o01 (s9 24 (8 * t + i)), s9))
    else if nI T ≤ 0 then some (o01 (nI 0), rx_up s 24 (8 * t + i) (nI 0)) else ob (D_M_carry f (s 22 (3 * t + k)) (s 22 (3 * t + k2)) (nI T) (rx_up s 24 (8 * t + i) (nI 0))) fun _ s9 => some (o01 (s9 24 (8 * t + i)), s9) := by
  unfold D_M_works
  rw [stepAt_w t16 i8 e16 e23, b_ob, b_og (show 12 * r + a < 48 by omega) (by decide), e10, pk_mul, nI_add, b_og (show 3 * t + k < 48 by omega) (by decide), pk_mul, nI_add, b_og (show 8 * t + i < 128 by omega) (by decide)]
  have k11 : ∀ y, rx_up s 24 (8 * t + i) y 11 (12 * r + a) = nI k2 := fun y => e11
  have k22 : ∀ y, rx_up s 24 (8 * t + i) y 22 (3 * t + k2) = s 22 (3 * t + k2) := fun y => rfl
  simp only [b_oj, kd, hT, b_ob, k11, k22, up_s, ozb_o, nI_add, b_og (show 3 * t + k2 < 48 by omega) (show 48 < 2 ^ 31 by decide), if_neg (show ¬ nI 2 = nI 0 by decide), if_neg (show ¬ nI 2 = nI 1 by decide), ite_self, if_true]
  by_cases h10 : nI 10 ≤ s 24 (8 * t + i)
  · rw [if_pos h10, z10_t h10]
    by_cases hh : nI 10 ≤ nI T
    · rw [if_pos hh, if_pos hh, if_pos hh]
    · rw [if_neg hh, if_neg hh, if_neg hh]
  · rw [if_neg h10, z10_f h10]
    by_cases hh : s 24 (8 * t + i) ≤ nI T
    · rw [if_pos hh, if_pos hh, if_pos hh]
    · rw [if_neg hh, if_neg hh, if_neg hh]
end WKS
end GON
