/-! the state: all that is kept -/
def Iv (K : kx) (W : Nat → Nat → Nat) (bd : Nat) (s : rx_S) : Prop := IR s ∧ IW W s ∧ IF s ∧ (∀ t, t < nt (s 15 0) → IB W s t) ∧ (∀ t, t < nt (s 15 0) → ∀ i, i < nt (s 19 t) → IT bd s t i) ∧ (∀ u, u < 6 → IU s u) ∧ tU s 0 + tU s 1 + tU s 2 + tU s 3 + tU s 4 + tU s 5 ≤ bd % 1099511627776 ∧ IL s ∧ Lin K (nt (s 15 0)) (s 18) (s 28 0) (s 29)
section STA
variable {f : Nat} {K : kx} {W : Nat → Nat → Nat} {bd : Nat} {c : cx_S} {s s2 : rx_S}
theorem Iv.ir (h : Iv K W bd s) : IR s := h.1
theorem Iv.iw (h : Iv K W bd s) : IW W s := h.2.1
theorem Iv.if (h : Iv K W bd s) : IF s := h.2.2.1
theorem Iv.ib (h : Iv K W bd s) : ∀ t, t < nt (s 15 0) → IB W s t := h.2.2.2.1
theorem Iv.it (h : Iv K W bd s) : ∀ t, t < nt (s 15 0) → ∀ i, i < nt (s 19 t) → IT bd s t i := h.2.2.2.2.1
theorem Iv.iu (h : Iv K W bd s) : ∀ u, u < 6 → IU s u := h.2.2.2.2.2.1
theorem Iv.iq (h : Iv K W bd s) : tU s 0 + tU s 1 + tU s 2 + tU s 3 + tU s 4 + tU s 5 ≤ bd % 1099511627776 := h.2.2.2.2.2.2.1
theorem Iv.il (h : Iv K W bd s) : IL s := h.2.2.2.2.2.2.2.1
theorem Iv.ln (h : Iv K W bd s) : Lin K (nt (s 15 0)) (s 18) (s 28 0) (s 29) := h.2.2.2.2.2.2.2.2
theorem Iv.i3 (h : Iv K W bd s) : RN 6 101 (s 3) := h.1.1
theorem Iv.i6 (h : Iv K W bd s) : RN 12 4 (s 6) := h.1.2.1
theorem Iv.i7 (h : Iv K W bd s) : RN 4 13 (s 7) := h.1.2.2.1
theorem Iv.i8 (h : Iv K W bd s) : RN 4 2 (s 8) := h.1.2.2.2.1
theorem Iv.i9 (h : Iv K W bd s) : ∀ r, r < 4 → ∀ i, i < nt (s 7 r) → rg (s 9 (12 * r + i)) 10 := h.1.2.2.2.2.1
theorem Iv.i15 (h : Iv K W bd s) : rg (s 15 0) 17 := h.1.2.2.2.2.2.1
theorem Iv.i31 (h : Iv K W bd s) : rg (s 31 0) 101 := h.1.2.2.2.2.2.2.1
theorem Iv.i32 (h : Iv K W bd s) : rg (s 32 0) 5000 := h.1.2.2.2.2.2.2.2.1
theorem Iv.i27 (h : Iv K W bd s) : ∀ j, j < 128 → s 27 j = nI 0 ∨ s 27 j = nI 1 := h.1.2.2.2.2.2.2.2.2
theorem i27_up (h : ∀ j, j < 128 → s 27 j = nI 0 ∨ s 27 j = nI 1) {q : Nat} {x : Int32} (hx : x = nI 0 ∨ x = nI 1) : ∀ j, j < 128 → rx_up s 27 q x 27 j = nI 0 ∨ rx_up s 27 q x 27 j = nI 1 := fun j hj => by
  by_cases e : j = q
  · rw [e, b_up, if_pos ⟨rfl, rfl⟩]; exact hx
  · rw [b_up, if_neg (fun z => e z.2)]; exact h j hj
theorem Iv.t16 (h : Iv K W bd s) {t : Nat} (ht : t < nt (s 15 0)) : t < 16 := by have := h.i15.lt; omega
theorem WG_congr {n : Nat} {kd nx ot kd2 nx2 ot2 V : Nat → Nat} (h : WG n kd nx ot V) (h1 : ∀ i, i < n → kd2 i = kd i) (h2 : ∀ i, i < n → nx2 i = nx i) (h3 : ∀ i, i < n → ot2 i = ot i) : WG n kd2 nx2 ot2 V := by
  refine ⟨h.1, fun i hi => ?_⟩
  have w := h.2 i hi
  unfold Way at w ⊢
  rw [h1 i hi, h2 i hi, h3 i hi]; exact w
theorem SS_congr {r i : Nat} (h : SS s r i) (h7 : s2 7 r = s 7 r) (hk : ∀ k, 9 ≤ k ∧ k ≤ 14 → s2 k (12 * r + i) = s k (12 * r + i)) (h6 : ∀ k, k < 3 → s2 6 (3 * r + k) = s 6 (3 * r + k)) : SS s2 r i := by
  obtain ⟨a1, a2, a3, a4, a5, a6, a7, a8, a9, a10⟩ := h
  unfold SS zk za zb zn zo
  rw [hk 9 (by decide), hk 10 (by decide), hk 11 (by decide), hk 12 (by decide), hk 13 (by decide), hk 14 (by decide), h7]
  refine ⟨fun q => ?_, a2, a3, fun q => ?_, a5, a6, a7, a8, a9, a10⟩
  · have b := a1 q
    rw [h6 _ b.1.lt]; exact b
  · have b := a4 q
    rw [h6 _ b.1.lt]; exact b
/-- a recipe that is not released was edited -/
theorem inv_edit (h : Iv K W bd s) (hf : ∀ k, k ≠ 0 → k ≠ 1 → k ≠ 6 → k ≠ 7 → (k < 9 ∨ 14 < k) → s2 k = s k) (hr : ∀ r, r < 4 → s 8 r = nI 1 → s2 7 r = s 7 r ∧ (∀ k, 9 ≤ k ∧ k ≤ 14 → ∀ i, i < 12 → s2 k (12 * r + i) = s k (12 * r + i)) ∧ ∀ k, k < 3 → s2 6 (3 * r + k) = s 6 (3 * r + k))
    (i6 : RN 12 4 (s2 6)) (i7 : RN 4 13 (s2 7)) (i9 : ∀ r, r < 4 → ∀ i, i < nt (s2 7 r) → rg (s2 9 (12 * r + i)) 10) : Iv K W bd s2 := by
  have e : ∀ k, k ≠ 0 → k ≠ 1 → k ≠ 6 → k ≠ 7 → (k < 9 ∨ 14 < k) → s k = s2 k := fun k a b c d g => (hf k a b c d g).symm
  have e3 := hf 3 (by decide) (by decide) (by decide) (by decide) (by decide)
  have e8 := hf 8 (by decide) (by decide) (by decide) (by decide) (by decide)
  have e15 := hf 15 (by decide) (by decide) (by decide) (by decide) (by decide)
  have e16 := hf 16 (by decide) (by decide) (by decide) (by decide) (by decide)
  have e17 := hf 17 (by decide) (by decide) (by decide) (by decide) (by decide)
  have e18 := hf 18 (by decide) (by decide) (by decide) (by decide) (by decide)
  have e19 := hf 19 (by decide) (by decide) (by decide) (by decide) (by decide)
  have e20 := hf 20 (by decide) (by decide) (by decide) (by decide) (by decide)
  have e21 := hf 21 (by decide) (by decide) (by decide) (by decide) (by decide)
  have e22 := hf 22 (by decide) (by decide) (by decide) (by decide) (by decide)
  have e23 := hf 23 (by decide) (by decide) (by decide) (by decide) (by decide)
  have e24 := hf 24 (by decide) (by decide) (by decide) (by decide) (by decide)
  have e25 := hf 25 (by decide) (by decide) (by decide) (by decide) (by decide)
  have e26 := hf 26 (by decide) (by decide) (by decide) (by decide) (by decide)
  have e27 := hf 27 (by decide) (by decide) (by decide) (by decide) (by decide)
  have e31 := hf 31 (by decide) (by decide) (by decide) (by decide) (by decide)
  have rel : ∀ t, t < nt (s 15 0) → nt (s 16 t) < 4 ∧ s 8 (nt (s 16 t)) = nI 1 := fun t ht => ⟨(h.ib t ht).1.lt, (h.ib t ht).2.1⟩
  have m12 : ∀ r, r < 4 → nt (s 7 r) ≤ 12 := fun r hr => by have := (h.i7 r hr).lt; omega
  refine ⟨⟨by rw [e3]; exact h.i3, i6, i7, by rw [e8]; exact h.i8, i9, by rw [e15]; exact h.i15, by rw [e31]; exact h.i31, by rw [hf 32 (by decide) (by decide) (by decide) (by decide) (by decide)]; exact h.i32, by rw [e27]; exact h.i27⟩, ?_, ?_, ?_, ?_, ?_, ?_, ?_, ?_⟩
  · intro r hr4 h8
    rw [e8] at h8
    obtain ⟨a, b, c⟩ := hr r hr4 h8
    obtain ⟨w1, w2, w3⟩ := h.iw r hr4 h8
    have m := m12 r hr4
    rw [a]
    refine ⟨w1, fun i hi => SS_congr (w2 i hi) a (fun k hk => b k hk i (by omega)) c, WG_congr w3 (fun i hi => ?_) (fun i hi => ?_) (fun i hi => ?_)⟩
    · show nt (s2 9 _) = nt (s 9 _); rw [b 9 (by decide) i (by omega)]
    · show nt (s2 13 _) = nt (s 13 _); rw [b 13 (by decide) i (by omega)]
    · show nt (s2 14 _) = nt (s 14 _); rw [b 14 (by decide) i (by omega)]
  · unfold IF; rw [e15, e18, e19, e20, e21, e22]; exact h.if
  · rw [e15]
    intro t ht
    obtain ⟨r4, r8⟩ := rel t ht
    obtain ⟨a, b, c⟩ := hr _ r4 r8
    have m := m12 _ r4
    obtain ⟨b1, b2, b3, b4, b5, b6, b7, b8, b9, b10⟩ := h.ib t ht
    unfold IB
    rw [e8, e16, e17, e18, e19, e21, e22, e23, a]
    refine ⟨b1, b2, b3, b4, b5, b6, fun q => ⟨fun k hk w => (b7 q).1 k hk ?_, (b7 q).2⟩, b8, fun i hi w => ?_, b10⟩
    · rw [c k hk] at w; exact w
    · have e1 : za s2 (nt (s 16 t)) i = za s (nt (s 16 t)) i := by show nt (s2 10 _) = nt (s 10 _); rw [b 10 (by decide) i (by omega)]
      have e2 : zk s2 (nt (s 16 t)) i = zk s (nt (s 16 t)) i := by show nt (s2 9 _) = nt (s 9 _); rw [b 9 (by decide) i (by omega)]
      rw [e1]; rw [e2] at w; exact b9 i hi w
  · rw [e15, e19]
    intro t ht i hi
    obtain ⟨r4, r8⟩ := rel t ht
    obtain ⟨a, b, c⟩ := hr _ r4 r8
    have m := m12 _ r4
    have t1 := h.it t ht i hi
    have ek : ka s2 t i = ka s t i := by
      have := t1.1.lt
      unfold ka; rw [e16, e23, b 9 (by decide) _ (by omega)]
    unfold IT
    rw [ek, e16, e23, e24, e25, e26, e27, e31, a]; exact t1
  · intro u hu
    have q := h.iu u hu
    unfold IU
    rw [e3, e31, hf 4 (by decide) (by decide) (by decide) (by decide) (by decide), hf 5 (by decide) (by decide) (by decide) (by decide) (by decide)]; exact q
  · have q := h.iq
    unfold tU at q ⊢
    rw [e3, hf 5 (by decide) (by decide) (by decide) (by decide) (by decide)]; exact q
  · have q := h.il
    unfold IL at q ⊢
    rw [e31, hf 32 (by decide) (by decide) (by decide) (by decide) (by decide), hf 35 (by decide) (by decide) (by decide) (by decide) (by decide), hf 36 (by decide) (by decide) (by decide) (by decide) (by decide)]; exact q
  · rw [e15, e18, hf 28 (by decide) (by decide) (by decide) (by decide) (by decide), hf 29 (by decide) (by decide) (by decide) (by decide) (by decide)]; exact h.ln
/-- the two stand alike -/
def St (K : kx) (W : Nat → Nat → Nat) (bd : Nat) (c : cx_S) (s : rx_S) : Prop := CRep K c s ∧ Iv K W bd s
/-- what a call may make -/
def Gr (c : cx_S) (s : rx_S) (c2 : cx_S) (s2 : rx_S) : Prop := nt (s 31 0) ≤ nt (s2 31 0) ∧ cN c2 ≤ cN c + 14 + 3 * (nt (s2 31 0) - nt (s 31 0)) ∧ cZ c2 ≤ cZ c + 100 + 300 * (nt (s2 31 0) - nt (s 31 0))
/-- a call that throws nothing -/
def Sim (K : kx) (W : Nat → Nat → Nat) (bd bd2 : Nat) (c : cx_S) (s : rx_S) (a : Option (Int32 × cx_S)) (b : Option (Int32 × rx_S)) : Prop := ∃ x K2 W2 c2 s2, a = some (x, c2) ∧ b = some (x, s2) ∧ St K2 W2 bd2 c2 s2 ∧ s2 30 0 = s 30 0 ∧ Gr c s c2 s2
theorem Gr.same (h : s2 31 0 = s 31 0) : Gr c s c s2 := ⟨by rw [h]; exact Nat.le_refl _, by omega, by omega⟩
theorem Iv_0 (h : Iv K W bd s) : Iv K W bd (R0 s) := h
theorem sim_ask (h : St K W bd c s) {a : Option (Int32 × cx_S)} {b : Option (Int32 × rx_S)} (q : Ask a b c s) : Sim K W bd bd c s a b := by
  obtain ⟨x, h1, h2⟩ := q
  exact ⟨x, K, W, c, R0 s, h1, h2, ⟨h.1, h.2⟩, rfl, Gr.same rfl⟩
end STA
