/-! the law's loop: at every call the two answer alike -/
section LAW
variable {f : Nat} {K : kx} {W : Nat → Nat → Nat} {bd bd2 : Nat} {c : cx_S} {s : rx_S}
theorem Iv.i19 (h : Iv K W bd s) : RN 16 9 (s 19) := fun t ht => by
  by_cases e : t < nt (s 15 0)
  · exact (h.ib t e).2.2.2.2.1
  · rw [(h.if t (by omega) ht).2.1]; exact rg_of (by decide) (by decide)
theorem wi_all {a : Option ((Nat ⊕ Int32) × cx_S)} {b : Option (Int32 × rx_S)} {o : Int64} (h : SimX K W bd bd2 c s a b) : ∃ K2 W2 c2 s2 y o2, St K2 W2 bd2 c2 s2 ∧ s2 30 0 = s 30 0 ∧ Gr c s c2 s2 ∧ (ob a fun r c => wo_i r c (s, o)) = some (s2 0 0, (c2, s, o2)) ∧ b = some (y, s2) ∧ (s2 0 0 = 0 → o2 = y.toInt64) := by
  obtain ⟨K2, W2, c2, s2, h1, h2, h3, ⟨x, e1, e2, e3⟩ | ⟨p, y, e1, e2, e3, e4⟩ | ⟨p, y, e1, e2, e3, e4⟩⟩ := h
  · exact ⟨K2, W2, c2, s2, x, x.toInt64, h1, h2, h3, by rw [e1, b_ob, e3]; rfl, e2, fun _ => rfl⟩
  · refine ⟨K2, W2, c2, s2, y, o, h1, h2, h3, ?_, e3, fun z => ?_⟩
    · rw [e1, b_ob, e4]
      show (if cH c2 p = some (12, 0) then _ else _) = _
      rw [if_pos e2]
    · rw [e4] at z; exact absurd z (by decide)
  · refine ⟨K2, W2, c2, s2, y, o, h1, h2, h3, ?_, e3, fun z => ?_⟩
    · rw [e1, b_ob, e4]
      show (if cH c2 p = some (12, 0) then _ else if cH c2 p = some (13, 0) then _ else _) = _
      rw [e2, if_neg (by decide), if_pos rfl]
    · rw [e4] at z; exact absurd z (by decide)
theorem wv_all {a : Option ((Nat ⊕ Int32) × cx_S)} {b : Option (Int32 × rx_S)} {o : Int64} (h : SimX K W bd bd2 c s a b) : ∃ K2 W2 c2 s2 y, St K2 W2 bd2 c2 s2 ∧ s2 30 0 = s 30 0 ∧ Gr c s c2 s2 ∧ (ob a fun r c => wo_v r c (s, o)) = some (s2 0 0, (c2, s, o)) ∧ b = some (y, s2) := by
  obtain ⟨K2, W2, c2, s2, h1, h2, h3, ⟨x, e1, e2, e3⟩ | ⟨p, y, e1, e2, e3, e4⟩ | ⟨p, y, e1, e2, e3, e4⟩⟩ := h
  · exact ⟨K2, W2, c2, s2, x, h1, h2, h3, by rw [e1, b_ob, e3]; rfl, e2⟩
  · refine ⟨K2, W2, c2, s2, y, h1, h2, h3, ?_, e3⟩
    rw [e1, b_ob, e4]
    show (if cH c2 p = some (12, 0) then _ else _) = _
    rw [if_pos e2]
  · refine ⟨K2, W2, c2, s2, y, h1, h2, h3, ?_, e3⟩
    rw [e1, b_ob, e4]
    show (if cH c2 p = some (12, 0) then _ else if cH c2 p = some (13, 0) then _ else _) = _
    rw [e2, if_neg (by decide), if_pos rfl]
/-- where the law stands, with d calls to come -/
def Lw (NB ZB d : Nat) (c : cx_S) (s : rx_S) : Prop := ∃ K W bd, St K W bd c s ∧ s 30 0 = nI 0 ∧ bd + d * 129280 ≤ 66191360 ∧ cN c + d * 14 + 3 * (100 - nt (s 31 0)) ≤ NB ∧ cZ c + d * 100 + 300 * (100 - nt (s 31 0)) ≤ ZB
theorem Lw_go {NB ZB d : Nat} {K2 : kx} {W2 : Nat → Nat → Nat} {c2 : cx_S} {s2 : rx_S} (h : St K2 W2 bd2 c2 s2) (h30 : s2 30 0 = s 30 0) (hg : Gr c s c2 s2) (b30 : s 30 0 = nI 0) (bb : bd2 + d * 129280 ≤ 66191360) (bn : cN c + (d + 1) * 14 + 3 * (100 - nt (s 31 0)) ≤ NB) (bz : cZ c + (d + 1) * 100 + 300 * (100 - nt (s 31 0)) ≤ ZB) : Lw NB ZB d c2 s2 := by
  obtain ⟨g1, g2, g3⟩ := hg
  have l := h.2.i31.lt
  refine ⟨K2, W2, bd2, h, by rw [h30, b30], bb, ?_, ?_⟩
  · clear bb bz g3
    rw [Nat.succ_mul] at bn
    generalize d * 14 = q at *
    omega
  · clear bb bn g2
    rw [Nat.succ_mul] at bz
    generalize d * 100 = q at *
    omega
theorem law_end {xl : Nat} {xs : Nat → Int32} {n i : Nat} {t : lx_S} (hx : xl ≤ 3072) (hi : xl < i + 6) (hi2 : i < 4000) : D_W_law_23 f xl xs (n + 1) (nI i) t = some (nI 1, t) := by
  rw [D_W_law_23, if_pos]
  rw [Int32.lt_iff_toInt_lt, pk_sub_toInt (by omega) (by omega), nI_toInt (by omega)]
  omega
end LAW
