theorem main_B (n : Nat) (hn : n ≤ 3072) (xs : Nat → Int32) : ∃ (f : Nat) (c1 : cx_S) (s1 : rx_S) (x y : Int32) (t9 : lx_S), D_H_init f 2 (cx_mk (c00 n) (0, 0) 7) = some (x, c1) ∧ cN c1 = 52 ∧ D_M_init f (fun _ _ => 0) = some (y, s1) ∧ D_W_law_23 f n xs f (nI 0) (c01 c1, s1, 0) = some (nI 1, t9) ∧ cN t9.1 ≤ 2 + 601024 ∧ cZ t9.1 ≤ n + 7293034 := by
  obtain ⟨c1, s1, h1, h2, h3, h4, h5, h6, h7⟩ := init_B n
  have n31 : nt (s1 31 0) = 0 := by rw [h7]; rfl
  have e1 : cN (c01 c1) = 96 := rfl
  have e2 : cZ (c01 c1) = n + 15157 := by
    have e : cZ (c01 c1) = cZ c1 + 13283 + 1 := by
      show cZ c1 + mi_sz + 1 = _
      unfold mi_sz
      omega
    omega
  obtain ⟨t9, w1, w2, w3⟩ := law_loop (f := 2147483648) (xl := n) (NB := 2 + 601024) (ZB := n + 7293034) (xs := xs) (by decide) hn 512 0 2147483648 (c01 c1) s1 0 (by omega) (by decide) (by decide) ⟨K00, fun _ _ => 0, 0, h5, h6, by decide, by rw [e1, n31]; decide, by rw [e2, n31]; omega⟩
  exact ⟨2147483648, c1, s1, 0, 0, t9, h1, h2, h4, w1, w2, w3⟩
