theorem main_B (n : Nat) (hn : n ≤ 3072) (xs : Nat → Int32) : ∃ (f : Nat) (c1 : cx_S) (s1 : rx_S) (x y : Int32) (t9 : lx_S), D_H_init f 2 (cx_mk (c00 n) (0, 0) 7) = some (x, c1) ∧ cN c1 = 52 ∧ D_M_init f (fun _ _ => 0) = some (y, s1) ∧ D_W_law_23 f n xs f (nI 0) (c01 c1, s1, 0) = some (nI 1, t9) ∧ cN t9.1 ≤ 2 + 601024 ∧ cZ t9.1 ≤ n + 7293034 := by
  sorry
