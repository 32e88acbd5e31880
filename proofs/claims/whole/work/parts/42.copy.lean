/-! Arrays.copyOf, by hand -/
def cx_cl (c : cx_S) (p a : Nat) : cx_S := (fun F q j => if F = 400 ∧ q = p then cI c 400 a j else cI c F q j, c.2)
def cx_cp (c : cx_S) (p a m : Nat) : cx_S := (fun F q j => if F = 400 ∧ q = p ∧ j < m then cI c 400 a j else cI c F q j, c.2)
def D_A_copyOf (_f : Nat) (l0 : Option Nat) (l1 : Int32) (s : cx_S) : Option (Option Nat × cx_S) :=
  oq 400 l0 s fun a n => og (n + 1) l1 fun m => on s <| if m = n then some (some (cN s), cx_cl (cx_mk s (400, n) n) (cN s) a) else some (some (cN s), cx_cp (cx_mk s (400, m) m) (cN s) a m)
theorem E_A_copyOf {G : bm_G} {f : Nat} {l0 : Option Nat} {l1 : Int32} {s sz : cx_S} {r : Option Nat} {Q : Option Nat → cx_S → Prop} (h : D_A_copyOf f l0 l1 s = some (r, sz)) (hq : Q r sz) : cx_Tr G me_A_copyOf [va_rf (l0), .int (l1)] s Q := by
  sorry
