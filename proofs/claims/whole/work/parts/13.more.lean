/-! rows for an int constant, the constant array, and comparing references -/
section BM13
variable {G : bm_G} {M : bm_M} {pc : Nat} {L L' : bm_L} {st : List Value} {h : bm_H} {P : bm_R → bm_H → Prop}
theorem bm_ldc {idx : Nat} {v : Int32} (hd : decode M.2.1 pc = .ok (.ldc idx, 2)) (hw : Cond.constant M.1.cls idx v ∈ bm_Ts) (k : bm_W G M (pc + 2) L (.int v :: st) h P) : bm_W G M pc L st h P :=
  bm_go (fun _ _ _ _ _ _ _ _ _ _ _ _ _ _ _ hS _ _ _ w => lv_ldc hS.1 hS.2.1 (bm_Sown hS) (bm_Sts hS _ hw) hd w) k
theorem bm_gets {idx : Nat} (hd : decode M.2.1 pc = .ok (.getstatic idx, 3)) (hw : Cond.fieldLinkNest M.1.cls idx "BatchHall" "NO_PARTS" "[I" "BatchHall" ∈ bm_Nx) (k : bm_W G M (pc + 3) L (.ref 0 :: st) h P) : bm_W G M pc L st h P :=
  bm_go (fun _ _ _ _ _ _ _ _ _ _ _ _ _ _ _ hS _ hV _ w => va_getsN hS.1 hS.2.1 (bm_Sold hS).1 hV (bm_Sown hS) (va_Nw.use rfl ((bm_Sold hS).2.2.2.1 _ hw)) (fun _ q => q) hd w) k
theorem bm_vrf (o : Option Nat) : bm_v G (va_rf o) = va_rf (o.map (bm_ad G)) := by cases o <;> rfl
theorem bm_adi {o1 o2 : Option Nat} (g1 : ∀ p, o1 = some p → 2 ≤ p) (g2 : ∀ p, o2 = some p → 2 ≤ p) (e : o1.map (bm_ad G) = o2.map (bm_ad G)) : o1 = o2 := by
  cases o1 with
  | none => cases o2 with
    | none => rfl
    | some y => cases e
  | some x => cases o2 with
    | none => cases e
    | some y =>
      have hx := g1 x rfl
      have hy := g2 y rfl
      obtain ⟨x, rfl⟩ := Nat.exists_eq_add_of_le' hx
      obtain ⟨y, rfl⟩ := Nat.exists_eq_add_of_le' hy
      have e2 : bm_B G + x = bm_B G + y := Option.some.inj e
      have : x = y := by omega
      rw [this]
theorem bm_acmp_eq {o1 o2 : Option Nat} {off : Int} {tgt : Nat} (hd : decode M.2.1 pc = .ok (.if_acmp .eq off, 3)) (ht : (pc : Int) + off = (tgt : Int)) (g1 : ∀ p, o1 = some p → 2 ≤ p) (g2 : ∀ p, o2 = some p → 2 ≤ p) (kt : o1 = o2 → bm_W G M tgt L st h P) (kf : ¬ o1 = o2 → bm_W G M (pc + 3) L st h P) : bm_W G M pc L (va_rf o2 :: va_rf o1 :: st) h P := by
  by_cases e : o1 = o2
  · refine bm_go (fun _ _ _ _ _ _ _ _ _ _ _ _ _ _ _ hS _ _ _ w => ?_) (kt e)
    rw [List.map_cons, List.map_cons, bm_vrf, bm_vrf]
    exact lv_acmp_eq hS.1 hS.2.1 hd ht (fun _ => w) (fun q => absurd (by rw [e]) q)
  · refine bm_go (fun _ _ _ _ _ _ _ _ _ _ _ _ _ _ _ hS _ _ _ w => ?_) (kf e)
    rw [List.map_cons, List.map_cons, bm_vrf, bm_vrf]
    exact lv_acmp_eq hS.1 hS.2.1 hd ht (fun q => absurd (bm_adi g1 g2 q) e) (fun _ => w)
theorem bm_acmp_ne {o1 o2 : Option Nat} {off : Int} {tgt : Nat} (hd : decode M.2.1 pc = .ok (.if_acmp .ne off, 3)) (ht : (pc : Int) + off = (tgt : Int)) (g1 : ∀ p, o1 = some p → 2 ≤ p) (g2 : ∀ p, o2 = some p → 2 ≤ p) (kt : ¬ o1 = o2 → bm_W G M tgt L st h P) (kf : o1 = o2 → bm_W G M (pc + 3) L st h P) : bm_W G M pc L (va_rf o2 :: va_rf o1 :: st) h P := by
  by_cases e : o1 = o2
  · refine bm_go (fun _ _ _ _ _ _ _ _ _ _ _ _ _ _ _ hS _ _ _ w => ?_) (kf e)
    rw [List.map_cons, List.map_cons, bm_vrf, bm_vrf]
    exact lv_acmp_ne hS.1 hS.2.1 hd ht (fun q => absurd (by rw [e]) q) (fun _ => w)
  · refine bm_go (fun _ _ _ _ _ _ _ _ _ _ _ _ _ _ _ hS _ _ _ w => ?_) (kt e)
    rw [List.map_cons, List.map_cons, bm_vrf, bm_vrf]
    exact lv_acmp_ne hS.1 hS.2.1 hd ht (fun _ => w) (fun q => absurd (bm_adi g1 g2 q) e)
end BM13
