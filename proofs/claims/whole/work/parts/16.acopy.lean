/-! System.arraycopy between int arrays, from their beginnings -/
theorem ml_A_150 : Cond.methodLink "java/util/Arrays" 150 arraycopyName ∈ bm_Ts := bm_in 471 (by decide +kernel) (by decide +kernel)
theorem kt_acopy : Cond.static arraycopyName ∈ bm_Ts := bm_in 472 (by decide +kernel) (by decide +kernel)
theorem kn_acopy : Cond.native arraycopyName ∈ bm_Ts := bm_in 473 (by decide +kernel) (by decide +kernel)
theorem in_system : Cond.initialized "java/lang/System" ∈ bm_Ts := bm_in 95 (by decide +kernel) (by decide +kernel)
theorem bm_catv {G : bm_G} {st : List Value} (hst : (st.map fun v => v.category).sum ≤ 8) : ((st.map (bm_v G)).map fun v => v.category).sum ≤ 8 := by
  rw [List.map_map]
  have e2 : (fun v => Value.category v) ∘ bm_v G = fun v => Value.category v := by
    funext v
    cases v <;> rfl
  rw [e2]; exact hst
section BM16
variable {G : bm_G} {M : bm_M} {pc : Nat} {L L' : bm_L} {st : List Value} {h : bm_H} {P : bm_R → bm_H → Prop}
theorem bm_acopy {ix a0 a n0 n1 q : Nat} {f g : Nat → Int32} (hd : decode M.2.1 pc = .ok (.invokestatic ix, 3)) (hl : Cond.methodLink M.1.cls ix arraycopyName ∈ bm_Ts) (ha0 : h[a0]? = some (.inl (0, n0, .inl f))) (ha : h[a]? = some (.inl (0, n1, .inl g))) (g0 : 2 ≤ a0) (g1 : 2 ≤ a) (hm : q ≤ n0) (hm1 : q ≤ n1) (h31 : q < 2 ^ 31) (hfr : 1 ≤ M.2.2.2.2.1) (hlo : 60 ≤ M.2.2.2.2.2) (hst : (st.map fun v => v.category).sum ≤ 8)
    (k : bm_W G M (pc + 3) L st (h.set a (.inl (0, n1, .inl (va_cpy f g 0 0 q)))) P) : bm_W G M pc L (.int (nI q) :: .int (nI 0) :: .ref a :: .int (nI 0) :: .ref a0 :: st) h P := by
  have e1 : (h.set a (.inl (0, n1, .inl (va_cpy f g 0 0 q)))).length = h.length := List.length_set
  have e2 : bm_sz (h.set a (.inl (0, n1, .inl (va_cpy f g 0 0 q)))) = bm_sz h := bm_sz_set ha rfl
  obtain ⟨z0, rfl⟩ := Nat.exists_eq_add_of_le' g0
  obtain ⟨z, rfl⟩ := Nat.exists_eq_add_of_le' g1
  refine bm_goH (by rw [e1]; exact Nat.le_refl _) (by rw [e2]; exact Nat.le_refl _) (fun p e R s m args below meth c H locs ls c0 s0 Q hS hr hv _ _ _ _ _ _ hL w => ?_) k
  have hfr2 : M.2.2.2.2.1 ≤ R.frames := hS.2.2.2.2.2.2.2.2.1
  have hlr : M.2.2.2.2.2 ≤ R.locals := hS.2.2.2.2.2.2.2.2.2.1
  have hw : nativeFrameWords "java/lang/System" "arraycopy" 5 + 11 ≤ 52 := by decide +kernel
  have hs8 := bm_catv (G := G) hst
  have e0 : (nI 0).toNatClampNeg = 0 := by decide
  refine va_copyi hS.1 hS.2.1 (by rw [hS.2.2.1, hL.2.1]) (bm_Sown hS) (bm_Sts hS _ hl) (bm_Sts hS _ kn_acopy) (bm_Sts hS _ kt_acopy) (bm_Sts hS _ in_system) (bm_SK hS) hr.1 bm_w_D hv z0 z 0 0 (bm_w_at ha0) (bm_w_at ha) (bm_ty (ty := .int) rfl) (bm_ty (ty := .int) rfl) rfl (by decide) (by decide) (nI_pos h31) (by rw [e0, nI_clamp h31]; omega) (by rw [e0, nI_clamp h31]; omega) (fun _ _ => rfl) (by omega) (by omega) hd (fun H1 locs1 p1 _ p2 => ?_)
  rw [e0, nI_clamp h31] at p1
  have w2 := w H1 locs1 (bm_rep_set hr p1) p2
  rw [e1, e2] at w2
  exact w2
end BM16
