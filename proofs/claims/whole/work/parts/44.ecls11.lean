theorem E_C_hasEnoughUnits_13 {G : bm_G} {f : Nat} {l1 : Option Nat} {l2 : Option Nat} {l3 : Int32} {k40 : Int32 → cx_S → Option (Int32 × cx_S)} {r : Int32} {sz : cx_S} {Q : bm_R → cx_S → Prop} (hq : Q (.inl (some (.int (r)))) sz) (hk40 : ∀ (q4 : Int32) (d0 : Option Value) (d5 : Option Value) (s : cx_S), k40 q4 s = some (r, sz) → cx G me_C_hasEnoughUnits 40 [d0, some (va_rf (l1)), some (va_rf (l2)), some (.int (l3)), some (.int (q4)), d5] [] s Q) : ∀ (n : Nat) (l4 : Int32) (l5 : Int32) (d0 : Option Value) (s : cx_S), D_C_hasEnoughUnits_13 f l1 l2 l3 k40 n l4 l5 s = some (r, sz) → cx G me_C_hasEnoughUnits 13 [d0, some (va_rf (l1)), some (va_rf (l2)), some (.int (l3)), some (.int (l4)), some (.int (l5))] [] s Q := by
  intro n
  induction n with
  | zero =>
    intro l4 l5 d0 s h
    rw [D_C_hasEnoughUnits_13] at h
    exact absurd h (by simp)
  | succ n ih =>
    intro l4 l5 d0 s h
    rw [D_C_hasEnoughUnits_13] at h
    refine cx_iload d_C_hasEnoughUnits_13 rfl ?_
    refine cx_bipush (v := nI 6) d_C_hasEnoughUnits_15 (by decide) ?_
    refine cx_icmp_ge (tgt := 40) d_C_hasEnoughUnits_17 (by decide) (fun hc17 => ?_) (fun hc17 => ?_)
    · rw [if_pos hc17] at h
      exact hk40 _ _ _ _ h
    · rw [if_neg hc17] at h
      refine cx_aload_n d_C_hasEnoughUnits_20 rfl ?_
      refine cx_iload d_C_hasEnoughUnits_21 rfl ?_
      obtain ⟨a1, na1, j2, ea1, ha1, hj2, gj2, ej2, h⟩ := oa_inv h
      refine cx_aald (t := 5) 405 rfl d_C_hasEnoughUnits_23 (by decide) rfl ea1 ha1 hj2 gj2 ej2 ?_
      obtain ⟨p3, ep3, hp3, h⟩ := oc_inv h
      refine cx_geti 160 rfl g_C_hasEnoughUnits_24 rfl (by decide) ep3 hp3 ?_
      refine cx_iload_n d_C_hasEnoughUnits_27 rfl ?_
      refine oj_step (P := fun J4 : Int32 → Option (Int32 × cx_S) => ∀ (v5 : Int32) (d0 : Option Value), J4 v5 = some (r, sz) → cx G me_C_hasEnoughUnits 34 [d0, some (va_rf (l1)), some (va_rf (l2)), some (.int (l3)), some (.int (v5)), some (.int (l5))] [] s Q) h ?_ ?_
      · intro v5 d0 h
        refine cx_iincP d_C_hasEnoughUnits_34 (by decide) rfl ?_
        refine cx_goto (tgt := 13) d_C_hasEnoughUnits_37 (by decide) ?_
        exact ih _ _ _ _ h
      clear h
      intro J4 hJ1 h
      refine cx_icmp_ne (tgt := 34) d_C_hasEnoughUnits_28 (by decide) (fun hc28 => ?_) (fun hc28 => ?_)
      · rw [if_neg hc28] at h
        exact hJ1 _ _ h
      · rw [if_pos hc28] at h
        refine cx_iincP d_C_hasEnoughUnits_31 (by decide) rfl ?_
        exact hJ1 _ _ h
theorem E_C_hasEnoughUnits_2 {G : bm_G} {f : Nat} {l1 : Option Nat} {l2 : Option Nat} {r : Int32} {sz : cx_S} {Q : bm_R → cx_S → Prop} (hq : Q (.inl (some (.int (r)))) sz) : ∀ (n : Nat) (l3 : Int32) (d0 : Option Value) (d4 : Option Value) (d5 : Option Value) (s : cx_S), D_C_hasEnoughUnits_2 f l1 l2 n l3 s = some (r, sz) → cx G me_C_hasEnoughUnits 2 [d0, some (va_rf (l1)), some (va_rf (l2)), some (.int (l3)), d4, d5] [] s Q := by
  intro n
  induction n with
  | zero =>
    intro l3 d0 d4 d5 s h
    rw [D_C_hasEnoughUnits_2] at h
    exact absurd h (by simp)
  | succ n ih =>
    intro l3 d0 d4 d5 s h
    rw [D_C_hasEnoughUnits_2] at h
    refine cx_iload_n d_C_hasEnoughUnits_2 rfl ?_
    refine cx_iconst (v := nI 3) d_C_hasEnoughUnits_3 (by decide) ?_
    refine cx_icmp_ge (tgt := 58) d_C_hasEnoughUnits_4 (by decide) (fun hc4 => ?_) (fun hc4 => ?_)
    · rw [if_pos hc4] at h
      refine cx_iconst (v := nI 1) d_C_hasEnoughUnits_58 (by decide) ?_
      exact cx_zret d_C_hasEnoughUnits_59 rfl (by decide) (ox_i hq h)
    · rw [if_neg hc4] at h
      refine cx_iconst (v := nI 0) d_C_hasEnoughUnits_7 (by decide) ?_
      refine cx_istore d_C_hasEnoughUnits_8 (by decide) ?_
      refine cx_iconst (v := nI 0) d_C_hasEnoughUnits_10 (by decide) ?_
      refine cx_istore d_C_hasEnoughUnits_11 (by decide) ?_
      refine E_C_hasEnoughUnits_13 (r := r) (sz := sz) hq ?_ _ _ _ _ _ h
      · intro v6 d0 d5 s7 h
        refine cx_iload d_C_hasEnoughUnits_40 rfl ?_
        refine cx_aload_n d_C_hasEnoughUnits_42 rfl ?_
        refine cx_iload_n d_C_hasEnoughUnits_43 rfl ?_
        obtain ⟨p8, ep8, hp8, h⟩ := oc_inv h
        obtain ⟨x9, s10, ex9, h⟩ := ob_inv h
        refine cx_callV1 c_C_hasEnoughUnits_44 (cx_hst (List.forall_mem_cons.mpr ⟨rfl, (fun _ q => nomatch q)⟩) (Nat.le_of_ble_eq_true rfl)) (by decide) ep8 hp8 (E_R_countRoles ex9 ?_)
        refine cx_icmp_ge (tgt := 52) d_C_hasEnoughUnits_47 (by decide) (fun hc47 => ?_) (fun hc47 => ?_)
        · rw [if_pos hc47] at h
          refine cx_iincP d_C_hasEnoughUnits_52 (by decide) rfl ?_
          refine cx_goto (tgt := 2) d_C_hasEnoughUnits_55 (by decide) ?_
          exact ih _ _ _ _ _ h
        · rw [if_neg hc47] at h
          refine cx_iconst (v := nI 0) d_C_hasEnoughUnits_50 (by decide) ?_
          exact cx_zret d_C_hasEnoughUnits_51 rfl (by decide) (ox_i hq h)
theorem E_C_hasEnoughUnits {G : bm_G} {f : Nat} {l0 : Nat} {l1 : Option Nat} {l2 : Option Nat} {s sz : cx_S} {r : Int32} {Q : Int32 → cx_S → Prop} (h : D_C_hasEnoughUnits f l0 l1 l2 s = some (r, sz)) (hq : Q r sz) : cx_Ti G me_C_hasEnoughUnits [va_rf (some l0), va_rf (l1), va_rf (l2)] s Q := by
  refine cx_meti (by decide) (List.forall_mem_cons.mpr ⟨cx_cat, (List.forall_mem_cons.mpr ⟨cx_cat, (List.forall_mem_cons.mpr ⟨cx_cat, (fun _ q => nomatch q)⟩)⟩)⟩) (Nat.le_of_ble_eq_true rfl) ?_
  generalize hQ : (fun (v : bm_R) (s2 : cx_S) => ∃ x, v = .inl (some (.int x)) ∧ Q x s2) = Q2
  replace hq : Q2 (.inl (some (.int (r)))) sz := by rw [← hQ]; exact ⟨_, rfl, hq⟩
  clear hQ
  unfold D_C_hasEnoughUnits at h
  refine cx_iconst (v := nI 0) d_C_hasEnoughUnits_0 (by decide) ?_
  refine cx_istore_n d_C_hasEnoughUnits_1 (by decide) ?_
  refine E_C_hasEnoughUnits_2 (r := r) (sz := sz) hq _ _ _ _ _ _ h
theorem E_C_findFault {G : bm_G} {f : Nat} {l0 : Nat} {l1 : Option Nat} {l2 : Option Nat} {s sz : cx_S} {r : Int32} {Q : Int32 → cx_S → Prop} (h : D_C_findFault f l0 l1 l2 s = some (r, sz)) (hq : Q r sz) : cx_Ti G me_C_findFault [va_rf (some l0), va_rf (l1), va_rf (l2)] s Q := by
  refine cx_meti (by decide) (List.forall_mem_cons.mpr ⟨cx_cat, (List.forall_mem_cons.mpr ⟨cx_cat, (List.forall_mem_cons.mpr ⟨cx_cat, (fun _ q => nomatch q)⟩)⟩)⟩) (Nat.le_of_ble_eq_true rfl) ?_
  generalize hQ : (fun (v : bm_R) (s2 : cx_S) => ∃ x, v = .inl (some (.int x)) ∧ Q x s2) = Q2
  replace hq : Q2 (.inl (some (.int (r)))) sz := by rw [← hQ]; exact ⟨_, rfl, hq⟩
  clear hQ
  unfold D_C_findFault at h
  refine cx_aload_n d_C_findFault_0 rfl ?_
  refine cx_aload_n d_C_findFault_1 rfl ?_
  obtain ⟨p1, ep1, hp1, h⟩ := oc_inv h
  obtain ⟨x2, s3, ex2, h⟩ := ob_inv h
  refine cx_callV1 c_C_findFault_2 (cx_hst (fun _ q => nomatch q) (Nat.le_of_ble_eq_true rfl)) (by decide) ep1 hp1 (E_C_isSound ex2 ?_)
  refine cx_if_ne (tgt := 10) d_C_findFault_5 (by decide) (fun hc5 => ?_) (fun hc5 => ?_)
  · rw [if_neg hc5] at h
    refine cx_aload_n d_C_findFault_10 rfl ?_
    refine cx_aload_n d_C_findFault_11 rfl ?_
    obtain ⟨p4, ep4, hp4, h⟩ := oc_inv h
    obtain ⟨x5, s6, ex5, h⟩ := ob_inv h
    refine cx_callV1 c_C_findFault_12 (cx_hst (fun _ q => nomatch q) (Nat.le_of_ble_eq_true rfl)) (by decide) ep4 hp4 (E_C_isAllReached ex5 ?_)
    refine cx_if_ne (tgt := 20) d_C_findFault_15 (by decide) (fun hc15 => ?_) (fun hc15 => ?_)
    · rw [if_neg hc15] at h
      refine cx_aload_n d_C_findFault_20 rfl ?_
      refine cx_aload_n d_C_findFault_21 rfl ?_
      obtain ⟨p7, ep7, hp7, h⟩ := oc_inv h
      obtain ⟨x8, s9, ex8, h⟩ := ob_inv h
      refine cx_callV1 c_C_findFault_22 (cx_hst (fun _ q => nomatch q) (Nat.le_of_ble_eq_true rfl)) (by decide) ep7 hp7 (E_C_isWellBranched ex8 ?_)
      refine cx_if_ne (tgt := 30) d_C_findFault_25 (by decide) (fun hc25 => ?_) (fun hc25 => ?_)
      · rw [if_neg hc25] at h
        refine cx_aload_n d_C_findFault_30 rfl ?_
        refine cx_aload_n d_C_findFault_31 rfl ?_
        obtain ⟨p10, ep10, hp10, h⟩ := oc_inv h
        obtain ⟨x11, s12, ex11, h⟩ := ob_inv h
        refine cx_callV1 c_C_findFault_32 (cx_hst (fun _ q => nomatch q) (Nat.le_of_ble_eq_true rfl)) (by decide) ep10 hp10 (E_C_isMeasuredForChoices ex11 ?_)
        refine cx_if_ne (tgt := 40) d_C_findFault_35 (by decide) (fun hc35 => ?_) (fun hc35 => ?_)
        · rw [if_neg hc35] at h
          refine cx_aload_n d_C_findFault_40 rfl ?_
          refine cx_aload_n d_C_findFault_41 rfl ?_
          refine cx_aload_n d_C_findFault_42 rfl ?_
          obtain ⟨p13, ep13, hp13, h⟩ := oc_inv h
          obtain ⟨x14, s15, ex14, h⟩ := ob_inv h
          refine cx_callV2 c_C_findFault_43 (cx_hst (fun _ q => nomatch q) (Nat.le_of_ble_eq_true rfl)) (by decide) ep13 hp13 (E_C_hasEnoughUnits ex14 ?_)
          refine oj_step (P := fun J16 : Int32 → Option (Int32 × cx_S) => ∀ (x17 : Int32) (d0 : Option Value) (d1 : Option Value) (d2 : Option Value), J16 x17 = some (r, sz) → cx G me_C_findFault 54 [d0, d1, d2] [.int (x17)] s15 Q2) h ?_ ?_
          · intro x17 d0 d1 d2 h
            exact cx_iret d_C_findFault_54 rfl (ox_i hq h)
          clear h
          intro J16 hJ1 h
          refine cx_if_eq (tgt := 53) d_C_findFault_46 (by decide) (fun hc46 => ?_) (fun hc46 => ?_)
          · rw [if_pos hc46] at h
            refine cx_iconst (v := nI 5) d_C_findFault_53 (by decide) ?_
            exact hJ1 _ _ _ _ h
          · rw [if_neg hc46] at h
            refine cx_iconst (v := nI 0) d_C_findFault_49 (by decide) ?_
            refine cx_goto (tgt := 54) d_C_findFault_50 (by decide) ?_
            exact hJ1 _ _ _ _ h
        · rw [if_pos hc35] at h
          refine cx_iconst (v := nI 4) d_C_findFault_38 (by decide) ?_
          exact cx_iret d_C_findFault_39 rfl (ox_i hq h)
      · rw [if_pos hc25] at h
        refine cx_iconst (v := nI 3) d_C_findFault_28 (by decide) ?_
        exact cx_iret d_C_findFault_29 rfl (ox_i hq h)
    · rw [if_pos hc15] at h
      refine cx_iconst (v := nI 2) d_C_findFault_18 (by decide) ?_
      exact cx_iret d_C_findFault_19 rfl (ox_i hq h)
  · rw [if_pos hc5] at h
    refine cx_iconst (v := nI 1) d_C_findFault_8 (by decide) ?_
    exact cx_iret d_C_findFault_9 rfl (ox_i hq h)
theorem E_H_release {G : bm_G} (hfl : G.1.flags = pinnedFlags ++ [noTraceFlag]) {f : Nat} {l0 : Nat} {l1 : Int32} {s sz : cx_S} {r : (Nat ⊕ Int32)} {Q : bm_R → cx_S → Prop} (h : D_H_release f l0 l1 s = some (r, sz)) (hq : Q (xr_i r) sz) : cx_T2 G me_H_release [va_rf (some l0), .int (l1)] s Q := by
  refine cx_met2 (by decide) (List.forall_mem_cons.mpr ⟨cx_cat, (List.forall_mem_cons.mpr ⟨rfl, (fun _ q => nomatch q)⟩)⟩) (Nat.le_of_ble_eq_true rfl) ?_
  unfold D_H_release at h
  refine cx_iload_n d_H_release_0 rfl ?_
  refine cx_iconst (v := nI 4) d_H_release_1 (by decide) ?_
  obtain ⟨x1, s2, ex1, h⟩ := ob_inv h
  refine cx_callS2 c_H_release_2 (cx_hst (fun _ q => nomatch q) (Nat.le_of_ble_eq_true rfl)) (E_H_isBelow ex1 ?_)
  refine cx_if_ne (tgt := 18) d_H_release_5 (by decide) (fun hc5 => ?_) (fun hc5 => ?_)
  · rw [if_neg hc5] at h
    refine cx_aload_n d_H_release_18 rfl ?_
    obtain ⟨p3, ep3, hp3, h⟩ := oc_inv h
    refine cx_getr 0 rfl g_H_release_19 rfl (by decide) ep3 hp3 ?_
    refine cx_iload_n d_H_release_22 rfl ?_
    obtain ⟨a4, na4, j5, ea4, ha4, hj5, gj5, ej5, h⟩ := oa_inv h
    refine cx_aald (t := 3) 403 rfl d_H_release_23 (by decide) rfl ea4 ha4 hj5 gj5 ej5 ?_
    obtain ⟨p6, ep6, hp6, h⟩ := oc_inv h
    refine cx_geti 96 rfl g_H_release_24 rfl (by decide) ep6 hp6 ?_
    refine cx_if_eq (tgt := 40) d_H_release_27 (by decide) (fun hc27 => ?_) (fun hc27 => ?_)
    · rw [if_pos hc27] at h
      refine cx_aload_n d_H_release_40 rfl ?_
      refine cx_getr 3 rfl g_H_release_41 rfl (by decide) ep3 hp3 ?_
      refine cx_aload_n d_H_release_44 rfl ?_
      refine cx_getr 0 rfl g_H_release_45 rfl (by decide) ep3 hp3 ?_
      refine cx_iload_n d_H_release_48 rfl ?_
      refine cx_aald (t := 3) 403 rfl d_H_release_49 (by decide) rfl ea4 ha4 hj5 gj5 ej5 ?_
      refine cx_aload_n d_H_release_50 rfl ?_
      refine cx_getr 5 rfl g_H_release_51 rfl (by decide) ep3 hp3 ?_
      obtain ⟨p7, ep7, hp7, h⟩ := oc_inv h
      obtain ⟨x8, s9, ex8, h⟩ := ob_inv h
      refine cx_callV2 c_H_release_54 (cx_hst (fun _ q => nomatch q) (Nat.le_of_ble_eq_true rfl)) (by decide) ep7 hp7 (E_C_findFault ex8 ?_)
      refine cx_istore_n d_H_release_57 (by decide) ?_
      refine cx_aload_n d_H_release_58 rfl ?_
      obtain ⟨p10, ep10, hp10, h⟩ := oc_inv h
      refine cx_getr 0 rfl g_H_release_59 rfl (by decide) ep10 hp10 ?_
      refine cx_iload_n d_H_release_62 rfl ?_
      obtain ⟨a11, na11, j12, ea11, ha11, hj12, gj12, ej12, h⟩ := oa_inv h
      refine cx_aald (t := 3) 403 rfl d_H_release_63 (by decide) rfl ea11 ha11 hj12 gj12 ej12 ?_
      refine cx_iload_n d_H_release_64 rfl ?_
      refine oj_step (P := fun J13 : Int32 → Option ((Nat ⊕ Int32) × cx_S) => ∀ (x14 : Int32) (d0 : Option Value) (d1 : Option Value), J13 x14 = some (r, sz) → cx G me_H_release 73 [d0, d1, some (.int (x8))] [.int (x14), va_rf (cR s9 403 a11 j12)] s9 Q) h ?_ ?_
      · intro x14 d0 d1 h
        obtain ⟨p15, ep15, hp15, h⟩ := oc_inv h
        obtain ⟨hz73, h⟩ := ozb_inv h
        refine cx_puti 96 rfl p_H_release_73 rfl (by decide) (ozb_nar hz73) (ozb_fits hz73) ep15 hp15 ?_
        refine cx_iload_n d_H_release_76 rfl ?_
        exact cx_iret d_H_release_77 rfl (ox_xi hq h)
      clear h
      intro J13 hJ1 h
      refine cx_if_ne (tgt := 72) d_H_release_65 (by decide) (fun hc65 => ?_) (fun hc65 => ?_)
      · rw [if_neg hc65] at h
        refine cx_iconst (v := nI 0) d_H_release_72 (by decide) ?_
        exact hJ1 _ _ _ h
      · rw [if_pos hc65] at h
        refine cx_iconst (v := nI 1) d_H_release_68 (by decide) ?_
        refine cx_goto (tgt := 73) d_H_release_69 (by decide) ?_
        exact hJ1 _ _ _ h
    · rw [if_neg hc27] at h
      obtain ⟨hn30, h⟩ := on_inv h
      exact cx_throw hfl t_H_release_30 (by decide) rfl rfl hn30 (ox_ti hq h)
  · rw [if_pos hc5] at h
    obtain ⟨hn8, h⟩ := on_inv h
    exact cx_throw hfl t_H_release_8 (by decide) rfl rfl hn8 (ox_ti hq h)
theorem E_T_init {G : bm_G} {f : Nat} {l0 : Nat} {s sz : cx_S} {r : Int32} {Q : cx_S → Prop} (h : D_T_init f l0 s = some (r, sz)) (hq : Q sz) : cx_Tv G me_T_init [va_rf (some l0)] s Q := by
  refine cx_metv (by decide) (List.forall_mem_cons.mpr ⟨cx_cat, (fun _ q => nomatch q)⟩) (Nat.le_of_ble_eq_true rfl) ?_
  generalize hQ : (fun (v : bm_R) (s2 : cx_S) => v = .inl none ∧ Q s2) = Q2
  replace hq : Q2 (.inl none) sz := by rw [← hQ]; exact ⟨rfl, hq⟩
  clear hQ
  unfold D_T_init at h
  refine cx_aload_n d_T_init_0 rfl ?_
  refine cx_objInit c_T_init_1 (cx_hst (fun _ q => nomatch q) (Nat.le_of_ble_eq_true rfl)) rfl ?_
  exact cx_vret d_T_init_4 rfl (ox_v hq h)
theorem E_B_init_76 {G : bm_G} {f : Nat} {l0 : Nat} {r : Int32} {sz : cx_S} {Q : bm_R → cx_S → Prop} (hq : Q (.inl none) sz) : ∀ (n : Nat) (l5 : Int32) (d1 : Option Value) (d2 : Option Value) (d3 : Option Value) (d4 : Option Value) (s : cx_S), D_B_init_76 f l0 n l5 s = some (r, sz) → cx G me_B_init 76 [some (va_rf (some l0)), d1, d2, d3, d4, some (.int (l5))] [] s Q := by
  intro n
  induction n with
  | zero =>
    intro l5 d1 d2 d3 d4 s h
    rw [D_B_init_76] at h
    exact absurd h (by simp)
  | succ n ih =>
    intro l5 d1 d2 d3 d4 s h
    rw [D_B_init_76] at h
    refine cx_iload d_B_init_76 rfl ?_
    refine cx_bipush (v := nI 8) d_B_init_78 (by decide) ?_
    refine cx_icmp_ge (tgt := 103) d_B_init_80 (by decide) (fun hc80 => ?_) (fun hc80 => ?_)
    · rw [if_pos hc80] at h
      exact cx_vret d_B_init_103 rfl (ox_v hq h)
    · rw [if_neg hc80] at h
      refine cx_aload_n d_B_init_83 rfl ?_
      obtain ⟨p12, ep12, hp12, h⟩ := oc_inv h
      refine cx_getr 22 rfl g_B_init_84 rfl (by decide) ep12 hp12 ?_
      refine cx_iload d_B_init_87 rfl ?_
      obtain ⟨hn89, h⟩ := on_inv h
      refine cx_new (z := 4) n_B_init_89 (by decide) hn89.2 hn89.1 rfl (by decide) ?_
      refine cx_dup d_B_init_92 (by first | rfl | exact cx_cat) ?_
      obtain ⟨x13, s14, ex13, h⟩ := ob_inv h
      refine cx_callI0v c_B_init_93 (cx_hst (List.forall_mem_cons.mpr ⟨cx_cat, (List.forall_mem_cons.mpr ⟨rfl, (List.forall_mem_cons.mpr ⟨cx_cat, (fun _ q => nomatch q)⟩)⟩)⟩) (Nat.le_of_ble_eq_true rfl)) rfl (E_T_init ex13 ?_)
      obtain ⟨p15, ep15, hp15, h⟩ := oc_inv h
      obtain ⟨a16, na16, j17, ea16, ha16, hj17, gj17, ej17, h⟩ := oa_inv h
      refine cx_aast (t := 8) (ci := 9) 408 rfl d_B_init_96 (by decide) rfl rfl (by decide) ep15 hp15 ea16 ha16 hj17 gj17 ej17 ?_
      refine cx_iincP d_B_init_97 (by decide) rfl ?_
      refine cx_goto (tgt := 76) d_B_init_100 (by decide) ?_
      exact ih _ _ _ _ _ _ h
theorem E_B_init {G : bm_G} {f : Nat} {l0 : Nat} {l1 : Int32} {l2 : Int32} {l3 : Option Nat} {l4 : Int32} {s sz : cx_S} {r : Int32} {Q : cx_S → Prop} (h : D_B_init f l0 l1 l2 l3 l4 s = some (r, sz)) (hq : Q sz) : cx_Tv G me_B_init [va_rf (some l0), .int (l1), .int (l2), va_rf (l3), .int (l4)] s Q := by
  refine cx_metv (by decide) (List.forall_mem_cons.mpr ⟨cx_cat, (List.forall_mem_cons.mpr ⟨rfl, (List.forall_mem_cons.mpr ⟨rfl, (List.forall_mem_cons.mpr ⟨cx_cat, (List.forall_mem_cons.mpr ⟨rfl, (fun _ q => nomatch q)⟩)⟩)⟩)⟩)⟩) (Nat.le_of_ble_eq_true rfl) ?_
  generalize hQ : (fun (v : bm_R) (s2 : cx_S) => v = .inl none ∧ Q s2) = Q2
  replace hq : Q2 (.inl none) sz := by rw [← hQ]; exact ⟨rfl, hq⟩
  clear hQ
  unfold D_B_init at h
  refine cx_aload_n d_B_init_0 rfl ?_
  refine cx_objInit c_B_init_1 (cx_hst (fun _ q => nomatch q) (Nat.le_of_ble_eq_true rfl)) rfl ?_
  refine cx_aload_n d_B_init_4 rfl ?_
  refine cx_iconst (v := nI 0) d_B_init_5 (by decide) ?_
  obtain ⟨p1, ep1, hp1, h⟩ := oc_inv h
  refine cx_puti 20 rfl p_B_init_6 rfl (by decide) rfl rfl ep1 hp1 ?_
  refine cx_aload_n d_B_init_9 rfl ?_
  refine cx_bipush (v := nI 8) d_B_init_10 (by decide) ?_
  obtain ⟨hn12, h⟩ := on_inv h
  refine cx_newQ (t := 8) (N := 8) 408 rfl (by decide) n_B_init_12 hn12.2 hn12.1 rfl (by decide) ?_
  obtain ⟨p2, ep2, hp2, h⟩ := oc_inv h
  refine cx_putr 22 rfl p_B_init_15 rfl (by decide) cx_narA cx_fitsA ep2 hp2 ?_
  refine cx_aload_n d_B_init_18 rfl ?_
  refine cx_iconst (v := nI 4) d_B_init_19 (by decide) ?_
  obtain ⟨hn20, h⟩ := on_inv h
  refine cx_newI (N := 4) n_B_init_20 hn20.2 hn20.1 rfl (by decide) ?_
  obtain ⟨p3, ep3, hp3, h⟩ := oc_inv h
  refine cx_putr 23 rfl p_B_init_22 rfl (by decide) cx_narA cx_fitsA ep3 hp3 ?_
  refine cx_aload_n d_B_init_25 rfl ?_
  refine cx_bipush (v := nI 12) d_B_init_26 (by decide) ?_
  obtain ⟨hn28, h⟩ := on_inv h
  refine cx_newI (N := 12) n_B_init_28 hn28.2 hn28.1 rfl (by decide) ?_
  obtain ⟨p4, ep4, hp4, h⟩ := oc_inv h
  refine cx_putr 24 rfl p_B_init_30 rfl (by decide) cx_narA cx_fitsA ep4 hp4 ?_
  refine cx_aload_n d_B_init_33 rfl ?_
  refine cx_iconst (v := nI 3) d_B_init_34 (by decide) ?_
  obtain ⟨hn35, h⟩ := on_inv h
  refine cx_newI (N := 3) n_B_init_35 hn35.2 hn35.1 rfl (by decide) ?_
  refine cx_dup d_B_init_37 (by first | rfl | exact cx_cat) ?_
  refine cx_iconst (v := nI 0) d_B_init_38 (by decide) ?_
  refine cx_iconst (v := (-1)) d_B_init_39 (by decide) ?_
  obtain ⟨a5, na5, j6, ea5, ha5, hj6, gj6, ej6, h⟩ := oa_inv h
  refine cx_iast d_B_init_40 ea5 ha5 hj6 gj6 ej6 ?_
  refine cx_dup d_B_init_41 (by first | rfl | exact cx_cat) ?_
  refine cx_iconst (v := nI 1) d_B_init_42 (by decide) ?_
  refine cx_iconst (v := (-1)) d_B_init_43 (by decide) ?_
  obtain ⟨a7, na7, j8, ea7, ha7, hj8, gj8, ej8, h⟩ := oa_inv h
  refine cx_iast d_B_init_44 ea7 ha7 hj8 gj8 ej8 ?_
  refine cx_dup d_B_init_45 (by first | rfl | exact cx_cat) ?_
  refine cx_iconst (v := nI 2) d_B_init_46 (by decide) ?_
  refine cx_iconst (v := (-1)) d_B_init_47 (by decide) ?_
  obtain ⟨a9, na9, j10, ea9, ha9, hj10, gj10, ej10, h⟩ := oa_inv h
  refine cx_iast d_B_init_48 ea9 ha9 hj10 gj10 ej10 ?_
  obtain ⟨p11, ep11, hp11, h⟩ := oc_inv h
  refine cx_putr 25 rfl p_B_init_49 rfl (by decide) cx_narA cx_fitsA ep11 hp11 ?_
  refine cx_aload_n d_B_init_52 rfl ?_
  refine cx_iload_n d_B_init_53 rfl ?_
  refine cx_puti 16 rfl p_B_init_54 rfl (by decide) rfl rfl ep11 hp11 ?_
  refine cx_aload_n d_B_init_57 rfl ?_
  refine cx_iload_n d_B_init_58 rfl ?_
  refine cx_puti 17 rfl p_B_init_59 rfl (by decide) rfl rfl ep11 hp11 ?_
  refine cx_aload_n d_B_init_62 rfl ?_
  refine cx_aload_n d_B_init_63 rfl ?_
  refine cx_putr 18 rfl p_B_init_64 rfl (by decide) cx_narO cx_fitsO ep11 hp11 ?_
  refine cx_aload_n d_B_init_67 rfl ?_
  refine cx_iload d_B_init_68 rfl ?_
  refine cx_puti 19 rfl p_B_init_70 rfl (by decide) rfl rfl ep11 hp11 ?_
  refine cx_iconst (v := nI 0) d_B_init_73 (by decide) ?_
  refine cx_istore d_B_init_74 (by decide) ?_
  refine E_B_init_76 (r := r) (sz := sz) hq _ _ _ _ _ _ _ h
theorem E_H_batch {G : bm_G} (hfl : G.1.flags = pinnedFlags ++ [noTraceFlag]) {f : Nat} {l0 : Nat} {l1 : Int32} {l2 : Int32} {s sz : cx_S} {r : (Nat ⊕ Int32)} {Q : bm_R → cx_S → Prop} (h : D_H_batch f l0 l1 l2 s = some (r, sz)) (hq : Q (xr_i r) sz) : cx_T2 G me_H_batch [va_rf (some l0), .int (l1), .int (l2)] s Q := by
  refine cx_met2 (by decide) (List.forall_mem_cons.mpr ⟨cx_cat, (List.forall_mem_cons.mpr ⟨rfl, (List.forall_mem_cons.mpr ⟨rfl, (fun _ q => nomatch q)⟩)⟩)⟩) (Nat.le_of_ble_eq_true rfl) ?_
  unfold D_H_batch at h
  refine cx_iload_n d_H_batch_0 rfl ?_
  refine cx_iconst (v := nI 4) d_H_batch_1 (by decide) ?_
  obtain ⟨x1, s2, ex1, h⟩ := ob_inv h
  refine cx_callS2 c_H_batch_2 (cx_hst (fun _ q => nomatch q) (Nat.le_of_ble_eq_true rfl)) (E_H_isBelow ex1 ?_)
  refine oj_step (P := fun J3 : cx_S → Option ((Nat ⊕ Int32) × cx_S) => ∀ (s4 : cx_S) (d0 : Option Value) (d1 : Option Value) (d2 : Option Value) (d3 : Option Value), J3 s4 = some (r, sz) → cx G me_H_batch 18 [d0, d1, d2, d3] [] s4 Q) h ?_ ?_
  · intro s4 d0 d1 d2 d3 h
    obtain ⟨hn18, h⟩ := on_inv h
    exact cx_throw hfl t_H_batch_18 (by decide) rfl rfl hn18 (ox_ti hq h)
  clear h
  intro J3 hJ1 h
  refine cx_if_eq (tgt := 18) d_H_batch_5 (by decide) (fun hc5 => ?_) (fun hc5 => ?_)
  · rw [if_pos hc5] at h
    exact hJ1 _ _ _ _ _ h
  · rw [if_neg hc5] at h
    refine cx_iload_n d_H_batch_8 rfl ?_
    refine cx_sipush (v := nI 1001) d_H_batch_9 (by decide) ?_
    obtain ⟨x5, s6, ex5, h⟩ := ob_inv h
    refine cx_callS2 c_H_batch_12 (cx_hst (fun _ q => nomatch q) (Nat.le_of_ble_eq_true rfl)) (E_H_isBelow ex5 ?_)
    refine cx_if_ne (tgt := 28) d_H_batch_15 (by decide) (fun hc15 => ?_) (fun hc15 => ?_)
    · rw [if_neg hc15] at h
      refine cx_aload_n d_H_batch_28 rfl ?_
      obtain ⟨p7, ep7, hp7, h⟩ := oc_inv h
      refine cx_getr 0 rfl g_H_batch_29 rfl (by decide) ep7 hp7 ?_
      refine cx_iload_n d_H_batch_32 rfl ?_
      obtain ⟨a8, na8, j9, ea8, ha8, hj9, gj9, ej9, h⟩ := oa_inv h
      refine cx_aald (t := 3) 403 rfl d_H_batch_33 (by decide) rfl ea8 ha8 hj9 gj9 ej9 ?_
      obtain ⟨p10, ep10, hp10, h⟩ := oc_inv h
      refine cx_geti 96 rfl g_H_batch_34 rfl (by decide) ep10 hp10 ?_
      refine oj_step (P := fun J11 : Unit → Option ((Nat ⊕ Int32) × cx_S) => ∀ (_u : Unit) (d0 : Option Value) (d1 : Option Value) (d2 : Option Value) (d3 : Option Value), J11 () = some (r, sz) → cx G me_H_batch 49 [d0, d1, d2, d3] [] s6 Q) h ?_ ?_
      · intro _u d0 d1 d2 d3 h
        obtain ⟨hn49, h⟩ := on_inv h
        exact cx_throw hfl t_H_batch_49 (by decide) rfl rfl hn49 (ox_ti hq h)
      clear h
      intro J11 hJ2 h
      refine cx_if_eq (tgt := 49) d_H_batch_37 (by decide) (fun hc37 => ?_) (fun hc37 => ?_)
      · rw [if_pos hc37] at h
        exact hJ2 () _ _ _ _ h
      · rw [if_neg hc37] at h
        refine cx_aload_n d_H_batch_40 rfl ?_
        refine cx_geti 2 rfl g_H_batch_41 rfl (by decide) ep7 hp7 ?_
        refine cx_bipush (v := nI 16) d_H_batch_44 (by decide) ?_
        refine cx_icmp_lt (tgt := 59) d_H_batch_46 (by decide) (fun hc46 => ?_) (fun hc46 => ?_)
        · rw [if_pos hc46] at h
          refine cx_aload_n d_H_batch_59 rfl ?_
          refine cx_geti 2 rfl g_H_batch_60 rfl (by decide) ep7 hp7 ?_
          refine cx_istore_n d_H_batch_63 (by decide) ?_
          refine cx_aload_n d_H_batch_64 rfl ?_
          refine cx_getr 1 rfl g_H_batch_65 rfl (by decide) ep7 hp7 ?_
          refine cx_iload_n d_H_batch_68 rfl ?_
          obtain ⟨hn69, h⟩ := on_inv h
          refine cx_new (z := 10) n_H_batch_69 (by decide) hn69.2 hn69.1 rfl (by decide) ?_
          refine cx_dup d_H_batch_72 (by first | rfl | exact cx_cat) ?_
          refine cx_iload_n d_H_batch_73 rfl ?_
          refine cx_iload_n d_H_batch_74 rfl ?_
          refine cx_aload_n d_H_batch_75 rfl ?_
          obtain ⟨p12, ep12, hp12, h⟩ := oc_inv h
          refine cx_getr 0 rfl g_H_batch_76 rfl (by decide) ep12 hp12 ?_
          refine cx_iload_n d_H_batch_79 rfl ?_
          obtain ⟨a13, na13, j14, ea13, ha13, hj14, gj14, ej14, h⟩ := oa_inv h
          refine cx_aald (t := 3) 403 rfl d_H_batch_80 (by decide) rfl ea13 ha13 hj14 gj14 ej14 ?_
          refine cx_iload_n d_H_batch_81 rfl ?_
          obtain ⟨x15, s16, ex15, h⟩ := ob_inv h
          refine cx_callI4v c_H_batch_82 (cx_hst (List.forall_mem_cons.mpr ⟨cx_cat, (List.forall_mem_cons.mpr ⟨rfl, (List.forall_mem_cons.mpr ⟨cx_cat, (fun _ q => nomatch q)⟩)⟩)⟩) (Nat.le_of_ble_eq_true rfl)) rfl (E_B_init ex15 ?_)
          obtain ⟨p17, ep17, hp17, h⟩ := oc_inv h
          obtain ⟨a18, na18, j19, ea18, ha18, hj19, gj19, ej19, h⟩ := oa_inv h
          refine cx_aast (t := 4) (ci := 1) 404 rfl d_H_batch_85 (by decide) rfl rfl (by decide) ep17 hp17 ea18 ha18 hj19 gj19 ej19 ?_
          refine cx_aload_n d_H_batch_86 rfl ?_
          refine cx_dup d_H_batch_87 (by first | rfl | exact cx_cat) ?_
          obtain ⟨p20, ep20, hp20, h⟩ := oc_inv h
          refine cx_geti 2 rfl g_H_batch_88 rfl (by decide) ep20 hp20 ?_
          refine cx_iconst (v := nI 1) d_H_batch_91 (by decide) ?_
          refine cx_iadd d_H_batch_92 ?_
          refine cx_puti 2 rfl p_H_batch_93 rfl (by decide) rfl rfl ep20 hp20 ?_
          refine cx_iload_n d_H_batch_96 rfl ?_
          exact cx_iret d_H_batch_97 rfl (ox_xi hq h)
        · rw [if_neg hc46] at h
          exact hJ2 () _ _ _ _ h
    · rw [if_pos hc15] at h
      exact hJ1 _ _ _ _ _ h
theorem E_H_findBatch {G : bm_G} (hfl : G.1.flags = pinnedFlags ++ [noTraceFlag]) {f : Nat} {l0 : Nat} {l1 : Int32} {s sz : cx_S} {r : (Nat ⊕ Option Nat)} {Q : bm_R → cx_S → Prop} (h : D_H_findBatch f l0 l1 s = some (r, sz)) (hq : Q (xr_r r) sz) : cx_T2 G me_H_findBatch [va_rf (some l0), .int (l1)] s Q := by
  refine cx_met2 (by decide) (List.forall_mem_cons.mpr ⟨cx_cat, (List.forall_mem_cons.mpr ⟨rfl, (fun _ q => nomatch q)⟩)⟩) (Nat.le_of_ble_eq_true rfl) ?_
  unfold D_H_findBatch at h
  refine cx_iload_n d_H_findBatch_0 rfl ?_
  refine cx_aload_n d_H_findBatch_1 rfl ?_
  obtain ⟨p1, ep1, hp1, h⟩ := oc_inv h
  refine cx_geti 2 rfl g_H_findBatch_2 rfl (by decide) ep1 hp1 ?_
  obtain ⟨x2, s3, ex2, h⟩ := ob_inv h
  refine cx_callS2 c_H_findBatch_5 (cx_hst (fun _ q => nomatch q) (Nat.le_of_ble_eq_true rfl)) (E_H_isBelow ex2 ?_)
  refine cx_if_ne (tgt := 21) d_H_findBatch_8 (by decide) (fun hc8 => ?_) (fun hc8 => ?_)
  · rw [if_neg hc8] at h
    refine cx_aload_n d_H_findBatch_21 rfl ?_
    obtain ⟨p4, ep4, hp4, h⟩ := oc_inv h
    refine cx_getr 1 rfl g_H_findBatch_22 rfl (by decide) ep4 hp4 ?_
    refine cx_iload_n d_H_findBatch_25 rfl ?_
    obtain ⟨a5, na5, j6, ea5, ha5, hj6, gj6, ej6, h⟩ := oa_inv h
    refine cx_aald (t := 4) 404 rfl d_H_findBatch_26 (by decide) rfl ea5 ha5 hj6 gj6 ej6 ?_
    exact cx_aret d_H_findBatch_27 rfl (Or.inl ⟨_, rfl⟩) (ox_xr hq h)
  · rw [if_pos hc8] at h
    obtain ⟨hn11, h⟩ := on_inv h
    exact cx_throw hfl t_H_findBatch_11 (by decide) rfl rfl hn11 (ox_tr hq h)
theorem E_F_enqueue {G : bm_G} {f : Nat} {l0 : Nat} {l1 : Option Nat} {s sz : cx_S} {r : Int32} {Q : cx_S → Prop} (h : D_F_enqueue f l0 l1 s = some (r, sz)) (hq : Q sz) : cx_Tv G me_F_enqueue [va_rf (some l0), va_rf (l1)] s Q := by
  refine cx_metv (by decide) (List.forall_mem_cons.mpr ⟨cx_cat, (List.forall_mem_cons.mpr ⟨cx_cat, (fun _ q => nomatch q)⟩)⟩) (Nat.le_of_ble_eq_true rfl) ?_
  generalize hQ : (fun (v : bm_R) (s2 : cx_S) => v = .inl none ∧ Q s2) = Q2
  replace hq : Q2 (.inl none) sz := by rw [← hQ]; exact ⟨rfl, hq⟩
  clear hQ
  unfold D_F_enqueue at h
  refine cx_aload_n d_F_enqueue_0 rfl ?_
  obtain ⟨p1, ep1, hp1, h⟩ := oc_inv h
  refine cx_geti 36 rfl g_F_enqueue_1 rfl (by decide) ep1 hp1 ?_
  refine cx_bipush (v := nI 16) d_F_enqueue_4 (by decide) ?_
  refine oj_step (P := fun J2 : cx_S → Option (Int32 × cx_S) => ∀ (s3 : cx_S) (d0 : Option Value) (d1 : Option Value), J2 s3 = some (r, sz) → cx G me_F_enqueue 34 [d0, d1] [] s3 Q2) h ?_ ?_
  · intro s3 d0 d1 h
    exact cx_vret d_F_enqueue_34 rfl (ox_v hq h)
  clear h
  intro J2 hJ1 h
  refine cx_icmp_ge (tgt := 34) d_F_enqueue_6 (by decide) (fun hc6 => ?_) (fun hc6 => ?_)
  · rw [if_pos hc6] at h
    exact hJ1 _ _ _ h
  · rw [if_neg hc6] at h
    refine cx_aload_n d_F_enqueue_9 rfl ?_
    refine cx_iconst (v := nI 1) d_F_enqueue_10 (by decide) ?_
    obtain ⟨p4, ep4, hp4, h⟩ := oc_inv h
    refine cx_puti 20 rfl p_F_enqueue_11 rfl (by decide) rfl rfl ep4 hp4 ?_
    refine cx_aload_n d_F_enqueue_14 rfl ?_
    refine cx_getr 35 rfl g_F_enqueue_15 rfl (by decide) ep1 hp1 ?_
    refine cx_aload_n d_F_enqueue_18 rfl ?_
    refine cx_geti 36 rfl g_F_enqueue_19 rfl (by decide) ep1 hp1 ?_
    refine cx_aload_n d_F_enqueue_22 rfl ?_
    obtain ⟨a5, na5, j6, ea5, ha5, hj6, gj6, ej6, h⟩ := oa_inv h
    refine cx_aast (t := 4) (ci := 1) 404 rfl d_F_enqueue_23 (by decide) rfl rfl (by decide) ep4 hp4 ea5 ha5 hj6 gj6 ej6 ?_
    refine cx_aload_n d_F_enqueue_24 rfl ?_
    refine cx_dup d_F_enqueue_25 (by first | rfl | exact cx_cat) ?_
    refine cx_geti 36 rfl g_F_enqueue_26 rfl (by decide) ep1 hp1 ?_
    refine cx_iconst (v := nI 1) d_F_enqueue_29 (by decide) ?_
    refine cx_iadd d_F_enqueue_30 ?_
    refine cx_puti 36 rfl p_F_enqueue_31 rfl (by decide) rfl rfl ep1 hp1 ?_
    exact hJ1 _ _ _ h
theorem E_H_start {G : bm_G} (hfl : G.1.flags = pinnedFlags ++ [noTraceFlag]) {f : Nat} {l0 : Nat} {l1 : Int32} {s sz : cx_S} {r : (Nat ⊕ Int32)} {Q : bm_R → cx_S → Prop} (h : D_H_start f l0 l1 s = some (r, sz)) (hq : Q (xr_i r) sz) : cx_T2 G me_H_start [va_rf (some l0), .int (l1)] s Q := by
  refine cx_met2 (by decide) (List.forall_mem_cons.mpr ⟨cx_cat, (List.forall_mem_cons.mpr ⟨rfl, (fun _ q => nomatch q)⟩)⟩) (Nat.le_of_ble_eq_true rfl) ?_
  unfold D_H_start at h
  refine cx_aload_n d_H_start_0 rfl ?_
  refine cx_iload_n d_H_start_1 rfl ?_
  obtain ⟨p1, ep1, hp1, h⟩ := oc_inv h
  obtain ⟨x2, s3, ex2, h⟩ := ob_inv h
  refine cx_callX1r c_H_start_2 x_H_start_2 kc_H_start (cx_hst (fun _ q => nomatch q) (Nat.le_of_ble_eq_true rfl)) (by decide) ep1 hp1 (fun _ q => E_H_findBatch hfl ex2 q) (fun _ q => by subst q; exact ox_ti hq h) (fun b4 q => ?_)
  subst q
  refine cx_astore_n d_H_start_5 (by decide) ?_
  refine cx_aload_n d_H_start_6 rfl ?_
  obtain ⟨p5, ep5, hp5, h⟩ := oc_inv h
  refine cx_geti 20 rfl g_H_start_7 rfl (by decide) ep5 hp5 ?_
  refine cx_if_eq (tgt := 23) d_H_start_10 (by decide) (fun hc10 => ?_) (fun hc10 => ?_)
  · rw [if_pos hc10] at h
    refine cx_aload_n d_H_start_23 rfl ?_
    obtain ⟨p6, ep6, hp6, h⟩ := oc_inv h
    refine cx_getr 4 rfl g_H_start_24 rfl (by decide) ep6 hp6 ?_
    refine cx_aload_n d_H_start_27 rfl ?_
    obtain ⟨p7, ep7, hp7, h⟩ := oc_inv h
    obtain ⟨x8, s9, ex8, h⟩ := ob_inv h
    refine cx_callV1v c_H_start_28 (cx_hst (fun _ q => nomatch q) (Nat.le_of_ble_eq_true rfl)) (by decide) ep7 hp7 (E_F_enqueue ex8 ?_)
    refine cx_aload_n d_H_start_31 rfl ?_
    obtain ⟨p10, ep10, hp10, h⟩ := oc_inv h
    refine cx_getr 4 rfl g_H_start_32 rfl (by decide) ep10 hp10 ?_
    obtain ⟨p11, ep11, hp11, h⟩ := oc_inv h
    obtain ⟨x12, s13, ex12, h⟩ := ob_inv h
    refine cx_callV0v c_H_start_35 (cx_hst (fun _ q => nomatch q) (Nat.le_of_ble_eq_true rfl)) (by decide) ep11 hp11 (E_F_serveWaiting ex12 ?_)
    refine cx_aload_n d_H_start_38 rfl ?_
    obtain ⟨p14, ep14, hp14, h⟩ := oc_inv h
    refine cx_geti 20 rfl g_H_start_39 rfl (by decide) ep14 hp14 ?_
    exact cx_iret d_H_start_42 rfl (ox_xi hq h)
  · rw [if_neg hc10] at h
    obtain ⟨hn13, h⟩ := on_inv h
    exact cx_throw hfl t_H_start_13 (by decide) rfl rfl hn13 (ox_ti hq h)
theorem E_H_hold {G : bm_G} (hfl : G.1.flags = pinnedFlags ++ [noTraceFlag]) {f : Nat} {l0 : Nat} {l1 : Int32} {s sz : cx_S} {r : (Nat ⊕ Int32)} {Q : bm_R → cx_S → Prop} (h : D_H_hold f l0 l1 s = some (r, sz)) (hq : Q (xr_v r) sz) : cx_T2 G me_H_hold [va_rf (some l0), .int (l1)] s Q := by
  refine cx_met2 (by decide) (List.forall_mem_cons.mpr ⟨cx_cat, (List.forall_mem_cons.mpr ⟨rfl, (fun _ q => nomatch q)⟩)⟩) (Nat.le_of_ble_eq_true rfl) ?_
  unfold D_H_hold at h
  refine cx_aload_n d_H_hold_0 rfl ?_
  refine cx_iload_n d_H_hold_1 rfl ?_
  obtain ⟨p1, ep1, hp1, h⟩ := oc_inv h
  obtain ⟨x2, s3, ex2, h⟩ := ob_inv h
  refine cx_callX1r c_H_hold_2 x_H_hold_2 kc_H_hold (cx_hst (fun _ q => nomatch q) (Nat.le_of_ble_eq_true rfl)) (by decide) ep1 hp1 (fun _ q => E_H_findBatch hfl ex2 q) (fun _ q => by subst q; exact ox_tv hq h) (fun b4 q => ?_)
  subst q
  refine cx_astore_n d_H_hold_5 (by decide) ?_
  refine cx_aload_n d_H_hold_6 rfl ?_
  obtain ⟨p5, ep5, hp5, h⟩ := oc_inv h
  refine cx_geti 20 rfl g_H_hold_7 rfl (by decide) ep5 hp5 ?_
  refine cx_iconst (v := nI 2) d_H_hold_10 (by decide) ?_
  refine cx_icmp_eq (tgt := 24) d_H_hold_11 (by decide) (fun hc11 => ?_) (fun hc11 => ?_)
  · rw [if_pos hc11] at h
    refine cx_aload_n d_H_hold_24 rfl ?_
    refine cx_iconst (v := nI 3) d_H_hold_25 (by decide) ?_
    refine cx_puti 20 rfl p_H_hold_26 rfl (by decide) rfl rfl ep5 hp5 ?_
    exact cx_vret d_H_hold_29 rfl (ox_xv hq h)
  · rw [if_neg hc11] at h
    obtain ⟨hn14, h⟩ := on_inv h
    exact cx_throw hfl t_H_hold_14 (by decide) rfl rfl hn14 (ox_tv hq h)
theorem E_H_restart {G : bm_G} (hfl : G.1.flags = pinnedFlags ++ [noTraceFlag]) {f : Nat} {l0 : Nat} {l1 : Int32} {s sz : cx_S} {r : (Nat ⊕ Int32)} {Q : bm_R → cx_S → Prop} (h : D_H_restart f l0 l1 s = some (r, sz)) (hq : Q (xr_i r) sz) : cx_T2 G me_H_restart [va_rf (some l0), .int (l1)] s Q := by
  refine cx_met2 (by decide) (List.forall_mem_cons.mpr ⟨cx_cat, (List.forall_mem_cons.mpr ⟨rfl, (fun _ q => nomatch q)⟩)⟩) (Nat.le_of_ble_eq_true rfl) ?_
  unfold D_H_restart at h
  refine cx_aload_n d_H_restart_0 rfl ?_
  refine cx_iload_n d_H_restart_1 rfl ?_
  obtain ⟨p1, ep1, hp1, h⟩ := oc_inv h
  obtain ⟨x2, s3, ex2, h⟩ := ob_inv h
  refine cx_callX1r c_H_restart_2 x_H_restart_2 kc_H_restart (cx_hst (fun _ q => nomatch q) (Nat.le_of_ble_eq_true rfl)) (by decide) ep1 hp1 (fun _ q => E_H_findBatch hfl ex2 q) (fun _ q => by subst q; exact ox_ti hq h) (fun b4 q => ?_)
  subst q
  refine cx_astore_n d_H_restart_5 (by decide) ?_
  refine cx_aload_n d_H_restart_6 rfl ?_
  obtain ⟨p5, ep5, hp5, h⟩ := oc_inv h
  refine cx_geti 20 rfl g_H_restart_7 rfl (by decide) ep5 hp5 ?_
  refine cx_iconst (v := nI 3) d_H_restart_10 (by decide) ?_
  refine cx_icmp_eq (tgt := 24) d_H_restart_11 (by decide) (fun hc11 => ?_) (fun hc11 => ?_)
  · rw [if_pos hc11] at h
    refine cx_aload_n d_H_restart_24 rfl ?_
    refine cx_iconst (v := nI 2) d_H_restart_25 (by decide) ?_
    refine cx_puti 20 rfl p_H_restart_26 rfl (by decide) rfl rfl ep5 hp5 ?_
    refine cx_aload_n d_H_restart_29 rfl ?_
    refine cx_geti 20 rfl g_H_restart_30 rfl (by decide) ep5 hp5 ?_
    exact cx_iret d_H_restart_33 rfl (ox_xi hq h)
  · rw [if_neg hc11] at h
    obtain ⟨hn14, h⟩ := on_inv h
    exact cx_throw hfl t_H_restart_14 (by decide) rfl rfl hn14 (ox_ti hq h)
theorem E_H_stop {G : bm_G} (hfl : G.1.flags = pinnedFlags ++ [noTraceFlag]) {f : Nat} {l0 : Nat} {l1 : Int32} {s sz : cx_S} {r : (Nat ⊕ Int32)} {Q : bm_R → cx_S → Prop} (h : D_H_stop f l0 l1 s = some (r, sz)) (hq : Q (xr_i r) sz) : cx_T2 G me_H_stop [va_rf (some l0), .int (l1)] s Q := by
  refine cx_met2 (by decide) (List.forall_mem_cons.mpr ⟨cx_cat, (List.forall_mem_cons.mpr ⟨rfl, (fun _ q => nomatch q)⟩)⟩) (Nat.le_of_ble_eq_true rfl) ?_
  unfold D_H_stop at h
  refine cx_aload_n d_H_stop_0 rfl ?_
  refine cx_iload_n d_H_stop_1 rfl ?_
  obtain ⟨p1, ep1, hp1, h⟩ := oc_inv h
  obtain ⟨x2, s3, ex2, h⟩ := ob_inv h
  refine cx_callX1r c_H_stop_2 x_H_stop_2 kc_H_stop (cx_hst (fun _ q => nomatch q) (Nat.le_of_ble_eq_true rfl)) (by decide) ep1 hp1 (fun _ q => E_H_findBatch hfl ex2 q) (fun _ q => by subst q; exact ox_ti hq h) (fun b4 q => ?_)
  subst q
  refine cx_astore_n d_H_stop_5 (by decide) ?_
  refine cx_aload_n d_H_stop_6 rfl ?_
  obtain ⟨p5, ep5, hp5, h⟩ := oc_inv h
  refine cx_geti 20 rfl g_H_stop_7 rfl (by decide) ep5 hp5 ?_
  refine cx_iconst (v := nI 2) d_H_stop_10 (by decide) ?_
  refine oj_step (P := fun J6 : Unit → Option ((Nat ⊕ Int32) × cx_S) => ∀ (_u : Unit) (d1 : Option Value), J6 () = some (r, sz) → cx G me_H_stop 32 [some (va_rf (some l0)), d1, some (va_rf (b4))] [] s3 Q) h ?_ ?_
  · intro _u d1 h
    refine cx_aload_n d_H_stop_32 rfl ?_
    refine cx_iconst (v := nI 4) d_H_stop_33 (by decide) ?_
    refine cx_puti 20 rfl p_H_stop_34 rfl (by decide) rfl rfl ep5 hp5 ?_
    refine cx_aload_n d_H_stop_37 rfl ?_
    obtain ⟨x7, s8, ex7, h⟩ := ob_inv h
    refine cx_callV0 c_H_stop_38 (cx_hst (fun _ q => nomatch q) (Nat.le_of_ble_eq_true rfl)) (by decide) ep5 hp5 (E_B_countBegun ex7 ?_)
    refine oj_step (P := fun J9 : cx_S → Option ((Nat ⊕ Int32) × cx_S) => ∀ (s10 : cx_S) (d0 : Option Value) (d1 : Option Value), J9 s10 = some (r, sz) → cx G me_H_stop 60 [d0, d1, some (va_rf (b4))] [] s10 Q) h ?_ ?_
    · intro s10 d0 d1 h
      refine cx_aload_n d_H_stop_60 rfl ?_
      obtain ⟨p11, ep11, hp11, h⟩ := oc_inv h
      refine cx_geti 20 rfl g_H_stop_61 rfl (by decide) ep11 hp11 ?_
      exact cx_iret d_H_stop_64 rfl (ox_xi hq h)
    clear h
    intro J9 hJ1 h
    refine cx_if_ne (tgt := 60) d_H_stop_41 (by decide) (fun hc41 => ?_) (fun hc41 => ?_)
    · rw [if_neg hc41] at h
      exact hJ1 _ _ _ h
    · rw [if_pos hc41] at h
      refine cx_aload_n d_H_stop_44 rfl ?_
      obtain ⟨p12, ep12, hp12, h⟩ := oc_inv h
      refine cx_getr 4 rfl g_H_stop_45 rfl (by decide) ep12 hp12 ?_
      refine cx_aload_n d_H_stop_48 rfl ?_
      refine cx_iconst (v := nI 5) d_H_stop_49 (by decide) ?_
      obtain ⟨p13, ep13, hp13, h⟩ := oc_inv h
      obtain ⟨x14, s15, ex14, h⟩ := ob_inv h
      refine cx_callV2v c_H_stop_50 (cx_hst (fun _ q => nomatch q) (Nat.le_of_ble_eq_true rfl)) (by decide) ep13 hp13 (E_F_finish ex14 ?_)
      refine cx_aload_n d_H_stop_53 rfl ?_
      obtain ⟨p16, ep16, hp16, h⟩ := oc_inv h
      refine cx_getr 4 rfl g_H_stop_54 rfl (by decide) ep16 hp16 ?_
      obtain ⟨p17, ep17, hp17, h⟩ := oc_inv h
      obtain ⟨x18, s19, ex18, h⟩ := ob_inv h
      refine cx_callV0v c_H_stop_57 (cx_hst (fun _ q => nomatch q) (Nat.le_of_ble_eq_true rfl)) (by decide) ep17 hp17 (E_F_serveWaiting ex18 ?_)
      exact hJ1 _ _ _ h
  clear h
  intro J6 hJ2 h
  refine cx_icmp_eq (tgt := 32) d_H_stop_11 (by decide) (fun hc11 => ?_) (fun hc11 => ?_)
  · rw [if_pos hc11] at h
    exact hJ2 () _ h
  · rw [if_neg hc11] at h
    refine cx_aload_n d_H_stop_14 rfl ?_
    refine cx_geti 20 rfl g_H_stop_15 rfl (by decide) ep5 hp5 ?_
    refine cx_iconst (v := nI 3) d_H_stop_18 (by decide) ?_
    refine cx_icmp_eq (tgt := 32) d_H_stop_19 (by decide) (fun hc19 => ?_) (fun hc19 => ?_)
    · rw [if_pos hc19] at h
      exact hJ2 () _ h
    · rw [if_neg hc19] at h
      obtain ⟨hn22, h⟩ := on_inv h
      exact cx_throw hfl t_H_stop_22 (by decide) rfl rfl hn22 (ox_ti hq h)
