theorem E_H_link {G : bm_G} {f : Nat} {l0 : Nat} {l1 : Int32} {l2 : Int32} {l3 : Int32} {l4 : Int32} {s sz : cx_S} {r : Int32} {Q : Int32 → cx_S → Prop} (h : D_H_link f l0 l1 l2 l3 l4 s = some (r, sz)) (hq : Q r sz) : cx_Ti G me_H_link [va_rf (some l0), .int (l1), .int (l2), .int (l3), .int (l4)] s Q := by
  refine cx_meti (by decide) (List.forall_mem_cons.mpr ⟨cx_cat, (List.forall_mem_cons.mpr ⟨rfl, (List.forall_mem_cons.mpr ⟨rfl, (List.forall_mem_cons.mpr ⟨rfl, (List.forall_mem_cons.mpr ⟨rfl, (fun _ q => nomatch q)⟩)⟩)⟩)⟩)⟩) (Nat.le_of_ble_eq_true rfl) ?_
  generalize hQ : (fun (v : bm_R) (s2 : cx_S) => ∃ x, v = .inl (some (.int x)) ∧ Q x s2) = Q2
  replace hq : Q2 (.inl (some (.int (r)))) sz := by rw [← hQ]; exact ⟨_, rfl, hq⟩
  clear hQ
  unfold D_H_link at h
  refine cx_aload_n d_H_link_0 rfl ?_
  refine cx_iload_n d_H_link_1 rfl ?_
  obtain ⟨p1, ep1, hp1, h⟩ := oc_inv h
  obtain ⟨x2, s3, ex2, h⟩ := ob_inv h
  refine cx_callV1 c_H_link_2 (cx_hst (fun _ q => nomatch q) (Nat.le_of_ble_eq_true rfl)) (by decide) ep1 hp1 (E_H_isEditable ex2 ?_)
  refine oj_step (P := fun J4 : cx_S → Option (Int32 × cx_S) => ∀ (s5 : cx_S) (d0 : Option Value) (d1 : Option Value) (d2 : Option Value) (d3 : Option Value) (d4 : Option Value) (d5 : Option Value), J4 s5 = some (r, sz) → cx G me_H_link 24 [d0, d1, d2, d3, d4, d5] [] s5 Q2) h ?_ ?_
  · intro s5 d0 d1 d2 d3 d4 d5 h
    refine cx_iconst (v := nI 0) d_H_link_24 (by decide) ?_
    exact cx_zret d_H_link_25 rfl (by decide) (ox_i hq h)
  clear h
  intro J4 hJ1 h
  refine cx_if_eq (tgt := 24) d_H_link_5 (by decide) (fun hc5 => ?_) (fun hc5 => ?_)
  · rw [if_pos hc5] at h
    exact hJ1 _ _ _ _ _ _ _ h
  · rw [if_neg hc5] at h
    refine cx_iload_n d_H_link_8 rfl ?_
    refine cx_aload_n d_H_link_9 rfl ?_
    obtain ⟨p6, ep6, hp6, h⟩ := oc_inv h
    refine cx_getr 0 rfl g_H_link_10 rfl (by decide) ep6 hp6 ?_
    refine cx_iload_n d_H_link_13 rfl ?_
    obtain ⟨a7, na7, j8, ea7, ha7, hj8, gj8, ej8, h⟩ := oa_inv h
    refine cx_aald (t := 3) 403 rfl d_H_link_14 (by decide) rfl ea7 ha7 hj8 gj8 ej8 ?_
    obtain ⟨p9, ep9, hp9, h⟩ := oc_inv h
    refine cx_geti 97 rfl g_H_link_15 rfl (by decide) ep9 hp9 ?_
    obtain ⟨x10, s11, ex10, h⟩ := ob_inv h
    refine cx_callS2 c_H_link_18 (cx_hst (fun _ q => nomatch q) (Nat.le_of_ble_eq_true rfl)) (E_H_isBelow ex10 ?_)
    refine cx_if_ne (tgt := 26) d_H_link_21 (by decide) (fun hc21 => ?_) (fun hc21 => ?_)
    · rw [if_neg hc21] at h
      refine cx_aload_n d_H_link_26 rfl ?_
      obtain ⟨p12, ep12, hp12, h⟩ := oc_inv h
      refine cx_getr 0 rfl g_H_link_27 rfl (by decide) ep12 hp12 ?_
      refine cx_iload_n d_H_link_30 rfl ?_
      obtain ⟨a13, na13, j14, ea13, ha13, hj14, gj14, ej14, h⟩ := oa_inv h
      refine cx_aald (t := 3) 403 rfl d_H_link_31 (by decide) rfl ea13 ha13 hj14 gj14 ej14 ?_
      obtain ⟨p15, ep15, hp15, h⟩ := oc_inv h
      refine cx_getr 99 rfl g_H_link_32 rfl (by decide) ep15 hp15 ?_
      refine cx_iload_n d_H_link_35 rfl ?_
      obtain ⟨a16, na16, j17, ea16, ha16, hj17, gj17, ej17, h⟩ := oa_inv h
      refine cx_aald (t := 7) 407 rfl d_H_link_36 (by decide) rfl ea16 ha16 hj17 gj17 ej17 ?_
      refine cx_astore d_H_link_37 (by decide) ?_
      refine cx_aload d_H_link_39 rfl ?_
      refine cx_iload_n d_H_link_41 rfl ?_
      obtain ⟨p18, ep18, hp18, h⟩ := oc_inv h
      refine cx_puti 132 rfl p_H_link_42 rfl (by decide) rfl rfl ep18 hp18 ?_
      refine cx_aload d_H_link_45 rfl ?_
      refine cx_iload d_H_link_47 rfl ?_
      refine cx_puti 133 rfl p_H_link_49 rfl (by decide) rfl rfl ep18 hp18 ?_
      refine cx_iconst (v := nI 1) d_H_link_52 (by decide) ?_
      exact cx_zret d_H_link_53 rfl (by decide) (ox_i hq h)
    · rw [if_pos hc21] at h
      exact hJ1 _ _ _ _ _ _ _ h
theorem E_F_unitFor {G : bm_G} {f : Nat} {l0 : Nat} {l1 : Option Nat} {l2 : Int32} {s sz : cx_S} {r : Option Nat} {Q : Option Nat → cx_S → Prop} (h : D_F_unitFor f l0 l1 l2 s = some (r, sz)) (hq : Q r sz) : cx_Tr G me_F_unitFor [va_rf (some l0), va_rf (l1), .int (l2)] s Q := by
  refine cx_metr (by decide) (List.forall_mem_cons.mpr ⟨cx_cat, (List.forall_mem_cons.mpr ⟨cx_cat, (List.forall_mem_cons.mpr ⟨rfl, (fun _ q => nomatch q)⟩)⟩)⟩) (Nat.le_of_ble_eq_true rfl) ?_
  generalize hQ : (fun (v : bm_R) (s2 : cx_S) => ∃ x, v = .inl (some (va_rf (x))) ∧ Q x s2) = Q2
  replace hq : Q2 (.inl (some (va_rf (r)))) sz := by rw [← hQ]; exact ⟨_, rfl, hq⟩
  clear hQ
  unfold D_F_unitFor at h
  refine cx_aload_n d_F_unitFor_0 rfl ?_
  obtain ⟨p1, ep1, hp1, h⟩ := oc_inv h
  refine cx_getr 32 rfl g_F_unitFor_1 rfl (by decide) ep1 hp1 ?_
  refine cx_aload_n d_F_unitFor_4 rfl ?_
  obtain ⟨p2, ep2, hp2, h⟩ := oc_inv h
  refine cx_getr 25 rfl g_F_unitFor_5 rfl (by decide) ep2 hp2 ?_
  refine cx_iload_n d_F_unitFor_8 rfl ?_
  obtain ⟨a3, na3, j4, ea3, ha3, hj4, gj4, ej4, h⟩ := oa_inv h
  refine cx_iald d_F_unitFor_9 ea3 ha3 hj4 gj4 ej4 ?_
  obtain ⟨a5, na5, j6, ea5, ha5, hj6, gj6, ej6, h⟩ := oa_inv h
  refine cx_aald (t := 5) 405 rfl d_F_unitFor_10 (by decide) rfl ea5 ha5 hj6 gj6 ej6 ?_
  exact cx_aret d_F_unitFor_11 rfl (Or.inl ⟨_, rfl⟩) (ox_r hq h)
theorem E_U_placeOf_2 {G : bm_G} {f : Nat} {l0 : Nat} {l1 : Int32} {r : Int32} {sz : cx_S} {Q : bm_R → cx_S → Prop} (hq : Q (.inl (some (.int (r)))) sz) : ∀ (n : Nat) (l2 : Int32) (s : cx_S), D_U_placeOf_2 f l0 l1 n l2 s = some (r, sz) → cx G me_U_placeOf 2 [some (va_rf (some l0)), some (.int (l1)), some (.int (l2))] [] s Q := by
  intro n
  induction n with
  | zero =>
    intro l2 s h
    rw [D_U_placeOf_2] at h
    exact absurd h (by simp)
  | succ n ih =>
    intro l2 s h
    rw [D_U_placeOf_2] at h
    refine cx_iload_n d_U_placeOf_2 rfl ?_
    refine cx_aload_n d_U_placeOf_3 rfl ?_
    obtain ⟨p1, ep1, hp1, h⟩ := oc_inv h
    refine cx_geti 162 rfl g_U_placeOf_4 rfl (by decide) ep1 hp1 ?_
    refine cx_icmp_ge (tgt := 28) d_U_placeOf_7 (by decide) (fun hc7 => ?_) (fun hc7 => ?_)
    · rw [if_pos hc7] at h
      refine cx_iconst (v := (-1)) d_U_placeOf_28 (by decide) ?_
      exact cx_iret d_U_placeOf_29 rfl (ox_i hq h)
    · rw [if_neg hc7] at h
      refine cx_aload_n d_U_placeOf_10 rfl ?_
      refine cx_getr 163 rfl g_U_placeOf_11 rfl (by decide) ep1 hp1 ?_
      refine cx_iload_n d_U_placeOf_14 rfl ?_
      obtain ⟨a2, na2, j3, ea2, ha2, hj3, gj3, ej3, h⟩ := oa_inv h
      refine cx_iald d_U_placeOf_15 ea2 ha2 hj3 gj3 ej3 ?_
      refine cx_iload_n d_U_placeOf_16 rfl ?_
      refine cx_icmp_ne (tgt := 22) d_U_placeOf_17 (by decide) (fun hc17 => ?_) (fun hc17 => ?_)
      · rw [if_neg hc17] at h
        refine cx_iincP d_U_placeOf_22 (by decide) rfl ?_
        refine cx_goto (tgt := 2) d_U_placeOf_25 (by decide) ?_
        exact ih _ _ h
      · rw [if_pos hc17] at h
        refine cx_iload_n d_U_placeOf_20 rfl ?_
        exact cx_iret d_U_placeOf_21 rfl (ox_i hq h)
theorem E_U_placeOf {G : bm_G} {f : Nat} {l0 : Nat} {l1 : Int32} {s sz : cx_S} {r : Int32} {Q : Int32 → cx_S → Prop} (h : D_U_placeOf f l0 l1 s = some (r, sz)) (hq : Q r sz) : cx_Ti G me_U_placeOf [va_rf (some l0), .int (l1)] s Q := by
  refine cx_meti (by decide) (List.forall_mem_cons.mpr ⟨cx_cat, (List.forall_mem_cons.mpr ⟨rfl, (fun _ q => nomatch q)⟩)⟩) (Nat.le_of_ble_eq_true rfl) ?_
  generalize hQ : (fun (v : bm_R) (s2 : cx_S) => ∃ x, v = .inl (some (.int x)) ∧ Q x s2) = Q2
  replace hq : Q2 (.inl (some (.int (r)))) sz := by rw [← hQ]; exact ⟨_, rfl, hq⟩
  clear hQ
  unfold D_U_placeOf at h
  refine cx_iconst (v := nI 0) d_U_placeOf_0 (by decide) ?_
  refine cx_istore_n d_U_placeOf_1 (by decide) ?_
  refine E_U_placeOf_2 (r := r) (sz := sz) hq _ _ _ h
theorem E_U_add {G : bm_G} {f : Nat} {l0 : Nat} {l1 : Int32} {l2 : Int32} {s sz : cx_S} {r : Int32} {Q : cx_S → Prop} (h : D_U_add f l0 l1 l2 s = some (r, sz)) (hq : Q sz) : cx_Tv G me_U_add [va_rf (some l0), .int (l1), .int (l2)] s Q := by
  refine cx_metv (by decide) (List.forall_mem_cons.mpr ⟨cx_cat, (List.forall_mem_cons.mpr ⟨rfl, (List.forall_mem_cons.mpr ⟨rfl, (fun _ q => nomatch q)⟩)⟩)⟩) (Nat.le_of_ble_eq_true rfl) ?_
  generalize hQ : (fun (v : bm_R) (s2 : cx_S) => v = .inl none ∧ Q s2) = Q2
  replace hq : Q2 (.inl none) sz := by rw [← hQ]; exact ⟨rfl, hq⟩
  clear hQ
  unfold D_U_add at h
  refine cx_iload_n d_U_add_0 rfl ?_
  refine cx_if_gt (tgt := 5) d_U_add_1 (by decide) (fun hc1 => ?_) (fun hc1 => ?_)
  · rw [if_pos hc1] at h
    refine cx_aload_n d_U_add_5 rfl ?_
    refine cx_iload_n d_U_add_6 rfl ?_
    obtain ⟨p1, ep1, hp1, h⟩ := oc_inv h
    obtain ⟨x2, s3, ex2, h⟩ := ob_inv h
    refine cx_callV1 c_U_add_7 (cx_hst (fun _ q => nomatch q) (Nat.le_of_ble_eq_true rfl)) (by decide) ep1 hp1 (E_U_placeOf ex2 ?_)
    refine cx_istore_n d_U_add_10 (by decide) ?_
    refine cx_iload_n d_U_add_11 rfl ?_
    refine cx_iconst (v := (-1)) d_U_add_12 (by decide) ?_
    refine oj_step (P := fun J4 : cx_S → Option (Int32 × cx_S) => ∀ (s5 : cx_S) (d0 : Option Value) (d1 : Option Value) (d2 : Option Value) (d3 : Option Value), J4 s5 = some (r, sz) → cx G me_U_add 68 [d0, d1, d2, d3] [] s5 Q2) h ?_ ?_
    · intro s5 d0 d1 d2 d3 h
      exact cx_vret d_U_add_68 rfl (ox_v hq h)
    clear h
    intro J4 hJ1 h
    refine cx_icmp_eq (tgt := 29) d_U_add_13 (by decide) (fun hc13 => ?_) (fun hc13 => ?_)
    · rw [if_pos hc13] at h
      refine cx_aload_n d_U_add_29 rfl ?_
      obtain ⟨p6, ep6, hp6, h⟩ := oc_inv h
      refine cx_geti 162 rfl g_U_add_30 rfl (by decide) ep6 hp6 ?_
      refine cx_bipush (v := nI 100) d_U_add_33 (by decide) ?_
      refine cx_icmp_ge (tgt := 68) d_U_add_35 (by decide) (fun hc35 => ?_) (fun hc35 => ?_)
      · rw [if_pos hc35] at h
        exact hJ1 _ _ _ _ _ h
      · rw [if_neg hc35] at h
        refine cx_aload_n d_U_add_38 rfl ?_
        refine cx_getr 163 rfl g_U_add_39 rfl (by decide) ep6 hp6 ?_
        refine cx_aload_n d_U_add_42 rfl ?_
        refine cx_geti 162 rfl g_U_add_43 rfl (by decide) ep6 hp6 ?_
        refine cx_iload_n d_U_add_46 rfl ?_
        obtain ⟨a7, na7, j8, ea7, ha7, hj8, gj8, ej8, h⟩ := oa_inv h
        refine cx_iast d_U_add_47 ea7 ha7 hj8 gj8 ej8 ?_
        refine cx_aload_n d_U_add_48 rfl ?_
        refine cx_getr 164 rfl g_U_add_49 rfl (by decide) ep6 hp6 ?_
        refine cx_aload_n d_U_add_52 rfl ?_
        refine cx_geti 162 rfl g_U_add_53 rfl (by decide) ep6 hp6 ?_
        refine cx_iload_n d_U_add_56 rfl ?_
        obtain ⟨a9, na9, j10, ea9, ha9, hj10, gj10, ej10, h⟩ := oa_inv h
        refine cx_iast d_U_add_57 ea9 ha9 hj10 gj10 ej10 ?_
        refine cx_aload_n d_U_add_58 rfl ?_
        refine cx_dup d_U_add_59 (by first | rfl | exact cx_cat) ?_
        refine cx_geti 162 rfl g_U_add_60 rfl (by decide) ep6 hp6 ?_
        refine cx_iconst (v := nI 1) d_U_add_63 (by decide) ?_
        refine cx_iadd d_U_add_64 ?_
        refine cx_puti 162 rfl p_U_add_65 rfl (by decide) rfl rfl ep6 hp6 ?_
        exact hJ1 _ _ _ _ _ h
    · rw [if_neg hc13] at h
      refine cx_aload_n d_U_add_16 rfl ?_
      obtain ⟨p11, ep11, hp11, h⟩ := oc_inv h
      refine cx_getr 164 rfl g_U_add_17 rfl (by decide) ep11 hp11 ?_
      refine cx_iload_n d_U_add_20 rfl ?_
      refine cx_dup2 d_U_add_21 (by first | rfl | exact cx_cat) (by first | rfl | exact cx_cat) ?_
      obtain ⟨a12, na12, j13, ea12, ha12, hj13, gj13, ej13, h⟩ := oa_inv h
      refine cx_iald d_U_add_22 ea12 ha12 hj13 gj13 ej13 ?_
      refine cx_iload_n d_U_add_23 rfl ?_
      refine cx_iadd d_U_add_24 ?_
      refine cx_iast d_U_add_25 ea12 ha12 hj13 gj13 ej13 ?_
      refine cx_goto (tgt := 68) d_U_add_26 (by decide) ?_
      exact hJ1 _ _ _ _ _ h
  · rw [if_neg hc1] at h
    exact cx_vret d_U_add_4 rfl (ox_v hq h)
theorem E_F_chargeOn {G : bm_G} {f : Nat} {l0 : Nat} {l1 : Option Nat} {l2 : Option Nat} {l3 : Option Nat} {s sz : cx_S} {r : Int32} {Q : cx_S → Prop} (h : D_F_chargeOn f l0 l1 l2 l3 s = some (r, sz)) (hq : Q sz) : cx_Tv G me_F_chargeOn [va_rf (some l0), va_rf (l1), va_rf (l2), va_rf (l3)] s Q := by
  refine cx_metv (by decide) (List.forall_mem_cons.mpr ⟨cx_cat, (List.forall_mem_cons.mpr ⟨cx_cat, (List.forall_mem_cons.mpr ⟨cx_cat, (List.forall_mem_cons.mpr ⟨cx_cat, (fun _ q => nomatch q)⟩)⟩)⟩)⟩) (Nat.le_of_ble_eq_true rfl) ?_
  generalize hQ : (fun (v : bm_R) (s2 : cx_S) => v = .inl none ∧ Q s2) = Q2
  replace hq : Q2 (.inl none) sz := by rw [← hQ]; exact ⟨rfl, hq⟩
  clear hQ
  unfold D_F_chargeOn at h
  refine cx_bipush (v := nI 10) d_F_chargeOn_0 (by decide) ?_
  refine cx_aload_n d_F_chargeOn_2 rfl ?_
  obtain ⟨p1, ep1, hp1, h⟩ := oc_inv h
  refine cx_geti 146 rfl g_F_chargeOn_3 rfl (by decide) ep1 hp1 ?_
  refine cx_min d_F_chargeOn_6 ml_F_229 (by decide) (by decide) (cx_hst (fun _ q => nomatch q) (Nat.le_of_ble_eq_true rfl)) ?_
  refine cx_istore d_F_chargeOn_9 (by decide) ?_
  refine cx_aload_n d_F_chargeOn_11 rfl ?_
  refine cx_aload_n d_F_chargeOn_12 rfl ?_
  refine cx_aload_n d_F_chargeOn_13 rfl ?_
  obtain ⟨p2, ep2, hp2, h⟩ := oc_inv h
  refine cx_geti 129 rfl g_F_chargeOn_14 rfl (by decide) ep2 hp2 ?_
  obtain ⟨p3, ep3, hp3, h⟩ := oc_inv h
  obtain ⟨x4, s5, ex4, h⟩ := ob_inv h
  refine cx_callV2r c_F_chargeOn_17 (cx_hst (fun _ q => nomatch q) (Nat.le_of_ble_eq_true rfl)) (by decide) ep3 hp3 (E_F_unitFor ex4 ?_)
  refine cx_aload_n d_F_chargeOn_20 rfl ?_
  obtain ⟨p6, ep6, hp6, h⟩ := oc_inv h
  refine cx_geti 147 rfl g_F_chargeOn_21 rfl (by decide) ep6 hp6 ?_
  refine cx_iload d_F_chargeOn_24 rfl ?_
  obtain ⟨p7, ep7, hp7, h⟩ := oc_inv h
  obtain ⟨x8, s9, ex8, h⟩ := ob_inv h
  refine cx_callV2v c_F_chargeOn_26 (cx_hst (fun _ q => nomatch q) (Nat.le_of_ble_eq_true rfl)) (by decide) ep7 hp7 (E_U_add ex8 ?_)
  refine cx_aload_n d_F_chargeOn_29 rfl ?_
  refine cx_dup d_F_chargeOn_30 (by first | rfl | exact cx_cat) ?_
  obtain ⟨p10, ep10, hp10, h⟩ := oc_inv h
  refine cx_geti 146 rfl g_F_chargeOn_31 rfl (by decide) ep10 hp10 ?_
  refine cx_iload d_F_chargeOn_34 rfl ?_
  refine cx_isub d_F_chargeOn_36 ?_
  refine cx_puti 146 rfl p_F_chargeOn_37 rfl (by decide) rfl rfl ep10 hp10 ?_
  exact cx_vret d_F_chargeOn_40 rfl (ox_v hq h)
theorem E_U_total_4 {G : bm_G} {f : Nat} {l0 : Nat} {r : Int32} {sz : cx_S} {Q : bm_R → cx_S → Prop} (hq : Q (.inl (some (.int (r)))) sz) : ∀ (n : Nat) (l1 : Int32) (l2 : Int32) (s : cx_S), D_U_total_4 f l0 n l1 l2 s = some (r, sz) → cx G me_U_total 4 [some (va_rf (some l0)), some (.int (l1)), some (.int (l2))] [] s Q := by
  intro n
  induction n with
  | zero =>
    intro l1 l2 s h
    rw [D_U_total_4] at h
    exact absurd h (by simp)
  | succ n ih =>
    intro l1 l2 s h
    rw [D_U_total_4] at h
    refine cx_iload_n d_U_total_4 rfl ?_
    refine cx_aload_n d_U_total_5 rfl ?_
    obtain ⟨p1, ep1, hp1, h⟩ := oc_inv h
    refine cx_geti 162 rfl g_U_total_6 rfl (by decide) ep1 hp1 ?_
    refine cx_icmp_ge (tgt := 27) d_U_total_9 (by decide) (fun hc9 => ?_) (fun hc9 => ?_)
    · rw [if_pos hc9] at h
      refine cx_iload_n d_U_total_27 rfl ?_
      exact cx_iret d_U_total_28 rfl (ox_i hq h)
    · rw [if_neg hc9] at h
      refine cx_iload_n d_U_total_12 rfl ?_
      refine cx_aload_n d_U_total_13 rfl ?_
      refine cx_getr 164 rfl g_U_total_14 rfl (by decide) ep1 hp1 ?_
      refine cx_iload_n d_U_total_17 rfl ?_
      obtain ⟨a2, na2, j3, ea2, ha2, hj3, gj3, ej3, h⟩ := oa_inv h
      refine cx_iald d_U_total_18 ea2 ha2 hj3 gj3 ej3 ?_
      refine cx_iadd d_U_total_19 ?_
      refine cx_istore_n d_U_total_20 (by decide) ?_
      refine cx_iincP d_U_total_21 (by decide) rfl ?_
      refine cx_goto (tgt := 4) d_U_total_24 (by decide) ?_
      exact ih _ _ _ h
theorem E_U_total {G : bm_G} {f : Nat} {l0 : Nat} {s sz : cx_S} {r : Int32} {Q : Int32 → cx_S → Prop} (h : D_U_total f l0 s = some (r, sz)) (hq : Q r sz) : cx_Ti G me_U_total [va_rf (some l0)] s Q := by
  refine cx_meti (by decide) (List.forall_mem_cons.mpr ⟨cx_cat, (fun _ q => nomatch q)⟩) (Nat.le_of_ble_eq_true rfl) ?_
  generalize hQ : (fun (v : bm_R) (s2 : cx_S) => ∃ x, v = .inl (some (.int x)) ∧ Q x s2) = Q2
  replace hq : Q2 (.inl (some (.int (r)))) sz := by rw [← hQ]; exact ⟨_, rfl, hq⟩
  clear hQ
  unfold D_U_total at h
  refine cx_iconst (v := nI 0) d_U_total_0 (by decide) ?_
  refine cx_istore_n d_U_total_1 (by decide) ?_
  refine cx_iconst (v := nI 0) d_U_total_2 (by decide) ?_
  refine cx_istore_n d_U_total_3 (by decide) ?_
  refine E_U_total_4 (r := r) (sz := sz) hq _ _ _ _ h
theorem E_V_splitByAmounts_6 {G : bm_G} {f : Nat} {l0 : Nat} {l1 : Option Nat} {l2 : Int32} {l3 : Int32} {r : Int32} {sz : cx_S} {Q : bm_R → cx_S → Prop} (hq : Q (.inl (some (.int (r)))) sz) : ∀ (n : Nat) (l4 : Int32) (l5 : Int32) (d6 : Option Value) (s : cx_S), D_V_splitByAmounts_6 f l0 l1 l2 l3 n l4 l5 s = some (r, sz) → cx G me_V_splitByAmounts 6 [some (va_rf (some l0)), some (va_rf (l1)), some (.int (l2)), some (.int (l3)), some (.int (l4)), some (.int (l5)), d6] [] s Q := by
  intro n
  induction n with
  | zero =>
    intro l4 l5 d6 s h
    rw [D_V_splitByAmounts_6] at h
    exact absurd h (by simp)
  | succ n ih =>
    intro l4 l5 d6 s h
    rw [D_V_splitByAmounts_6] at h
    refine cx_iload d_V_splitByAmounts_6 rfl ?_
    refine cx_aload_n d_V_splitByAmounts_8 rfl ?_
    obtain ⟨p1, ep1, hp1, h⟩ := oc_inv h
    refine cx_geti 162 rfl g_V_splitByAmounts_9 rfl (by decide) ep1 hp1 ?_
    refine oj_step (P := fun J2 : Unit → Option (Int32 × cx_S) => ∀ (_u : Unit) (d0 : Option Value) (d1 : Option Value) (d2 : Option Value) (d3 : Option Value) (d5 : Option Value) (d6 : Option Value), J2 () = some (r, sz) → cx G me_V_splitByAmounts 70 [d0, d1, d2, d3, some (.int (l4)), d5, d6] [] s Q) h ?_ ?_
    · intro _u d0 d1 d2 d3 d5 d6 h
      refine cx_iload d_V_splitByAmounts_70 rfl ?_
      exact cx_iret d_V_splitByAmounts_72 rfl (ox_i hq h)
    clear h
    intro J2 hJ1 h
    refine cx_icmp_ge (tgt := 70) d_V_splitByAmounts_12 (by decide) (fun hc12 => ?_) (fun hc12 => ?_)
    · rw [if_pos hc12] at h
      exact hJ1 () _ _ _ _ _ _ h
    · rw [if_neg hc12] at h
      refine cx_iload_n d_V_splitByAmounts_15 rfl ?_
      refine cx_if_le (tgt := 70) d_V_splitByAmounts_16 (by decide) (fun hc16 => ?_) (fun hc16 => ?_)
      · rw [if_pos hc16] at h
        exact hJ1 () _ _ _ _ _ _ h
      · rw [if_neg hc16] at h
        refine cx_iload_n d_V_splitByAmounts_19 rfl ?_
        refine cx_aload_n d_V_splitByAmounts_20 rfl ?_
        refine cx_getr 164 rfl g_V_splitByAmounts_21 rfl (by decide) ep1 hp1 ?_
        refine cx_iload d_V_splitByAmounts_24 rfl ?_
        obtain ⟨a3, na3, j4, ea3, ha3, hj4, gj4, ej4, h⟩ := oa_inv h
        refine cx_iald d_V_splitByAmounts_26 ea3 ha3 hj4 gj4 ej4 ?_
        refine cx_imul d_V_splitByAmounts_27 ?_
        refine cx_istore d_V_splitByAmounts_28 (by decide) ?_
        refine cx_aload_n d_V_splitByAmounts_30 rfl ?_
        obtain ⟨p5, ep5, hp5, h⟩ := oc_inv h
        refine cx_getr 80 rfl g_V_splitByAmounts_31 rfl (by decide) ep5 hp5 ?_
        refine cx_iload d_V_splitByAmounts_34 rfl ?_
        refine cx_iload d_V_splitByAmounts_36 rfl ?_
        refine cx_iload_n d_V_splitByAmounts_38 rfl ?_
        obtain ⟨hy39, h⟩ := od_inv h
        refine cx_idiv d_V_splitByAmounts_39 hy39 ?_
        obtain ⟨a6, na6, j7, ea6, ha6, hj7, gj7, ej7, h⟩ := oa_inv h
        refine cx_iast d_V_splitByAmounts_40 ea6 ha6 hj7 gj7 ej7 ?_
        refine cx_aload_n d_V_splitByAmounts_41 rfl ?_
        refine cx_getr 81 rfl g_V_splitByAmounts_42 rfl (by decide) ep5 hp5 ?_
        refine cx_iload d_V_splitByAmounts_45 rfl ?_
        refine cx_iload d_V_splitByAmounts_47 rfl ?_
        refine cx_iload_n d_V_splitByAmounts_49 rfl ?_
        obtain ⟨hy50, h⟩ := od_inv h
        refine cx_irem d_V_splitByAmounts_50 hy50 ?_
        obtain ⟨a8, na8, j9, ea8, ha8, hj9, gj9, ej9, h⟩ := oa_inv h
        refine cx_iast d_V_splitByAmounts_51 ea8 ha8 hj9 gj9 ej9 ?_
        refine cx_iload d_V_splitByAmounts_52 rfl ?_
        refine cx_aload_n d_V_splitByAmounts_54 rfl ?_
        refine cx_getr 80 rfl g_V_splitByAmounts_55 rfl (by decide) ep5 hp5 ?_
        refine cx_iload d_V_splitByAmounts_58 rfl ?_
        obtain ⟨a10, na10, j11, ea10, ha10, hj11, gj11, ej11, h⟩ := oa_inv h
        refine cx_iald d_V_splitByAmounts_60 ea10 ha10 hj11 gj11 ej11 ?_
        refine cx_iadd d_V_splitByAmounts_61 ?_
        refine cx_istore d_V_splitByAmounts_62 (by decide) ?_
        refine cx_iincP d_V_splitByAmounts_64 (by decide) rfl ?_
        refine cx_goto (tgt := 6) d_V_splitByAmounts_67 (by decide) ?_
        exact ih _ _ _ _ h
theorem E_V_splitByAmounts {G : bm_G} {f : Nat} {l0 : Nat} {l1 : Option Nat} {l2 : Int32} {l3 : Int32} {s sz : cx_S} {r : Int32} {Q : Int32 → cx_S → Prop} (h : D_V_splitByAmounts f l0 l1 l2 l3 s = some (r, sz)) (hq : Q r sz) : cx_Ti G me_V_splitByAmounts [va_rf (some l0), va_rf (l1), .int (l2), .int (l3)] s Q := by
  refine cx_meti (by decide) (List.forall_mem_cons.mpr ⟨cx_cat, (List.forall_mem_cons.mpr ⟨cx_cat, (List.forall_mem_cons.mpr ⟨rfl, (List.forall_mem_cons.mpr ⟨rfl, (fun _ q => nomatch q)⟩)⟩)⟩)⟩) (Nat.le_of_ble_eq_true rfl) ?_
  generalize hQ : (fun (v : bm_R) (s2 : cx_S) => ∃ x, v = .inl (some (.int x)) ∧ Q x s2) = Q2
  replace hq : Q2 (.inl (some (.int (r)))) sz := by rw [← hQ]; exact ⟨_, rfl, hq⟩
  clear hQ
  unfold D_V_splitByAmounts at h
  refine cx_iconst (v := nI 0) d_V_splitByAmounts_0 (by decide) ?_
  refine cx_istore d_V_splitByAmounts_1 (by decide) ?_
  refine cx_iconst (v := nI 0) d_V_splitByAmounts_3 (by decide) ?_
  refine cx_istore d_V_splitByAmounts_4 (by decide) ?_
  refine E_V_splitByAmounts_6 (r := r) (sz := sz) hq _ _ _ _ _ h
theorem E_V_giveOneMore_4 {G : bm_G} {f : Nat} {l0 : Nat} {l1 : Int32} {k32 : Int32 → cx_S → Option (Int32 × cx_S)} {r : Int32} {sz : cx_S} {Q : bm_R → cx_S → Prop} (hq : Q (.inl none) sz) (hk32 : ∀ (q2 : Int32) (d1 : Option Value) (d3 : Option Value) (s : cx_S), k32 q2 s = some (r, sz) → cx G me_V_giveOneMore 32 [some (va_rf (some l0)), d1, some (.int (q2)), d3] [] s Q) : ∀ (n : Nat) (l2 : Int32) (l3 : Int32) (s : cx_S), D_V_giveOneMore_4 f l0 l1 k32 n l2 l3 s = some (r, sz) → cx G me_V_giveOneMore 4 [some (va_rf (some l0)), some (.int (l1)), some (.int (l2)), some (.int (l3))] [] s Q := by
  intro n
  induction n with
  | zero =>
    intro l2 l3 s h
    rw [D_V_giveOneMore_4] at h
    exact absurd h (by simp)
  | succ n ih =>
    intro l2 l3 s h
    rw [D_V_giveOneMore_4] at h
    refine cx_iload_n d_V_giveOneMore_4 rfl ?_
    refine cx_iload_n d_V_giveOneMore_5 rfl ?_
    refine cx_icmp_ge (tgt := 32) d_V_giveOneMore_6 (by decide) (fun hc6 => ?_) (fun hc6 => ?_)
    · rw [if_pos hc6] at h
      exact hk32 _ _ _ _ h
    · rw [if_neg hc6] at h
      refine cx_aload_n d_V_giveOneMore_9 rfl ?_
      obtain ⟨p1, ep1, hp1, h⟩ := oc_inv h
      refine cx_getr 81 rfl g_V_giveOneMore_10 rfl (by decide) ep1 hp1 ?_
      refine cx_iload_n d_V_giveOneMore_13 rfl ?_
      obtain ⟨a2, na2, j3, ea2, ha2, hj3, gj3, ej3, h⟩ := oa_inv h
      refine cx_iald d_V_giveOneMore_14 ea2 ha2 hj3 gj3 ej3 ?_
      refine cx_aload_n d_V_giveOneMore_15 rfl ?_
      refine cx_getr 81 rfl g_V_giveOneMore_16 rfl (by decide) ep1 hp1 ?_
      refine cx_iload_n d_V_giveOneMore_19 rfl ?_
      obtain ⟨a4, na4, j5, ea4, ha4, hj5, gj5, ej5, h⟩ := oa_inv h
      refine cx_iald d_V_giveOneMore_20 ea4 ha4 hj5 gj5 ej5 ?_
      refine oj_step (P := fun J6 : Int32 → Option (Int32 × cx_S) => ∀ (v7 : Int32), J6 v7 = some (r, sz) → cx G me_V_giveOneMore 26 [some (va_rf (some l0)), some (.int (l1)), some (.int (v7)), some (.int (l3))] [] s Q) h ?_ ?_
      · intro v7 h
        refine cx_iincP d_V_giveOneMore_26 (by decide) rfl ?_
        refine cx_goto (tgt := 4) d_V_giveOneMore_29 (by decide) ?_
        exact ih _ _ _ h
      clear h
      intro J6 hJ1 h
      refine cx_icmp_le (tgt := 26) d_V_giveOneMore_21 (by decide) (fun hc21 => ?_) (fun hc21 => ?_)
      · rw [if_pos hc21] at h
        exact hJ1 _ h
      · rw [if_neg hc21] at h
        refine cx_iload_n d_V_giveOneMore_24 rfl ?_
        refine cx_istore_n d_V_giveOneMore_25 (by decide) ?_
        exact hJ1 _ h
theorem E_V_giveOneMore {G : bm_G} {f : Nat} {l0 : Nat} {l1 : Int32} {s sz : cx_S} {r : Int32} {Q : cx_S → Prop} (h : D_V_giveOneMore f l0 l1 s = some (r, sz)) (hq : Q sz) : cx_Tv G me_V_giveOneMore [va_rf (some l0), .int (l1)] s Q := by
  refine cx_metv (by decide) (List.forall_mem_cons.mpr ⟨cx_cat, (List.forall_mem_cons.mpr ⟨rfl, (fun _ q => nomatch q)⟩)⟩) (Nat.le_of_ble_eq_true rfl) ?_
  generalize hQ : (fun (v : bm_R) (s2 : cx_S) => v = .inl none ∧ Q s2) = Q2
  replace hq : Q2 (.inl none) sz := by rw [← hQ]; exact ⟨rfl, hq⟩
  clear hQ
  unfold D_V_giveOneMore at h
  refine cx_iconst (v := nI 0) d_V_giveOneMore_0 (by decide) ?_
  refine cx_istore_n d_V_giveOneMore_1 (by decide) ?_
  refine cx_iconst (v := nI 1) d_V_giveOneMore_2 (by decide) ?_
  refine cx_istore_n d_V_giveOneMore_3 (by decide) ?_
  refine E_V_giveOneMore_4 (r := r) (sz := sz) hq ?_ _ _ _ _ h
  · intro v8 d1 d3 s9 h
    refine cx_aload_n d_V_giveOneMore_32 rfl ?_
    obtain ⟨p10, ep10, hp10, h⟩ := oc_inv h
    refine cx_getr 80 rfl g_V_giveOneMore_33 rfl (by decide) ep10 hp10 ?_
    refine cx_iload_n d_V_giveOneMore_36 rfl ?_
    refine cx_dup2 d_V_giveOneMore_37 (by first | rfl | exact cx_cat) (by first | rfl | exact cx_cat) ?_
    obtain ⟨a11, na11, j12, ea11, ha11, hj12, gj12, ej12, h⟩ := oa_inv h
    refine cx_iald d_V_giveOneMore_38 ea11 ha11 hj12 gj12 ej12 ?_
    refine cx_iconst (v := nI 1) d_V_giveOneMore_39 (by decide) ?_
    refine cx_iadd d_V_giveOneMore_40 ?_
    refine cx_iast d_V_giveOneMore_41 ea11 ha11 hj12 gj12 ej12 ?_
    refine cx_aload_n d_V_giveOneMore_42 rfl ?_
    refine cx_getr 81 rfl g_V_giveOneMore_43 rfl (by decide) ep10 hp10 ?_
    refine cx_iload_n d_V_giveOneMore_46 rfl ?_
    refine cx_iconst (v := (-1)) d_V_giveOneMore_47 (by decide) ?_
    obtain ⟨a13, na13, j14, ea13, ha13, hj14, gj14, ej14, h⟩ := oa_inv h
    refine cx_iast d_V_giveOneMore_48 ea13 ha13 hj14 gj14 ej14 ?_
    exact cx_vret d_V_giveOneMore_49 rfl (ox_v hq h)
theorem E_U_dropEmptied_4 {G : bm_G} {f : Nat} {l0 : Nat} {k54 : Int32 → cx_S → Option (Int32 × cx_S)} {r : Int32} {sz : cx_S} {Q : bm_R → cx_S → Prop} (hq : Q (.inl none) sz) (hk54 : ∀ (q1 : Int32) (d2 : Option Value) (s : cx_S), k54 q1 s = some (r, sz) → cx G me_U_dropEmptied 54 [some (va_rf (some l0)), some (.int (q1)), d2] [] s Q) : ∀ (n : Nat) (l1 : Int32) (l2 : Int32) (s : cx_S), D_U_dropEmptied_4 f l0 k54 n l1 l2 s = some (r, sz) → cx G me_U_dropEmptied 4 [some (va_rf (some l0)), some (.int (l1)), some (.int (l2))] [] s Q := by
  intro n
  induction n with
  | zero =>
    intro l1 l2 s h
    rw [D_U_dropEmptied_4] at h
    exact absurd h (by simp)
  | succ n ih =>
    intro l1 l2 s h
    rw [D_U_dropEmptied_4] at h
    refine cx_iload_n d_U_dropEmptied_4 rfl ?_
    refine cx_aload_n d_U_dropEmptied_5 rfl ?_
    obtain ⟨p1, ep1, hp1, h⟩ := oc_inv h
    refine cx_geti 162 rfl g_U_dropEmptied_6 rfl (by decide) ep1 hp1 ?_
    refine cx_icmp_ge (tgt := 54) d_U_dropEmptied_9 (by decide) (fun hc9 => ?_) (fun hc9 => ?_)
    · rw [if_pos hc9] at h
      exact hk54 _ _ _ h
    · rw [if_neg hc9] at h
      refine cx_aload_n d_U_dropEmptied_12 rfl ?_
      refine cx_getr 164 rfl g_U_dropEmptied_13 rfl (by decide) ep1 hp1 ?_
      refine cx_iload_n d_U_dropEmptied_16 rfl ?_
      obtain ⟨a2, na2, j3, ea2, ha2, hj3, gj3, ej3, h⟩ := oa_inv h
      refine cx_iald d_U_dropEmptied_17 ea2 ha2 hj3 gj3 ej3 ?_
      refine oj_step (P := fun J4 : Int32 → cx_S → Option (Int32 × cx_S) => ∀ (v5 : Int32) (s6 : cx_S), J4 v5 s6 = some (r, sz) → cx G me_U_dropEmptied 48 [some (va_rf (some l0)), some (.int (v5)), some (.int (l2))] [] s6 Q) h ?_ ?_
      · intro v5 s6 h
        refine cx_iincP d_U_dropEmptied_48 (by decide) rfl ?_
        refine cx_goto (tgt := 4) d_U_dropEmptied_51 (by decide) ?_
        exact ih _ _ _ h
      clear h
      intro J4 hJ1 h
      refine cx_if_le (tgt := 48) d_U_dropEmptied_18 (by decide) (fun hc18 => ?_) (fun hc18 => ?_)
      · rw [if_pos hc18] at h
        exact hJ1 _ _ h
      · rw [if_neg hc18] at h
        refine cx_aload_n d_U_dropEmptied_21 rfl ?_
        refine cx_getr 163 rfl g_U_dropEmptied_22 rfl (by decide) ep1 hp1 ?_
        refine cx_iload_n d_U_dropEmptied_25 rfl ?_
        refine cx_aload_n d_U_dropEmptied_26 rfl ?_
        refine cx_getr 163 rfl g_U_dropEmptied_27 rfl (by decide) ep1 hp1 ?_
        refine cx_iload_n d_U_dropEmptied_30 rfl ?_
        obtain ⟨a7, na7, j8, ea7, ha7, hj8, gj8, ej8, h⟩ := oa_inv h
        refine cx_iald d_U_dropEmptied_31 ea7 ha7 hj8 gj8 ej8 ?_
        obtain ⟨a9, na9, j10, ea9, ha9, hj10, gj10, ej10, h⟩ := oa_inv h
        refine cx_iast d_U_dropEmptied_32 ea9 ha9 hj10 gj10 ej10 ?_
        refine cx_aload_n d_U_dropEmptied_33 rfl ?_
        refine cx_getr 164 rfl g_U_dropEmptied_34 rfl (by decide) ep1 hp1 ?_
        refine cx_iload_n d_U_dropEmptied_37 rfl ?_
        refine cx_aload_n d_U_dropEmptied_38 rfl ?_
        refine cx_getr 164 rfl g_U_dropEmptied_39 rfl (by decide) ep1 hp1 ?_
        refine cx_iload_n d_U_dropEmptied_42 rfl ?_
        obtain ⟨a11, na11, j12, ea11, ha11, hj12, gj12, ej12, h⟩ := oa_inv h
        refine cx_iald d_U_dropEmptied_43 ea11 ha11 hj12 gj12 ej12 ?_
        obtain ⟨a13, na13, j14, ea13, ha13, hj14, gj14, ej14, h⟩ := oa_inv h
        refine cx_iast d_U_dropEmptied_44 ea13 ha13 hj14 gj14 ej14 ?_
        refine cx_iincP d_U_dropEmptied_45 (by decide) rfl ?_
        exact hJ1 _ _ h
theorem E_U_dropEmptied {G : bm_G} {f : Nat} {l0 : Nat} {s sz : cx_S} {r : Int32} {Q : cx_S → Prop} (h : D_U_dropEmptied f l0 s = some (r, sz)) (hq : Q sz) : cx_Tv G me_U_dropEmptied [va_rf (some l0)] s Q := by
  refine cx_metv (by decide) (List.forall_mem_cons.mpr ⟨cx_cat, (fun _ q => nomatch q)⟩) (Nat.le_of_ble_eq_true rfl) ?_
  generalize hQ : (fun (v : bm_R) (s2 : cx_S) => v = .inl none ∧ Q s2) = Q2
  replace hq : Q2 (.inl none) sz := by rw [← hQ]; exact ⟨rfl, hq⟩
  clear hQ
  unfold D_U_dropEmptied at h
  refine cx_iconst (v := nI 0) d_U_dropEmptied_0 (by decide) ?_
  refine cx_istore_n d_U_dropEmptied_1 (by decide) ?_
  refine cx_iconst (v := nI 0) d_U_dropEmptied_2 (by decide) ?_
  refine cx_istore_n d_U_dropEmptied_3 (by decide) ?_
  refine E_U_dropEmptied_4 (r := r) (sz := sz) hq ?_ _ _ _ _ h
  · intro v15 d2 s16 h
    refine cx_aload_n d_U_dropEmptied_54 rfl ?_
    refine cx_iload_n d_U_dropEmptied_55 rfl ?_
    obtain ⟨p17, ep17, hp17, h⟩ := oc_inv h
    refine cx_puti 162 rfl p_U_dropEmptied_56 rfl (by decide) rfl rfl ep17 hp17 ?_
    exact cx_vret d_U_dropEmptied_59 rfl (ox_v hq h)
theorem E_V_transfer_32 {G : bm_G} {f : Nat} {l0 : Nat} {l1 : Option Nat} {l2 : Option Nat} {l5 : Int32} {k53 : cx_S → Option (Int32 × cx_S)} {r : Int32} {sz : cx_S} {Q : bm_R → cx_S → Prop} (hq : Q (.inl none) sz) (hk53 : ∀ (d3 : Option Value) (d4 : Option Value) (d5 : Option Value) (d6 : Option Value) (s : cx_S), k53 s = some (r, sz) → cx G me_V_transfer 53 [some (va_rf (some l0)), some (va_rf (l1)), some (va_rf (l2)), d3, d4, d5, d6] [] s Q) : ∀ (n : Nat) (l6 : Int32) (d3 : Option Value) (d4 : Option Value) (s : cx_S), D_V_transfer_32 f l0 l1 l2 l5 k53 n l6 s = some (r, sz) → cx G me_V_transfer 32 [some (va_rf (some l0)), some (va_rf (l1)), some (va_rf (l2)), d3, d4, some (.int (l5)), some (.int (l6))] [] s Q := by
  intro n
  induction n with
  | zero =>
    intro l6 d3 d4 s h
    rw [D_V_transfer_32] at h
    exact absurd h (by simp)
  | succ n ih =>
    intro l6 d3 d4 s h
    rw [D_V_transfer_32] at h
    refine cx_iload d_V_transfer_32 rfl ?_
    refine cx_iload d_V_transfer_34 rfl ?_
    refine cx_icmp_ge (tgt := 53) d_V_transfer_36 (by decide) (fun hc36 => ?_) (fun hc36 => ?_)
    · rw [if_pos hc36] at h
      exact hk53 _ _ _ _ _ h
    · rw [if_neg hc36] at h
      refine cx_aload_n d_V_transfer_39 rfl ?_
      refine cx_aload_n d_V_transfer_40 rfl ?_
      obtain ⟨p8, ep8, hp8, h⟩ := oc_inv h
      refine cx_geti 162 rfl g_V_transfer_41 rfl (by decide) ep8 hp8 ?_
      obtain ⟨p9, ep9, hp9, h⟩ := oc_inv h
      obtain ⟨x10, s11, ex10, h⟩ := ob_inv h
      refine cx_callV1v c_V_transfer_44 (cx_hst (fun _ q => nomatch q) (Nat.le_of_ble_eq_true rfl)) (by decide) ep9 hp9 (E_V_giveOneMore ex10 ?_)
      refine cx_iincP d_V_transfer_47 (by decide) rfl ?_
      refine cx_goto (tgt := 32) d_V_transfer_50 (by decide) ?_
      exact ih _ _ _ _ h
theorem E_V_transfer_56 {G : bm_G} {f : Nat} {l0 : Nat} {l1 : Option Nat} {l2 : Option Nat} {k106 : cx_S → Option (Int32 × cx_S)} {r : Int32} {sz : cx_S} {Q : bm_R → cx_S → Prop} (hq : Q (.inl none) sz) (hk106 : ∀ (d0 : Option Value) (d2 : Option Value) (d3 : Option Value) (d4 : Option Value) (d5 : Option Value) (d6 : Option Value) (s : cx_S), k106 s = some (r, sz) → cx G me_V_transfer 106 [d0, some (va_rf (l1)), d2, d3, d4, d5, d6] [] s Q) : ∀ (n : Nat) (l6 : Int32) (d3 : Option Value) (d4 : Option Value) (d5 : Option Value) (s : cx_S), D_V_transfer_56 f l0 l1 l2 k106 n l6 s = some (r, sz) → cx G me_V_transfer 56 [some (va_rf (some l0)), some (va_rf (l1)), some (va_rf (l2)), d3, d4, d5, some (.int (l6))] [] s Q := by
  intro n
  induction n with
  | zero =>
    intro l6 d3 d4 d5 s h
    rw [D_V_transfer_56] at h
    exact absurd h (by simp)
  | succ n ih =>
    intro l6 d3 d4 d5 s h
    rw [D_V_transfer_56] at h
    refine cx_iload d_V_transfer_56 rfl ?_
    refine cx_aload_n d_V_transfer_58 rfl ?_
    obtain ⟨p13, ep13, hp13, h⟩ := oc_inv h
    refine cx_geti 162 rfl g_V_transfer_59 rfl (by decide) ep13 hp13 ?_
    refine cx_icmp_ge (tgt := 106) d_V_transfer_62 (by decide) (fun hc62 => ?_) (fun hc62 => ?_)
    · rw [if_pos hc62] at h
      exact hk106 _ _ _ _ _ _ _ h
    · rw [if_neg hc62] at h
      refine cx_aload_n d_V_transfer_65 rfl ?_
      refine cx_getr 164 rfl g_V_transfer_66 rfl (by decide) ep13 hp13 ?_
      refine cx_iload d_V_transfer_69 rfl ?_
      refine cx_dup2 d_V_transfer_71 (by first | rfl | exact cx_cat) (by first | rfl | exact cx_cat) ?_
      obtain ⟨a14, na14, j15, ea14, ha14, hj15, gj15, ej15, h⟩ := oa_inv h
      refine cx_iald d_V_transfer_72 ea14 ha14 hj15 gj15 ej15 ?_
      refine cx_aload_n d_V_transfer_73 rfl ?_
      obtain ⟨p16, ep16, hp16, h⟩ := oc_inv h
      refine cx_getr 80 rfl g_V_transfer_74 rfl (by decide) ep16 hp16 ?_
      refine cx_iload d_V_transfer_77 rfl ?_
      obtain ⟨a17, na17, j18, ea17, ha17, hj18, gj18, ej18, h⟩ := oa_inv h
      refine cx_iald d_V_transfer_79 ea17 ha17 hj18 gj18 ej18 ?_
      refine cx_isub d_V_transfer_80 ?_
      refine cx_iast d_V_transfer_81 ea14 ha14 hj15 gj15 ej15 ?_
      refine cx_aload_n d_V_transfer_82 rfl ?_
      refine cx_aload_n d_V_transfer_83 rfl ?_
      refine cx_getr 163 rfl g_V_transfer_84 rfl (by decide) ep13 hp13 ?_
      refine cx_iload d_V_transfer_87 rfl ?_
      obtain ⟨a19, na19, j20, ea19, ha19, hj20, gj20, ej20, h⟩ := oa_inv h
      refine cx_iald d_V_transfer_89 ea19 ha19 hj20 gj20 ej20 ?_
      refine cx_aload_n d_V_transfer_90 rfl ?_
      refine cx_getr 80 rfl g_V_transfer_91 rfl (by decide) ep16 hp16 ?_
      refine cx_iload d_V_transfer_94 rfl ?_
      obtain ⟨a21, na21, j22, ea21, ha21, hj22, gj22, ej22, h⟩ := oa_inv h
      refine cx_iald d_V_transfer_96 ea21 ha21 hj22 gj22 ej22 ?_
      obtain ⟨p23, ep23, hp23, h⟩ := oc_inv h
      obtain ⟨x24, s25, ex24, h⟩ := ob_inv h
      refine cx_callV2v c_V_transfer_97 (cx_hst (fun _ q => nomatch q) (Nat.le_of_ble_eq_true rfl)) (by decide) ep23 hp23 (E_U_add ex24 ?_)
      refine cx_iincP d_V_transfer_100 (by decide) rfl ?_
      refine cx_goto (tgt := 56) d_V_transfer_103 (by decide) ?_
      exact ih _ _ _ _ _ h
theorem E_V_transfer {G : bm_G} {f : Nat} {l0 : Nat} {l1 : Option Nat} {l2 : Option Nat} {l3 : Int32} {s sz : cx_S} {r : Int32} {Q : cx_S → Prop} (h : D_V_transfer f l0 l1 l2 l3 s = some (r, sz)) (hq : Q sz) : cx_Tv G me_V_transfer [va_rf (some l0), va_rf (l1), va_rf (l2), .int (l3)] s Q := by
  refine cx_metv (by decide) (List.forall_mem_cons.mpr ⟨cx_cat, (List.forall_mem_cons.mpr ⟨cx_cat, (List.forall_mem_cons.mpr ⟨cx_cat, (List.forall_mem_cons.mpr ⟨rfl, (fun _ q => nomatch q)⟩)⟩)⟩)⟩) (Nat.le_of_ble_eq_true rfl) ?_
  generalize hQ : (fun (v : bm_R) (s2 : cx_S) => v = .inl none ∧ Q s2) = Q2
  replace hq : Q2 (.inl none) sz := by rw [← hQ]; exact ⟨rfl, hq⟩
  clear hQ
  unfold D_V_transfer at h
  refine cx_aload_n d_V_transfer_0 rfl ?_
  obtain ⟨p1, ep1, hp1, h⟩ := oc_inv h
  obtain ⟨x2, s3, ex2, h⟩ := ob_inv h
  refine cx_callV0 c_V_transfer_1 (cx_hst (fun _ q => nomatch q) (Nat.le_of_ble_eq_true rfl)) (by decide) ep1 hp1 (E_U_total ex2 ?_)
  refine cx_istore d_V_transfer_4 (by decide) ?_
  refine cx_iload_n d_V_transfer_6 rfl ?_
  refine oj_step (P := fun J4 : Unit → Option (Int32 × cx_S) => ∀ (_u : Unit) (d0 : Option Value) (d1 : Option Value) (d2 : Option Value) (d3 : Option Value) (d4 : Option Value) (d5 : Option Value) (d6 : Option Value), J4 () = some (r, sz) → cx G me_V_transfer 16 [d0, d1, d2, d3, d4, d5, d6] [] s3 Q2) h ?_ ?_
  · intro _u d0 d1 d2 d3 d4 d5 d6 h
    exact cx_vret d_V_transfer_16 rfl (ox_v hq h)
  clear h
  intro J4 hJ1 h
  refine cx_if_le (tgt := 16) d_V_transfer_7 (by decide) (fun hc7 => ?_) (fun hc7 => ?_)
  · rw [if_pos hc7] at h
    exact hJ1 () _ _ _ _ _ _ _ h
  · rw [if_neg hc7] at h
    refine cx_iload_n d_V_transfer_10 rfl ?_
    refine cx_iload d_V_transfer_11 rfl ?_
    refine cx_icmp_le (tgt := 17) d_V_transfer_13 (by decide) (fun hc13 => ?_) (fun hc13 => ?_)
    · rw [if_pos hc13] at h
      refine cx_iload_n d_V_transfer_17 rfl ?_
      refine cx_aload_n d_V_transfer_18 rfl ?_
      refine cx_aload_n d_V_transfer_19 rfl ?_
      refine cx_iload_n d_V_transfer_20 rfl ?_
      refine cx_iload d_V_transfer_21 rfl ?_
      obtain ⟨p5, ep5, hp5, h⟩ := oc_inv h
      obtain ⟨x6, s7, ex6, h⟩ := ob_inv h
      refine cx_callV3 c_V_transfer_23 (cx_hst (List.forall_mem_cons.mpr ⟨rfl, (fun _ q => nomatch q)⟩) (Nat.le_of_ble_eq_true rfl)) (by decide) ep5 hp5 (E_V_splitByAmounts ex6 ?_)
      refine cx_isub d_V_transfer_26 ?_
      refine cx_istore d_V_transfer_27 (by decide) ?_
      refine cx_iconst (v := nI 0) d_V_transfer_29 (by decide) ?_
      refine cx_istore d_V_transfer_30 (by decide) ?_
      refine E_V_transfer_32 (r := r) (sz := sz) hq ?_ _ _ _ _ _ h
      · intro d3 d4 d5 d6 s12 h
        refine cx_iconst (v := nI 0) d_V_transfer_53 (by decide) ?_
        refine cx_istore d_V_transfer_54 (by decide) ?_
        refine E_V_transfer_56 (r := r) (sz := sz) hq ?_ _ _ _ _ _ _ h
        · intro d0 d2 d3 d4 d5 d6 s26 h
          refine cx_aload_n d_V_transfer_106 rfl ?_
          obtain ⟨p27, ep27, hp27, h⟩ := oc_inv h
          obtain ⟨x28, s29, ex28, h⟩ := ob_inv h
          refine cx_callV0v c_V_transfer_107 (cx_hst (fun _ q => nomatch q) (Nat.le_of_ble_eq_true rfl)) (by decide) ep27 hp27 (E_U_dropEmptied ex28 ?_)
          exact cx_vret d_V_transfer_110 rfl (ox_v hq h)
    · rw [if_neg hc13] at h
      exact hJ1 () _ _ _ _ _ _ _ h
