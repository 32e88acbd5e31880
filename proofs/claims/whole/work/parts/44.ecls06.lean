theorem E_H_measure {G : bm_G} {f : Nat} {l0 : Nat} {l1 : Int32} {l2 : Int32} {l3 : Int32} {s sz : cx_S} {r : Int32} {Q : Int32 → cx_S → Prop} (h : D_H_measure f l0 l1 l2 l3 s = some (r, sz)) (hq : Q r sz) : cx_Ti G me_H_measure [va_rf (some l0), .int (l1), .int (l2), .int (l3)] s Q := by
  refine cx_meti (by decide) (List.forall_mem_cons.mpr ⟨cx_cat, (List.forall_mem_cons.mpr ⟨rfl, (List.forall_mem_cons.mpr ⟨rfl, (List.forall_mem_cons.mpr ⟨rfl, (fun _ q => nomatch q)⟩)⟩)⟩)⟩) (Nat.le_of_ble_eq_true rfl) ?_
  generalize hQ : (fun (v : bm_R) (s2 : cx_S) => ∃ x, v = .inl (some (.int x)) ∧ Q x s2) = Q2
  replace hq : Q2 (.inl (some (.int (r)))) sz := by rw [← hQ]; exact ⟨_, rfl, hq⟩
  clear hQ
  unfold D_H_measure at h
  refine cx_iload_n d_H_measure_0 rfl ?_
  refine cx_aload_n d_H_measure_1 rfl ?_
  obtain ⟨p1, ep1, hp1, h⟩ := oc_inv h
  refine cx_geti 2 rfl g_H_measure_2 rfl (by decide) ep1 hp1 ?_
  obtain ⟨x2, s3, ex2, h⟩ := ob_inv h
  refine cx_callS2 c_H_measure_5 (cx_hst (fun _ q => nomatch q) (Nat.le_of_ble_eq_true rfl)) (E_H_isBelow ex2 ?_)
  refine oj_step (P := fun J4 : cx_S → Option (Int32 × cx_S) => ∀ (s5 : cx_S) (d0 : Option Value) (d1 : Option Value) (d2 : Option Value) (d3 : Option Value), J4 s5 = some (r, sz) → cx G me_H_measure 31 [d0, d1, d2, d3] [] s5 Q2) h ?_ ?_
  · intro s5 d0 d1 d2 d3 h
    refine cx_iconst (v := nI 0) d_H_measure_31 (by decide) ?_
    exact cx_zret d_H_measure_32 rfl (by decide) (ox_i hq h)
  clear h
  intro J4 hJ1 h
  refine cx_if_eq (tgt := 31) d_H_measure_8 (by decide) (fun hc8 => ?_) (fun hc8 => ?_)
  · rw [if_pos hc8] at h
    exact hJ1 _ _ _ _ _ h
  · rw [if_neg hc8] at h
    refine cx_iload_n d_H_measure_11 rfl ?_
    refine cx_iconst (v := nI 4) d_H_measure_12 (by decide) ?_
    obtain ⟨x6, s7, ex6, h⟩ := ob_inv h
    refine cx_callS2 c_H_measure_13 (cx_hst (fun _ q => nomatch q) (Nat.le_of_ble_eq_true rfl)) (E_H_isBelow ex6 ?_)
    refine cx_if_eq (tgt := 31) d_H_measure_16 (by decide) (fun hc16 => ?_) (fun hc16 => ?_)
    · rw [if_pos hc16] at h
      exact hJ1 _ _ _ _ _ h
    · rw [if_neg hc16] at h
      refine cx_aload_n d_H_measure_19 rfl ?_
      obtain ⟨p8, ep8, hp8, h⟩ := oc_inv h
      refine cx_getr 1 rfl g_H_measure_20 rfl (by decide) ep8 hp8 ?_
      refine cx_iload_n d_H_measure_23 rfl ?_
      obtain ⟨a9, na9, j10, ea9, ha9, hj10, gj10, ej10, h⟩ := oa_inv h
      refine cx_aald (t := 4) 404 rfl d_H_measure_24 (by decide) rfl ea9 ha9 hj10 gj10 ej10 ?_
      obtain ⟨p11, ep11, hp11, h⟩ := oc_inv h
      obtain ⟨x12, s13, ex12, h⟩ := ob_inv h
      refine cx_callV0 c_H_measure_25 (cx_hst (fun _ q => nomatch q) (Nat.le_of_ble_eq_true rfl)) (by decide) ep11 hp11 (E_B_isOver ex12 ?_)
      refine cx_if_eq (tgt := 33) d_H_measure_28 (by decide) (fun hc28 => ?_) (fun hc28 => ?_)
      · rw [if_pos hc28] at h
        refine cx_aload_n d_H_measure_33 rfl ?_
        obtain ⟨p14, ep14, hp14, h⟩ := oc_inv h
        refine cx_getr 1 rfl g_H_measure_34 rfl (by decide) ep14 hp14 ?_
        refine cx_iload_n d_H_measure_37 rfl ?_
        obtain ⟨a15, na15, j16, ea15, ha15, hj16, gj16, ej16, h⟩ := oa_inv h
        refine cx_aald (t := 4) 404 rfl d_H_measure_38 (by decide) rfl ea15 ha15 hj16 gj16 ej16 ?_
        refine cx_iload_n d_H_measure_39 rfl ?_
        refine cx_iload_n d_H_measure_40 rfl ?_
        obtain ⟨p17, ep17, hp17, h⟩ := oc_inv h
        obtain ⟨x18, s19, ex18, h⟩ := ob_inv h
        refine cx_callV2v c_H_measure_41 (cx_hst (fun _ q => nomatch q) (Nat.le_of_ble_eq_true rfl)) (by decide) ep17 hp17 (E_B_noteMeasured ex18 ?_)
        refine cx_iconst (v := nI 1) d_H_measure_44 (by decide) ?_
        exact cx_zret d_H_measure_45 rfl (by decide) (ox_i hq h)
      · rw [if_neg hc28] at h
        exact hJ1 _ _ _ _ _ h
theorem E_H_batchIs {G : bm_G} {f : Nat} {l0 : Nat} {l1 : Int32} {l2 : Int32} {s sz : cx_S} {r : Int32} {Q : Int32 → cx_S → Prop} (h : D_H_batchIs f l0 l1 l2 s = some (r, sz)) (hq : Q r sz) : cx_Ti G me_H_batchIs [va_rf (some l0), .int (l1), .int (l2)] s Q := by
  refine cx_meti (by decide) (List.forall_mem_cons.mpr ⟨cx_cat, (List.forall_mem_cons.mpr ⟨rfl, (List.forall_mem_cons.mpr ⟨rfl, (fun _ q => nomatch q)⟩)⟩)⟩) (Nat.le_of_ble_eq_true rfl) ?_
  generalize hQ : (fun (v : bm_R) (s2 : cx_S) => ∃ x, v = .inl (some (.int x)) ∧ Q x s2) = Q2
  replace hq : Q2 (.inl (some (.int (r)))) sz := by rw [← hQ]; exact ⟨_, rfl, hq⟩
  clear hQ
  unfold D_H_batchIs at h
  refine cx_iload_n d_H_batchIs_0 rfl ?_
  refine cx_aload_n d_H_batchIs_1 rfl ?_
  obtain ⟨p1, ep1, hp1, h⟩ := oc_inv h
  refine cx_geti 2 rfl g_H_batchIs_2 rfl (by decide) ep1 hp1 ?_
  obtain ⟨x2, s3, ex2, h⟩ := ob_inv h
  refine cx_callS2 c_H_batchIs_5 (cx_hst (fun _ q => nomatch q) (Nat.le_of_ble_eq_true rfl)) (E_H_isBelow ex2 ?_)
  refine cx_if_ne (tgt := 13) d_H_batchIs_8 (by decide) (fun hc8 => ?_) (fun hc8 => ?_)
  · rw [if_neg hc8] at h
    refine cx_aload_n d_H_batchIs_13 rfl ?_
    obtain ⟨p4, ep4, hp4, h⟩ := oc_inv h
    refine cx_getr 1 rfl g_H_batchIs_14 rfl (by decide) ep4 hp4 ?_
    refine cx_iload_n d_H_batchIs_17 rfl ?_
    obtain ⟨a5, na5, j6, ea5, ha5, hj6, gj6, ej6, h⟩ := oa_inv h
    refine cx_aald (t := 4) 404 rfl d_H_batchIs_18 (by decide) rfl ea5 ha5 hj6 gj6 ej6 ?_
    refine cx_astore_n d_H_batchIs_19 (by decide) ?_
    refine cx_iload_n d_H_batchIs_20 rfl ?_
    by_cases e21_0 : l2 = nI 0
    · rw [if_pos e21_0] at h
      refine cx_tab (tgt := 56) d_H_batchIs_21 0 e21_0 (by decide) (by decide) (by rfl) (by decide) ?_
      refine cx_aload_n d_H_batchIs_56 rfl ?_
      obtain ⟨p7, ep7, hp7, h⟩ := oc_inv h
      refine cx_geti 20 rfl g_H_batchIs_57 rfl (by decide) ep7 hp7 ?_
      exact cx_iret d_H_batchIs_60 rfl (ox_i hq h)
    rw [if_neg e21_0] at h
    by_cases e21_1 : l2 = nI 1
    · rw [if_pos e21_1] at h
      refine cx_tab (tgt := 61) d_H_batchIs_21 1 e21_1 (by decide) (by decide) (by rfl) (by decide) ?_
      refine cx_aload_n d_H_batchIs_61 rfl ?_
      obtain ⟨p8, ep8, hp8, h⟩ := oc_inv h
      refine cx_geti 17 rfl g_H_batchIs_62 rfl (by decide) ep8 hp8 ?_
      exact cx_iret d_H_batchIs_65 rfl (ox_i hq h)
    rw [if_neg e21_1] at h
    by_cases e21_2 : l2 = nI 2
    · rw [if_pos e21_2] at h
      refine cx_tab (tgt := 66) d_H_batchIs_21 2 e21_2 (by decide) (by decide) (by rfl) (by decide) ?_
      refine cx_aload_n d_H_batchIs_66 rfl ?_
      obtain ⟨p9, ep9, hp9, h⟩ := oc_inv h
      refine cx_geti 19 rfl g_H_batchIs_67 rfl (by decide) ep9 hp9 ?_
      exact cx_iret d_H_batchIs_70 rfl (ox_i hq h)
    rw [if_neg e21_2] at h
    by_cases e21_3 : l2 = nI 3
    · rw [if_pos e21_3] at h
      refine cx_tab (tgt := 71) d_H_batchIs_21 3 e21_3 (by decide) (by decide) (by rfl) (by decide) ?_
      refine cx_aload_n d_H_batchIs_71 rfl ?_
      obtain ⟨p10, ep10, hp10, h⟩ := oc_inv h
      refine cx_geti 21 rfl g_H_batchIs_72 rfl (by decide) ep10 hp10 ?_
      exact cx_iret d_H_batchIs_75 rfl (ox_i hq h)
    rw [if_neg e21_3] at h
    by_cases e21_4 : l2 = nI 4
    · rw [if_pos e21_4] at h
      refine cx_tab (tgt := 76) d_H_batchIs_21 4 e21_4 (by decide) (by decide) (by rfl) (by decide) ?_
      refine cx_aload_n d_H_batchIs_76 rfl ?_
      obtain ⟨p11, ep11, hp11, h⟩ := oc_inv h
      obtain ⟨x12, s13, ex12, h⟩ := ob_inv h
      refine cx_callV0 c_H_batchIs_77 (cx_hst (fun _ q => nomatch q) (Nat.le_of_ble_eq_true rfl)) (by decide) ep11 hp11 (E_B_countBegun ex12 ?_)
      exact cx_iret d_H_batchIs_80 rfl (ox_i hq h)
    rw [if_neg e21_4] at h
    have hsw : ∀ j, j ≤ 4 → ¬ l2 = nI j := by
      intro j hj
      have hj2 : j = 0 ∨ j = 1 ∨ j = 2 ∨ j = 3 ∨ j = 4 := by omega
      rcases hj2 with rfl | rfl | rfl | rfl | rfl <;> assumption
    refine cx_tableOut (tgt := 81) d_H_batchIs_21 (sw_out 4 (by decide) hsw) (by decide) ?_
    refine cx_iconst (v := (-1)) d_H_batchIs_81 (by decide) ?_
    exact cx_iret d_H_batchIs_82 rfl (ox_i hq h)
  · rw [if_pos hc8] at h
    refine cx_iconst (v := (-1)) d_H_batchIs_11 (by decide) ?_
    exact cx_iret d_H_batchIs_12 rfl (ox_i hq h)
theorem E_H_token {G : bm_G} {f : Nat} {l0 : Nat} {l1 : Int32} {l2 : Int32} {s sz : cx_S} {r : Int32} {Q : Int32 → cx_S → Prop} (h : D_H_token f l0 l1 l2 s = some (r, sz)) (hq : Q r sz) : cx_Ti G me_H_token [va_rf (some l0), .int (l1), .int (l2)] s Q := by
  refine cx_meti (by decide) (List.forall_mem_cons.mpr ⟨cx_cat, (List.forall_mem_cons.mpr ⟨rfl, (List.forall_mem_cons.mpr ⟨rfl, (fun _ q => nomatch q)⟩)⟩)⟩) (Nat.le_of_ble_eq_true rfl) ?_
  generalize hQ : (fun (v : bm_R) (s2 : cx_S) => ∃ x, v = .inl (some (.int x)) ∧ Q x s2) = Q2
  replace hq : Q2 (.inl (some (.int (r)))) sz := by rw [← hQ]; exact ⟨_, rfl, hq⟩
  clear hQ
  unfold D_H_token at h
  refine cx_iload_n d_H_token_0 rfl ?_
  refine cx_aload_n d_H_token_1 rfl ?_
  obtain ⟨p1, ep1, hp1, h⟩ := oc_inv h
  refine cx_geti 2 rfl g_H_token_2 rfl (by decide) ep1 hp1 ?_
  obtain ⟨x2, s3, ex2, h⟩ := ob_inv h
  refine cx_callS2 c_H_token_5 (cx_hst (fun _ q => nomatch q) (Nat.le_of_ble_eq_true rfl)) (E_H_isBelow ex2 ?_)
  refine oj_step (P := fun J4 : cx_S → Option (Int32 × cx_S) => ∀ (s5 : cx_S) (d0 : Option Value) (d1 : Option Value) (d2 : Option Value) (d3 : Option Value), J4 s5 = some (r, sz) → cx G me_H_token 27 [d0, d1, d2, d3] [] s5 Q2) h ?_ ?_
  · intro s5 d0 d1 d2 d3 h
    refine cx_iconst (v := (-1)) d_H_token_27 (by decide) ?_
    exact cx_iret d_H_token_28 rfl (ox_i hq h)
  clear h
  intro J4 hJ1 h
  refine cx_if_eq (tgt := 27) d_H_token_8 (by decide) (fun hc8 => ?_) (fun hc8 => ?_)
  · rw [if_pos hc8] at h
    exact hJ1 _ _ _ _ _ h
  · rw [if_neg hc8] at h
    refine cx_iload_n d_H_token_11 rfl ?_
    refine cx_aload_n d_H_token_12 rfl ?_
    obtain ⟨p6, ep6, hp6, h⟩ := oc_inv h
    refine cx_getr 1 rfl g_H_token_13 rfl (by decide) ep6 hp6 ?_
    refine cx_iload_n d_H_token_16 rfl ?_
    obtain ⟨a7, na7, j8, ea7, ha7, hj8, gj8, ej8, h⟩ := oa_inv h
    refine cx_aald (t := 4) 404 rfl d_H_token_17 (by decide) rfl ea7 ha7 hj8 gj8 ej8 ?_
    obtain ⟨p9, ep9, hp9, h⟩ := oc_inv h
    refine cx_geti 21 rfl g_H_token_18 rfl (by decide) ep9 hp9 ?_
    obtain ⟨x10, s11, ex10, h⟩ := ob_inv h
    refine cx_callS2 c_H_token_21 (cx_hst (fun _ q => nomatch q) (Nat.le_of_ble_eq_true rfl)) (E_H_isBelow ex10 ?_)
    refine cx_if_ne (tgt := 29) d_H_token_24 (by decide) (fun hc24 => ?_) (fun hc24 => ?_)
    · rw [if_neg hc24] at h
      refine cx_aload_n d_H_token_29 rfl ?_
      obtain ⟨p12, ep12, hp12, h⟩ := oc_inv h
      refine cx_getr 1 rfl g_H_token_30 rfl (by decide) ep12 hp12 ?_
      refine cx_iload_n d_H_token_33 rfl ?_
      obtain ⟨a13, na13, j14, ea13, ha13, hj14, gj14, ej14, h⟩ := oa_inv h
      refine cx_aald (t := 4) 404 rfl d_H_token_34 (by decide) rfl ea13 ha13 hj14 gj14 ej14 ?_
      obtain ⟨p15, ep15, hp15, h⟩ := oc_inv h
      refine cx_getr 22 rfl g_H_token_35 rfl (by decide) ep15 hp15 ?_
      refine cx_iload_n d_H_token_38 rfl ?_
      obtain ⟨a16, na16, j17, ea16, ha16, hj17, gj17, ej17, h⟩ := oa_inv h
      refine cx_aald (t := 8) 408 rfl d_H_token_39 (by decide) rfl ea16 ha16 hj17 gj17 ej17 ?_
      refine cx_astore_n d_H_token_40 (by decide) ?_
      refine cx_aload_n d_H_token_41 rfl ?_
      obtain ⟨p18, ep18, hp18, h⟩ := oc_inv h
      refine cx_geti 145 rfl g_H_token_42 rfl (by decide) ep18 hp18 ?_
      refine oj_step (P := fun J19 : Int32 → Option (Int32 × cx_S) => ∀ (x20 : Int32) (d0 : Option Value) (d1 : Option Value) (d2 : Option Value) (d3 : Option Value), J19 x20 = some (r, sz) → cx G me_H_token 62 [d0, d1, d2, d3] [.int (x20)] s11 Q2) h ?_ ?_
      · intro x20 d0 d1 d2 d3 h
        exact cx_iret d_H_token_62 rfl (ox_i hq h)
      clear h
      intro J19 hJ2 h
      refine cx_if_eq (tgt := 58) d_H_token_45 (by decide) (fun hc45 => ?_) (fun hc45 => ?_)
      · rw [if_pos hc45] at h
        refine cx_aload_n d_H_token_58 rfl ?_
        refine cx_geti 144 rfl g_H_token_59 rfl (by decide) ep18 hp18 ?_
        exact hJ2 _ _ _ _ _ h
      · rw [if_neg hc45] at h
        refine cx_aload_n d_H_token_48 rfl ?_
        refine cx_geti 144 rfl g_H_token_49 rfl (by decide) ep18 hp18 ?_
        refine cx_bipush (v := nI 16) d_H_token_52 (by decide) ?_
        refine cx_iadd d_H_token_54 ?_
        refine cx_goto (tgt := 62) d_H_token_55 (by decide) ?_
        exact hJ2 _ _ _ _ _ h
    · rw [if_pos hc24] at h
      exact hJ1 _ _ _ _ _ h
theorem E_H_unitOf {G : bm_G} {f : Nat} {l0 : Nat} {l1 : Int32} {l2 : Int32} {s sz : cx_S} {r : Int32} {Q : Int32 → cx_S → Prop} (h : D_H_unitOf f l0 l1 l2 s = some (r, sz)) (hq : Q r sz) : cx_Ti G me_H_unitOf [va_rf (some l0), .int (l1), .int (l2)] s Q := by
  refine cx_meti (by decide) (List.forall_mem_cons.mpr ⟨cx_cat, (List.forall_mem_cons.mpr ⟨rfl, (List.forall_mem_cons.mpr ⟨rfl, (fun _ q => nomatch q)⟩)⟩)⟩) (Nat.le_of_ble_eq_true rfl) ?_
  generalize hQ : (fun (v : bm_R) (s2 : cx_S) => ∃ x, v = .inl (some (.int x)) ∧ Q x s2) = Q2
  replace hq : Q2 (.inl (some (.int (r)))) sz := by rw [← hQ]; exact ⟨_, rfl, hq⟩
  clear hQ
  unfold D_H_unitOf at h
  refine cx_iload_n d_H_unitOf_0 rfl ?_
  refine cx_aload_n d_H_unitOf_1 rfl ?_
  obtain ⟨p1, ep1, hp1, h⟩ := oc_inv h
  refine cx_geti 2 rfl g_H_unitOf_2 rfl (by decide) ep1 hp1 ?_
  obtain ⟨x2, s3, ex2, h⟩ := ob_inv h
  refine cx_callS2 c_H_unitOf_5 (cx_hst (fun _ q => nomatch q) (Nat.le_of_ble_eq_true rfl)) (E_H_isBelow ex2 ?_)
  refine oj_step (P := fun J4 : cx_S → Option (Int32 × cx_S) => ∀ (s5 : cx_S) (d0 : Option Value) (d1 : Option Value) (d2 : Option Value), J4 s5 = some (r, sz) → cx G me_H_unitOf 19 [d0, d1, d2] [] s5 Q2) h ?_ ?_
  · intro s5 d0 d1 d2 h
    refine cx_iconst (v := (-1)) d_H_unitOf_19 (by decide) ?_
    exact cx_iret d_H_unitOf_20 rfl (ox_i hq h)
  clear h
  intro J4 hJ1 h
  refine cx_if_eq (tgt := 19) d_H_unitOf_8 (by decide) (fun hc8 => ?_) (fun hc8 => ?_)
  · rw [if_pos hc8] at h
    exact hJ1 _ _ _ _ h
  · rw [if_neg hc8] at h
    refine cx_iload_n d_H_unitOf_11 rfl ?_
    refine cx_iconst (v := nI 3) d_H_unitOf_12 (by decide) ?_
    obtain ⟨x6, s7, ex6, h⟩ := ob_inv h
    refine cx_callS2 c_H_unitOf_13 (cx_hst (fun _ q => nomatch q) (Nat.le_of_ble_eq_true rfl)) (E_H_isBelow ex6 ?_)
    refine cx_if_ne (tgt := 21) d_H_unitOf_16 (by decide) (fun hc16 => ?_) (fun hc16 => ?_)
    · rw [if_neg hc16] at h
      refine cx_aload_n d_H_unitOf_21 rfl ?_
      obtain ⟨p8, ep8, hp8, h⟩ := oc_inv h
      refine cx_getr 1 rfl g_H_unitOf_22 rfl (by decide) ep8 hp8 ?_
      refine cx_iload_n d_H_unitOf_25 rfl ?_
      obtain ⟨a9, na9, j10, ea9, ha9, hj10, gj10, ej10, h⟩ := oa_inv h
      refine cx_aald (t := 4) 404 rfl d_H_unitOf_26 (by decide) rfl ea9 ha9 hj10 gj10 ej10 ?_
      obtain ⟨p11, ep11, hp11, h⟩ := oc_inv h
      refine cx_getr 25 rfl g_H_unitOf_27 rfl (by decide) ep11 hp11 ?_
      refine cx_iload_n d_H_unitOf_30 rfl ?_
      obtain ⟨a12, na12, j13, ea12, ha12, hj13, gj13, ej13, h⟩ := oa_inv h
      refine cx_iald d_H_unitOf_31 ea12 ha12 hj13 gj13 ej13 ?_
      exact cx_iret d_H_unitOf_32 rfl (ox_i hq h)
    · rw [if_pos hc16] at h
      exact hJ1 _ _ _ _ h
theorem E_H_unitIs {G : bm_G} {f : Nat} {l0 : Nat} {l1 : Int32} {l2 : Int32} {s sz : cx_S} {r : Int32} {Q : Int32 → cx_S → Prop} (h : D_H_unitIs f l0 l1 l2 s = some (r, sz)) (hq : Q r sz) : cx_Ti G me_H_unitIs [va_rf (some l0), .int (l1), .int (l2)] s Q := by
  refine cx_meti (by decide) (List.forall_mem_cons.mpr ⟨cx_cat, (List.forall_mem_cons.mpr ⟨rfl, (List.forall_mem_cons.mpr ⟨rfl, (fun _ q => nomatch q)⟩)⟩)⟩) (Nat.le_of_ble_eq_true rfl) ?_
  generalize hQ : (fun (v : bm_R) (s2 : cx_S) => ∃ x, v = .inl (some (.int x)) ∧ Q x s2) = Q2
  replace hq : Q2 (.inl (some (.int (r)))) sz := by rw [← hQ]; exact ⟨_, rfl, hq⟩
  clear hQ
  unfold D_H_unitIs at h
  refine cx_iload_n d_H_unitIs_0 rfl ?_
  refine cx_bipush (v := nI 6) d_H_unitIs_1 (by decide) ?_
  obtain ⟨x1, s2, ex1, h⟩ := ob_inv h
  refine cx_callS2 c_H_unitIs_3 (cx_hst (fun _ q => nomatch q) (Nat.le_of_ble_eq_true rfl)) (E_H_isBelow ex1 ?_)
  refine cx_if_ne (tgt := 11) d_H_unitIs_6 (by decide) (fun hc6 => ?_) (fun hc6 => ?_)
  · rw [if_neg hc6] at h
    refine cx_aload_n d_H_unitIs_11 rfl ?_
    obtain ⟨p3, ep3, hp3, h⟩ := oc_inv h
    refine cx_getr 5 rfl g_H_unitIs_12 rfl (by decide) ep3 hp3 ?_
    refine cx_iload_n d_H_unitIs_15 rfl ?_
    obtain ⟨a4, na4, j5, ea4, ha4, hj5, gj5, ej5, h⟩ := oa_inv h
    refine cx_aald (t := 5) 405 rfl d_H_unitIs_16 (by decide) rfl ea4 ha4 hj5 gj5 ej5 ?_
    refine cx_astore_n d_H_unitIs_17 (by decide) ?_
    refine cx_iload_n d_H_unitIs_18 rfl ?_
    by_cases e19_0 : l2 = nI 0
    · rw [if_pos e19_0] at h
      refine cx_tab (tgt := 48) d_H_unitIs_19 0 e19_0 (by decide) (by decide) (by rfl) (by decide) ?_
      refine cx_aload_n d_H_unitIs_48 rfl ?_
      obtain ⟨p6, ep6, hp6, h⟩ := oc_inv h
      refine cx_geti 161 rfl g_H_unitIs_49 rfl (by decide) ep6 hp6 ?_
      exact cx_iret d_H_unitIs_52 rfl (ox_i hq h)
    rw [if_neg e19_0] at h
    by_cases e19_1 : l2 = nI 1
    · rw [if_pos e19_1] at h
      refine cx_tab (tgt := 53) d_H_unitIs_19 1 e19_1 (by decide) (by decide) (by rfl) (by decide) ?_
      refine cx_aload_n d_H_unitIs_53 rfl ?_
      obtain ⟨p7, ep7, hp7, h⟩ := oc_inv h
      refine cx_geti 160 rfl g_H_unitIs_54 rfl (by decide) ep7 hp7 ?_
      exact cx_iret d_H_unitIs_57 rfl (ox_i hq h)
    rw [if_neg e19_1] at h
    by_cases e19_2 : l2 = nI 2
    · rw [if_pos e19_2] at h
      refine cx_tab (tgt := 58) d_H_unitIs_19 2 e19_2 (by decide) (by decide) (by rfl) (by decide) ?_
      refine cx_aload_n d_H_unitIs_58 rfl ?_
      obtain ⟨p8, ep8, hp8, h⟩ := oc_inv h
      refine cx_geti 162 rfl g_H_unitIs_59 rfl (by decide) ep8 hp8 ?_
      exact cx_iret d_H_unitIs_62 rfl (ox_i hq h)
    rw [if_neg e19_2] at h
    by_cases e19_3 : l2 = nI 3
    · rw [if_pos e19_3] at h
      refine cx_tab (tgt := 63) d_H_unitIs_19 3 e19_3 (by decide) (by decide) (by rfl) (by decide) ?_
      refine cx_aload_n d_H_unitIs_63 rfl ?_
      obtain ⟨p9, ep9, hp9, h⟩ := oc_inv h
      obtain ⟨x10, s11, ex10, h⟩ := ob_inv h
      refine cx_callV0 c_H_unitIs_64 (cx_hst (fun _ q => nomatch q) (Nat.le_of_ble_eq_true rfl)) (by decide) ep9 hp9 (E_U_total ex10 ?_)
      exact cx_iret d_H_unitIs_67 rfl (ox_i hq h)
    rw [if_neg e19_3] at h
    have hsw : ∀ j, j ≤ 3 → ¬ l2 = nI j := by
      intro j hj
      have hj2 : j = 0 ∨ j = 1 ∨ j = 2 ∨ j = 3 := by omega
      rcases hj2 with rfl | rfl | rfl | rfl <;> assumption
    refine cx_tableOut (tgt := 68) d_H_unitIs_19 (sw_out 3 (by decide) hsw) (by decide) ?_
    refine cx_iconst (v := (-1)) d_H_unitIs_68 (by decide) ?_
    exact cx_iret d_H_unitIs_69 rfl (ox_i hq h)
  · rw [if_pos hc6] at h
    refine cx_iconst (v := (-1)) d_H_unitIs_9 (by decide) ?_
    exact cx_iret d_H_unitIs_10 rfl (ox_i hq h)
theorem E_H_content {G : bm_G} {f : Nat} {l0 : Nat} {l1 : Int32} {l2 : Int32} {l3 : Int32} {s sz : cx_S} {r : Int32} {Q : Int32 → cx_S → Prop} (h : D_H_content f l0 l1 l2 l3 s = some (r, sz)) (hq : Q r sz) : cx_Ti G me_H_content [va_rf (some l0), .int (l1), .int (l2), .int (l3)] s Q := by
  refine cx_meti (by decide) (List.forall_mem_cons.mpr ⟨cx_cat, (List.forall_mem_cons.mpr ⟨rfl, (List.forall_mem_cons.mpr ⟨rfl, (List.forall_mem_cons.mpr ⟨rfl, (fun _ q => nomatch q)⟩)⟩)⟩)⟩) (Nat.le_of_ble_eq_true rfl) ?_
  generalize hQ : (fun (v : bm_R) (s2 : cx_S) => ∃ x, v = .inl (some (.int x)) ∧ Q x s2) = Q2
  replace hq : Q2 (.inl (some (.int (r)))) sz := by rw [← hQ]; exact ⟨_, rfl, hq⟩
  clear hQ
  unfold D_H_content at h
  refine cx_iload_n d_H_content_0 rfl ?_
  refine cx_bipush (v := nI 6) d_H_content_1 (by decide) ?_
  obtain ⟨x1, s2, ex1, h⟩ := ob_inv h
  refine cx_callS2 c_H_content_3 (cx_hst (fun _ q => nomatch q) (Nat.le_of_ble_eq_true rfl)) (E_H_isBelow ex1 ?_)
  refine oj_step (P := fun J3 : cx_S → Option (Int32 × cx_S) => ∀ (s4 : cx_S) (d0 : Option Value) (d1 : Option Value) (d2 : Option Value) (d3 : Option Value), J3 s4 = some (r, sz) → cx G me_H_content 25 [d0, d1, d2, d3] [] s4 Q2) h ?_ ?_
  · intro s4 d0 d1 d2 d3 h
    refine cx_iconst (v := (-1)) d_H_content_25 (by decide) ?_
    exact cx_iret d_H_content_26 rfl (ox_i hq h)
  clear h
  intro J3 hJ1 h
  refine cx_if_eq (tgt := 25) d_H_content_6 (by decide) (fun hc6 => ?_) (fun hc6 => ?_)
  · rw [if_pos hc6] at h
    exact hJ1 _ _ _ _ _ h
  · rw [if_neg hc6] at h
    refine cx_iload_n d_H_content_9 rfl ?_
    refine cx_aload_n d_H_content_10 rfl ?_
    obtain ⟨p5, ep5, hp5, h⟩ := oc_inv h
    refine cx_getr 5 rfl g_H_content_11 rfl (by decide) ep5 hp5 ?_
    refine cx_iload_n d_H_content_14 rfl ?_
    obtain ⟨a6, na6, j7, ea6, ha6, hj7, gj7, ej7, h⟩ := oa_inv h
    refine cx_aald (t := 5) 405 rfl d_H_content_15 (by decide) rfl ea6 ha6 hj7 gj7 ej7 ?_
    obtain ⟨p8, ep8, hp8, h⟩ := oc_inv h
    refine cx_geti 162 rfl g_H_content_16 rfl (by decide) ep8 hp8 ?_
    obtain ⟨x9, s10, ex9, h⟩ := ob_inv h
    refine cx_callS2 c_H_content_19 (cx_hst (fun _ q => nomatch q) (Nat.le_of_ble_eq_true rfl)) (E_H_isBelow ex9 ?_)
    refine cx_if_ne (tgt := 27) d_H_content_22 (by decide) (fun hc22 => ?_) (fun hc22 => ?_)
    · rw [if_neg hc22] at h
      refine cx_iload_n d_H_content_27 rfl ?_
      by_cases e28_0 : l3 = nI 0
      · rw [if_pos e28_0] at h
        refine cx_look (tgt := 56) (28) d_H_content_28 (by decide) (by rw [e28_0]; decide) (by decide) ?_
        refine cx_aload_n d_H_content_56 rfl ?_
        obtain ⟨p11, ep11, hp11, h⟩ := oc_inv h
        refine cx_getr 5 rfl g_H_content_57 rfl (by decide) ep11 hp11 ?_
        refine cx_iload_n d_H_content_60 rfl ?_
        obtain ⟨a12, na12, j13, ea12, ha12, hj13, gj13, ej13, h⟩ := oa_inv h
        refine cx_aald (t := 5) 405 rfl d_H_content_61 (by decide) rfl ea12 ha12 hj13 gj13 ej13 ?_
        obtain ⟨p14, ep14, hp14, h⟩ := oc_inv h
        refine cx_getr 163 rfl g_H_content_62 rfl (by decide) ep14 hp14 ?_
        refine cx_iload_n d_H_content_65 rfl ?_
        obtain ⟨a15, na15, j16, ea15, ha15, hj16, gj16, ej16, h⟩ := oa_inv h
        refine cx_iald d_H_content_66 ea15 ha15 hj16 gj16 ej16 ?_
        exact cx_iret d_H_content_67 rfl (ox_i hq h)
      rw [if_neg e28_0] at h
      by_cases e28_1 : l3 = nI 1
      · rw [if_pos e28_1] at h
        refine cx_look (tgt := 68) (40) d_H_content_28 (by decide) (by rw [e28_1]; decide) (by decide) ?_
        refine cx_aload_n d_H_content_68 rfl ?_
        obtain ⟨p17, ep17, hp17, h⟩ := oc_inv h
        refine cx_getr 5 rfl g_H_content_69 rfl (by decide) ep17 hp17 ?_
        refine cx_iload_n d_H_content_72 rfl ?_
        obtain ⟨a18, na18, j19, ea18, ha18, hj19, gj19, ej19, h⟩ := oa_inv h
        refine cx_aald (t := 5) 405 rfl d_H_content_73 (by decide) rfl ea18 ha18 hj19 gj19 ej19 ?_
        obtain ⟨p20, ep20, hp20, h⟩ := oc_inv h
        refine cx_getr 164 rfl g_H_content_74 rfl (by decide) ep20 hp20 ?_
        refine cx_iload_n d_H_content_77 rfl ?_
        obtain ⟨a21, na21, j22, ea21, ha21, hj22, gj22, ej22, h⟩ := oa_inv h
        refine cx_iald d_H_content_78 ea21 ha21 hj22 gj22 ej22 ?_
        exact cx_iret d_H_content_79 rfl (ox_i hq h)
      rw [if_neg e28_1] at h
      refine cx_look (tgt := 80) (52) d_H_content_28 (by decide) (look_out2 e28_0 e28_1) (by decide) ?_
      refine cx_iconst (v := (-1)) d_H_content_80 (by decide) ?_
      exact cx_iret d_H_content_81 rfl (ox_i hq h)
    · rw [if_pos hc22] at h
      exact hJ1 _ _ _ _ _ h
theorem E_U_amountOf {G : bm_G} {f : Nat} {l0 : Nat} {l1 : Int32} {s sz : cx_S} {r : Int32} {Q : Int32 → cx_S → Prop} (h : D_U_amountOf f l0 l1 s = some (r, sz)) (hq : Q r sz) : cx_Ti G me_U_amountOf [va_rf (some l0), .int (l1)] s Q := by
  refine cx_meti (by decide) (List.forall_mem_cons.mpr ⟨cx_cat, (List.forall_mem_cons.mpr ⟨rfl, (fun _ q => nomatch q)⟩)⟩) (Nat.le_of_ble_eq_true rfl) ?_
  generalize hQ : (fun (v : bm_R) (s2 : cx_S) => ∃ x, v = .inl (some (.int x)) ∧ Q x s2) = Q2
  replace hq : Q2 (.inl (some (.int (r)))) sz := by rw [← hQ]; exact ⟨_, rfl, hq⟩
  clear hQ
  unfold D_U_amountOf at h
  refine cx_aload_n d_U_amountOf_0 rfl ?_
  refine cx_iload_n d_U_amountOf_1 rfl ?_
  obtain ⟨p1, ep1, hp1, h⟩ := oc_inv h
  obtain ⟨x2, s3, ex2, h⟩ := ob_inv h
  refine cx_callV1 c_U_amountOf_2 (cx_hst (fun _ q => nomatch q) (Nat.le_of_ble_eq_true rfl)) (by decide) ep1 hp1 (E_U_placeOf ex2 ?_)
  refine cx_istore_n d_U_amountOf_5 (by decide) ?_
  refine cx_iload_n d_U_amountOf_6 rfl ?_
  refine cx_iconst (v := (-1)) d_U_amountOf_7 (by decide) ?_
  refine oj_step (P := fun J4 : Int32 → Option (Int32 × cx_S) => ∀ (x5 : Int32) (d0 : Option Value) (d1 : Option Value) (d2 : Option Value), J4 x5 = some (r, sz) → cx G me_U_amountOf 21 [d0, d1, d2] [.int (x5)] s3 Q2) h ?_ ?_
  · intro x5 d0 d1 d2 h
    exact cx_iret d_U_amountOf_21 rfl (ox_i hq h)
  clear h
  intro J4 hJ1 h
  refine cx_icmp_ne (tgt := 15) d_U_amountOf_8 (by decide) (fun hc8 => ?_) (fun hc8 => ?_)
  · rw [if_neg hc8] at h
    refine cx_aload_n d_U_amountOf_15 rfl ?_
    obtain ⟨p6, ep6, hp6, h⟩ := oc_inv h
    refine cx_getr 164 rfl g_U_amountOf_16 rfl (by decide) ep6 hp6 ?_
    refine cx_iload_n d_U_amountOf_19 rfl ?_
    obtain ⟨a7, na7, j8, ea7, ha7, hj8, gj8, ej8, h⟩ := oa_inv h
    refine cx_iald d_U_amountOf_20 ea7 ha7 hj8 gj8 ej8 ?_
    exact hJ1 _ _ _ _ h
  · rw [if_pos hc8] at h
    refine cx_iconst (v := nI 0) d_U_amountOf_11 (by decide) ?_
    refine cx_goto (tgt := 21) d_U_amountOf_12 (by decide) ?_
    exact hJ1 _ _ _ _ h
theorem E_F_amountOf_4 {G : bm_G} {f : Nat} {l0 : Nat} {l1 : Int32} {r : Int32} {sz : cx_S} {Q : bm_R → cx_S → Prop} (hq : Q (.inl (some (.int (r)))) sz) : ∀ (n : Nat) (l2 : Int32) (l3 : Int32) (s : cx_S), D_F_amountOf_4 f l0 l1 n l2 l3 s = some (r, sz) → cx G me_F_amountOf 4 [some (va_rf (some l0)), some (.int (l1)), some (.int (l2)), some (.int (l3))] [] s Q := by
  intro n
  induction n with
  | zero =>
    intro l2 l3 s h
    rw [D_F_amountOf_4] at h
    exact absurd h (by simp)
  | succ n ih =>
    intro l2 l3 s h
    rw [D_F_amountOf_4] at h
    refine cx_iload_n d_F_amountOf_4 rfl ?_
    refine cx_bipush (v := nI 6) d_F_amountOf_5 (by decide) ?_
    refine cx_icmp_ge (tgt := 29) d_F_amountOf_7 (by decide) (fun hc7 => ?_) (fun hc7 => ?_)
    · rw [if_pos hc7] at h
      refine cx_iload_n d_F_amountOf_29 rfl ?_
      exact cx_iret d_F_amountOf_30 rfl (ox_i hq h)
    · rw [if_neg hc7] at h
      refine cx_iload_n d_F_amountOf_10 rfl ?_
      refine cx_aload_n d_F_amountOf_11 rfl ?_
      obtain ⟨p1, ep1, hp1, h⟩ := oc_inv h
      refine cx_getr 32 rfl g_F_amountOf_12 rfl (by decide) ep1 hp1 ?_
      refine cx_iload_n d_F_amountOf_15 rfl ?_
      obtain ⟨a2, na2, j3, ea2, ha2, hj3, gj3, ej3, h⟩ := oa_inv h
      refine cx_aald (t := 5) 405 rfl d_F_amountOf_16 (by decide) rfl ea2 ha2 hj3 gj3 ej3 ?_
      refine cx_iload_n d_F_amountOf_17 rfl ?_
      obtain ⟨p4, ep4, hp4, h⟩ := oc_inv h
      obtain ⟨x5, s6, ex5, h⟩ := ob_inv h
      refine cx_callV1 c_F_amountOf_18 (cx_hst (List.forall_mem_cons.mpr ⟨rfl, (fun _ q => nomatch q)⟩) (Nat.le_of_ble_eq_true rfl)) (by decide) ep4 hp4 (E_U_amountOf ex5 ?_)
      refine cx_iadd d_F_amountOf_21 ?_
      refine cx_istore_n d_F_amountOf_22 (by decide) ?_
      refine cx_iincP d_F_amountOf_23 (by decide) rfl ?_
      refine cx_goto (tgt := 4) d_F_amountOf_26 (by decide) ?_
      exact ih _ _ _ h
theorem E_F_amountOf {G : bm_G} {f : Nat} {l0 : Nat} {l1 : Int32} {s sz : cx_S} {r : Int32} {Q : Int32 → cx_S → Prop} (h : D_F_amountOf f l0 l1 s = some (r, sz)) (hq : Q r sz) : cx_Ti G me_F_amountOf [va_rf (some l0), .int (l1)] s Q := by
  refine cx_meti (by decide) (List.forall_mem_cons.mpr ⟨cx_cat, (List.forall_mem_cons.mpr ⟨rfl, (fun _ q => nomatch q)⟩)⟩) (Nat.le_of_ble_eq_true rfl) ?_
  generalize hQ : (fun (v : bm_R) (s2 : cx_S) => ∃ x, v = .inl (some (.int x)) ∧ Q x s2) = Q2
  replace hq : Q2 (.inl (some (.int (r)))) sz := by rw [← hQ]; exact ⟨_, rfl, hq⟩
  clear hQ
  unfold D_F_amountOf at h
  refine cx_iconst (v := nI 0) d_F_amountOf_0 (by decide) ?_
  refine cx_istore_n d_F_amountOf_1 (by decide) ?_
  refine cx_iconst (v := nI 0) d_F_amountOf_2 (by decide) ?_
  refine cx_istore_n d_F_amountOf_3 (by decide) ?_
  refine E_F_amountOf_4 (r := r) (sz := sz) hq _ _ _ _ h
theorem E_H_lot {G : bm_G} {f : Nat} {l0 : Nat} {l1 : Int32} {l2 : Int32} {s sz : cx_S} {r : Int32} {Q : Int32 → cx_S → Prop} (h : D_H_lot f l0 l1 l2 s = some (r, sz)) (hq : Q r sz) : cx_Ti G me_H_lot [va_rf (some l0), .int (l1), .int (l2)] s Q := by
  refine cx_meti (by decide) (List.forall_mem_cons.mpr ⟨cx_cat, (List.forall_mem_cons.mpr ⟨rfl, (List.forall_mem_cons.mpr ⟨rfl, (fun _ q => nomatch q)⟩)⟩)⟩) (Nat.le_of_ble_eq_true rfl) ?_
  generalize hQ : (fun (v : bm_R) (s2 : cx_S) => ∃ x, v = .inl (some (.int x)) ∧ Q x s2) = Q2
  replace hq : Q2 (.inl (some (.int (r)))) sz := by rw [← hQ]; exact ⟨_, rfl, hq⟩
  clear hQ
  unfold D_H_lot at h
  refine cx_iload_n d_H_lot_0 rfl ?_
  refine cx_aload_n d_H_lot_1 rfl ?_
  obtain ⟨p1, ep1, hp1, h⟩ := oc_inv h
  refine cx_getr 6 rfl g_H_lot_2 rfl (by decide) ep1 hp1 ?_
  obtain ⟨p2, ep2, hp2, h⟩ := oc_inv h
  refine cx_geti 64 rfl g_H_lot_5 rfl (by decide) ep2 hp2 ?_
  obtain ⟨x3, s4, ex3, h⟩ := ob_inv h
  refine cx_callS2 c_H_lot_8 (cx_hst (fun _ q => nomatch q) (Nat.le_of_ble_eq_true rfl)) (E_H_isBelow ex3 ?_)
  refine cx_if_ne (tgt := 16) d_H_lot_11 (by decide) (fun hc11 => ?_) (fun hc11 => ?_)
  · rw [if_neg hc11] at h
    refine cx_aload_n d_H_lot_16 rfl ?_
    obtain ⟨p5, ep5, hp5, h⟩ := oc_inv h
    refine cx_getr 6 rfl g_H_lot_17 rfl (by decide) ep5 hp5 ?_
    obtain ⟨p6, ep6, hp6, h⟩ := oc_inv h
    refine cx_getr 65 rfl g_H_lot_20 rfl (by decide) ep6 hp6 ?_
    refine cx_iload_n d_H_lot_23 rfl ?_
    obtain ⟨a7, na7, j8, ea7, ha7, hj8, gj8, ej8, h⟩ := oa_inv h
    refine cx_aald (t := 6) 406 rfl d_H_lot_24 (by decide) rfl ea7 ha7 hj8 gj8 ej8 ?_
    refine cx_astore_n d_H_lot_25 (by decide) ?_
    refine cx_iload_n d_H_lot_26 rfl ?_
    by_cases e27_0 : l2 = nI 0
    · rw [if_pos e27_0] at h
      refine cx_tab (tgt := 60) d_H_lot_27 0 e27_0 (by decide) (by decide) (by rfl) (by decide) ?_
      refine cx_aload_n d_H_lot_60 rfl ?_
      obtain ⟨p9, ep9, hp9, h⟩ := oc_inv h
      refine cx_geti 48 rfl g_H_lot_61 rfl (by decide) ep9 hp9 ?_
      exact cx_iret d_H_lot_64 rfl (ox_i hq h)
    rw [if_neg e27_0] at h
    by_cases e27_1 : l2 = nI 1
    · rw [if_pos e27_1] at h
      refine cx_tab (tgt := 65) d_H_lot_27 1 e27_1 (by decide) (by decide) (by rfl) (by decide) ?_
      refine cx_aload_n d_H_lot_65 rfl ?_
      obtain ⟨p10, ep10, hp10, h⟩ := oc_inv h
      refine cx_geti 49 rfl g_H_lot_66 rfl (by decide) ep10 hp10 ?_
      exact cx_iret d_H_lot_69 rfl (ox_i hq h)
    rw [if_neg e27_1] at h
    by_cases e27_2 : l2 = nI 2
    · rw [if_pos e27_2] at h
      refine cx_tab (tgt := 70) d_H_lot_27 2 e27_2 (by decide) (by decide) (by rfl) (by decide) ?_
      refine cx_aload_n d_H_lot_70 rfl ?_
      refine cx_getr 4 rfl g_H_lot_71 rfl (by decide) ep5 hp5 ?_
      refine cx_iload_n d_H_lot_74 rfl ?_
      obtain ⟨p11, ep11, hp11, h⟩ := oc_inv h
      obtain ⟨x12, s13, ex12, h⟩ := ob_inv h
      refine cx_callV1 c_H_lot_75 (cx_hst (fun _ q => nomatch q) (Nat.le_of_ble_eq_true rfl)) (by decide) ep11 hp11 (E_F_amountOf ex12 ?_)
      exact cx_iret d_H_lot_78 rfl (ox_i hq h)
    rw [if_neg e27_2] at h
    by_cases e27_3 : l2 = nI 3
    · rw [if_pos e27_3] at h
      refine cx_tab (tgt := 79) d_H_lot_27 3 e27_3 (by decide) (by decide) (by rfl) (by decide) ?_
      refine cx_aload_n d_H_lot_79 rfl ?_
      obtain ⟨p14, ep14, hp14, h⟩ := oc_inv h
      refine cx_getr 50 rfl g_H_lot_80 rfl (by decide) ep14 hp14 ?_
      obtain ⟨a15, na15, ea15, ha15, h⟩ := oq_inv h
      refine cx_alen d_H_lot_83 ea15 ha15 ?_
      exact cx_iret d_H_lot_84 rfl (ox_i hq h)
    rw [if_neg e27_3] at h
    by_cases e27_4 : l2 = nI 4
    · rw [if_pos e27_4] at h
      refine cx_tab (tgt := 85) d_H_lot_27 4 e27_4 (by decide) (by decide) (by rfl) (by decide) ?_
      refine cx_aload_n d_H_lot_85 rfl ?_
      obtain ⟨p16, ep16, hp16, h⟩ := oc_inv h
      refine cx_geti 52 rfl g_H_lot_86 rfl (by decide) ep16 hp16 ?_
      exact cx_iret d_H_lot_89 rfl (ox_i hq h)
    rw [if_neg e27_4] at h
    have hsw : ∀ j, j ≤ 4 → ¬ l2 = nI j := by
      intro j hj
      have hj2 : j = 0 ∨ j = 1 ∨ j = 2 ∨ j = 3 ∨ j = 4 := by omega
      rcases hj2 with rfl | rfl | rfl | rfl | rfl <;> assumption
    refine cx_tableOut (tgt := 90) d_H_lot_27 (sw_out 4 (by decide) hsw) (by decide) ?_
    refine cx_iconst (v := (-1)) d_H_lot_90 (by decide) ?_
    exact cx_iret d_H_lot_91 rfl (ox_i hq h)
  · rw [if_pos hc11] at h
    refine cx_iconst (v := (-1)) d_H_lot_14 (by decide) ?_
    exact cx_iret d_H_lot_15 rfl (ox_i hq h)
