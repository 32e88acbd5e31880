theorem E_M_thrown {G : bm_G} {f : Nat} {s sz : rx_S} {r : Int32} {Q : Int32 → rx_S → Prop} (h : D_M_thrown f s = some (r, sz)) (hq : Q r sz) : rx_Ti G me_M_thrown [.ref rx_o] s Q := by
  refine rx_meti (by decide) rfl (Nat.le_of_ble_eq_true rfl) ?_
  generalize hQ : (fun (v : bm_R) (s2 : rx_S) => ∃ x, v = .inl (some (.int x)) ∧ Q x s2) = Q2
  replace hq : Q2 (.inl (some (.int (r)))) sz := by rw [← hQ]; exact ⟨_, rfl, hq⟩
  clear hQ
  unfold D_M_thrown at h
  refine rx_aload_n d_M_thrown_0 rfl ?_
  refine rx_gsf g_M_thrown_1 (by decide) rfl ?_
  exact rx_iret d_M_thrown_4 rfl (ox_i hq h)
theorem E_M_in {G : bm_G} {f : Nat} {l0 : Int32} {l1 : Int32} {l2 : Int32} {s sz : rx_S} {r : Int32} {Q : Int32 → rx_S → Prop} (h : D_M_in f l0 l1 l2 s = some (r, sz)) (hq : Q r sz) : rx_Ti G me_M_in [.int (l0), .int (l1), .int (l2)] s Q := by
  refine rx_meti (by decide) rfl (Nat.le_of_ble_eq_true rfl) ?_
  generalize hQ : (fun (v : bm_R) (s2 : rx_S) => ∃ x, v = .inl (some (.int x)) ∧ Q x s2) = Q2
  replace hq : Q2 (.inl (some (.int (r)))) sz := by rw [← hQ]; exact ⟨_, rfl, hq⟩
  clear hQ
  unfold D_M_in at h
  refine rx_iload_n d_M_in_0 rfl ?_
  refine rx_iload_n d_M_in_1 rfl ?_
  refine oj_step (P := fun J1 : Int32 → Option (Int32 × rx_S) => ∀ (x2 : Int32) (d0 : Option Value) (d1 : Option Value) (d2 : Option Value), J1 x2 = some (r, sz) → rx G me_M_in 15 [d0, d1, d2] [.int (x2)] s Q2) h ?_ ?_
  · intro x2 d0 d1 d2 h
    obtain ⟨hz, h⟩ := ozb_inv h
    exact rx_zret d_M_in_15 rfl (ozb_nar hz) (ox_i hq h)
  clear h
  intro J1 hJ1 h
  refine oj_step (P := fun J3 : Unit → Option (Int32 × rx_S) => ∀ (_u : Unit) (d0 : Option Value) (d1 : Option Value) (d2 : Option Value), J3 () = some (r, sz) → rx G me_M_in 14 [d0, d1, d2] [] s Q2) h ?_ ?_
  · intro _u d0 d1 d2 h
    refine rx_iconst (v := nI 0) d_M_in_14 (by decide) ?_
    exact hJ1 _ _ _ _ h
  clear h
  intro J3 hJ2 h
  refine rx_icmp_lt (tgt := 14) d_M_in_2 (by decide) (fun hc2 => ?_) (fun hc2 => ?_)
  · rw [if_pos hc2] at h
    exact hJ2 () _ _ _ h
  · rw [if_neg hc2] at h
    refine rx_iload_n d_M_in_5 rfl ?_
    refine rx_iload_n d_M_in_6 rfl ?_
    refine rx_icmp_gt (tgt := 14) d_M_in_7 (by decide) (fun hc7 => ?_) (fun hc7 => ?_)
    · rw [if_pos hc7] at h
      exact hJ2 () _ _ _ h
    · rw [if_neg hc7] at h
      refine rx_iconst (v := nI 1) d_M_in_10 (by decide) ?_
      refine rx_goto (tgt := 15) d_M_in_11 (by decide) ?_
      exact hJ1 _ _ _ _ h
theorem E_M_unit {G : bm_G} {f : Nat} {l1 : Int32} {l2 : Int32} {s sz : rx_S} {r : Int32} {Q : Int32 → rx_S → Prop} (h : D_M_unit f l1 l2 s = some (r, sz)) (hq : Q r sz) : rx_Ti G me_M_unit [.ref rx_o, .int (l1), .int (l2)] s Q := by
  refine rx_meti (by decide) rfl (Nat.le_of_ble_eq_true rfl) ?_
  generalize hQ : (fun (v : bm_R) (s2 : rx_S) => ∃ x, v = .inl (some (.int x)) ∧ Q x s2) = Q2
  replace hq : Q2 (.inl (some (.int (r)))) sz := by rw [← hQ]; exact ⟨_, rfl, hq⟩
  clear hQ
  unfold D_M_unit at h
  refine rx_aload_n d_M_unit_0 rfl ?_
  refine rx_iconst (v := nI 0) d_M_unit_1 (by decide) ?_
  refine rx_psf p_M_unit_2 (by decide) rfl rfl rfl ?_
  refine rx_iload_n d_M_unit_5 rfl ?_
  refine rx_iconst (v := nI 0) d_M_unit_6 (by decide) ?_
  refine rx_iconst (v := nI 5) d_M_unit_7 (by decide) ?_
  obtain ⟨x1, s2, ex1, h⟩ := ob_inv h
  refine rx_callS3 c_M_unit_8 (Nat.le_of_ble_eq_true rfl) (E_M_in ex1 ?_)
  refine oj_step (P := fun J3 : rx_S → Option (Int32 × rx_S) => ∀ (s4 : rx_S) (d0 : Option Value) (d1 : Option Value) (d2 : Option Value), J3 s4 = some (r, sz) → rx G me_M_unit 33 [d0, d1, d2] [] s4 Q2) h ?_ ?_
  · intro s4 d0 d1 d2 h
    refine rx_iconst (v := nI 0) d_M_unit_33 (by decide) ?_
    exact rx_zret d_M_unit_34 rfl (by decide) (ox_i hq h)
  clear h
  intro J3 hJ1 h
  refine rx_if_eq (tgt := 33) d_M_unit_11 (by decide) (fun hc11 => ?_) (fun hc11 => ?_)
  · rw [if_pos hc11] at h
    exact hJ1 _ _ _ _ h
  · rw [if_neg hc11] at h
    refine rx_iload_n d_M_unit_14 rfl ?_
    refine rx_iconst (v := nI 0) d_M_unit_15 (by decide) ?_
    refine rx_iconst (v := nI 2) d_M_unit_16 (by decide) ?_
    obtain ⟨x5, s6, ex5, h⟩ := ob_inv h
    refine rx_callS3 c_M_unit_17 (Nat.le_of_ble_eq_true rfl) (E_M_in ex5 ?_)
    refine rx_if_eq (tgt := 33) d_M_unit_20 (by decide) (fun hc20 => ?_) (fun hc20 => ?_)
    · rw [if_pos hc20] at h
      exact hJ1 _ _ _ _ h
    · rw [if_neg hc20] at h
      refine rx_aload_n d_M_unit_23 rfl ?_
      refine rx_gaf g_M_unit_24 (by decide) ?_
      refine rx_iload_n d_M_unit_27 rfl ?_
      obtain ⟨j7, hj7, ej7, h⟩ := og_inv (by decide) h
      refine rx_iald d_M_unit_28 rfl ej7 hj7 ?_
      refine rx_iconst (v := (-1)) d_M_unit_29 (by decide) ?_
      refine rx_icmp_eq (tgt := 35) d_M_unit_30 (by decide) (fun hc30 => ?_) (fun hc30 => ?_)
      · rw [if_pos hc30] at h
        refine rx_aload_n d_M_unit_35 rfl ?_
        refine rx_gaf g_M_unit_36 (by decide) ?_
        refine rx_iload_n d_M_unit_39 rfl ?_
        refine rx_iload_n d_M_unit_40 rfl ?_
        refine rx_iast d_M_unit_41 rfl ej7 hj7 ?_
        refine rx_iconst (v := nI 1) d_M_unit_42 (by decide) ?_
        exact rx_zret d_M_unit_43 rfl (by decide) (ox_i hq h)
      · rw [if_neg hc30] at h
        exact hJ1 _ _ _ _ h
theorem E_M_isOpen {G : bm_G} {f : Nat} {l1 : Int32} {s sz : rx_S} {r : Int32} {Q : Int32 → rx_S → Prop} (h : D_M_isOpen f l1 s = some (r, sz)) (hq : Q r sz) : rx_Ti G me_M_isOpen [.ref rx_o, .int (l1)] s Q := by
  refine rx_meti (by decide) rfl (Nat.le_of_ble_eq_true rfl) ?_
  generalize hQ : (fun (v : bm_R) (s2 : rx_S) => ∃ x, v = .inl (some (.int x)) ∧ Q x s2) = Q2
  replace hq : Q2 (.inl (some (.int (r)))) sz := by rw [← hQ]; exact ⟨_, rfl, hq⟩
  clear hQ
  unfold D_M_isOpen at h
  refine rx_iload_n d_M_isOpen_0 rfl ?_
  refine rx_iconst (v := nI 0) d_M_isOpen_1 (by decide) ?_
  refine rx_iconst (v := nI 3) d_M_isOpen_2 (by decide) ?_
  obtain ⟨x1, s2, ex1, h⟩ := ob_inv h
  refine rx_callS3 c_M_isOpen_3 (Nat.le_of_ble_eq_true rfl) (E_M_in ex1 ?_)
  refine oj_step (P := fun J3 : Int32 → Option (Int32 × rx_S) => ∀ (x4 : Int32) (d0 : Option Value) (d1 : Option Value), J3 x4 = some (r, sz) → rx G me_M_isOpen 23 [d0, d1] [.int (x4)] s2 Q2) h ?_ ?_
  · intro x4 d0 d1 h
    obtain ⟨hz, h⟩ := ozb_inv h
    exact rx_zret d_M_isOpen_23 rfl (ozb_nar hz) (ox_i hq h)
  clear h
  intro J3 hJ1 h
  refine oj_step (P := fun J5 : Unit → Option (Int32 × rx_S) => ∀ (_u : Unit) (d0 : Option Value) (d1 : Option Value), J5 () = some (r, sz) → rx G me_M_isOpen 22 [d0, d1] [] s2 Q2) h ?_ ?_
  · intro _u d0 d1 h
    refine rx_iconst (v := nI 0) d_M_isOpen_22 (by decide) ?_
    exact hJ1 _ _ _ h
  clear h
  intro J5 hJ2 h
  refine rx_if_eq (tgt := 22) d_M_isOpen_6 (by decide) (fun hc6 => ?_) (fun hc6 => ?_)
  · rw [if_pos hc6] at h
    exact hJ2 () _ _ h
  · rw [if_neg hc6] at h
    refine rx_aload_n d_M_isOpen_9 rfl ?_
    refine rx_gaf g_M_isOpen_10 (by decide) ?_
    refine rx_iload_n d_M_isOpen_13 rfl ?_
    obtain ⟨j6, hj6, ej6, h⟩ := og_inv (by decide) h
    refine rx_zald d_M_isOpen_14 rfl ej6 hj6 ?_
    refine rx_if_ne (tgt := 22) d_M_isOpen_15 (by decide) (fun hc15 => ?_) (fun hc15 => ?_)
    · rw [if_neg hc15] at h
      exact hJ2 () _ _ h
    · rw [if_pos hc15] at h
      refine rx_iconst (v := nI 1) d_M_isOpen_18 (by decide) ?_
      refine rx_goto (tgt := 23) d_M_isOpen_19 (by decide) ?_
      exact hJ1 _ _ _ h
theorem E_M_role {G : bm_G} {f : Nat} {l1 : Int32} {l2 : Int32} {l3 : Int32} {s sz : rx_S} {r : Int32} {Q : Int32 → rx_S → Prop} (h : D_M_role f l1 l2 l3 s = some (r, sz)) (hq : Q r sz) : rx_Ti G me_M_role [.ref rx_o, .int (l1), .int (l2), .int (l3)] s Q := by
  refine rx_meti (by decide) rfl (Nat.le_of_ble_eq_true rfl) ?_
  generalize hQ : (fun (v : bm_R) (s2 : rx_S) => ∃ x, v = .inl (some (.int x)) ∧ Q x s2) = Q2
  replace hq : Q2 (.inl (some (.int (r)))) sz := by rw [← hQ]; exact ⟨_, rfl, hq⟩
  clear hQ
  unfold D_M_role at h
  refine rx_aload_n d_M_role_0 rfl ?_
  refine rx_iconst (v := nI 0) d_M_role_1 (by decide) ?_
  refine rx_psf p_M_role_2 (by decide) rfl rfl rfl ?_
  refine rx_aload_n d_M_role_5 rfl ?_
  refine rx_iload_n d_M_role_6 rfl ?_
  obtain ⟨x1, s2, ex1, h⟩ := ob_inv h
  refine rx_callV1 c_M_role_7 (Nat.le_of_ble_eq_true rfl) (E_M_isOpen ex1 ?_)
  refine oj_step (P := fun J3 : rx_S → Option (Int32 × rx_S) => ∀ (s4 : rx_S) (d0 : Option Value) (d1 : Option Value) (d2 : Option Value) (d3 : Option Value), J3 s4 = some (r, sz) → rx G me_M_role 31 [d0, d1, d2, d3] [] s4 Q2) h ?_ ?_
  · intro s4 d0 d1 d2 d3 h
    refine rx_iconst (v := nI 0) d_M_role_31 (by decide) ?_
    exact rx_zret d_M_role_32 rfl (by decide) (ox_i hq h)
  clear h
  intro J3 hJ1 h
  refine rx_if_eq (tgt := 31) d_M_role_10 (by decide) (fun hc10 => ?_) (fun hc10 => ?_)
  · rw [if_pos hc10] at h
    exact hJ1 _ _ _ _ _ h
  · rw [if_neg hc10] at h
    refine rx_iload_n d_M_role_13 rfl ?_
    refine rx_iconst (v := nI 0) d_M_role_14 (by decide) ?_
    refine rx_iconst (v := nI 2) d_M_role_15 (by decide) ?_
    obtain ⟨x5, s6, ex5, h⟩ := ob_inv h
    refine rx_callS3 c_M_role_16 (Nat.le_of_ble_eq_true rfl) (E_M_in ex5 ?_)
    refine rx_if_eq (tgt := 31) d_M_role_19 (by decide) (fun hc19 => ?_) (fun hc19 => ?_)
    · rw [if_pos hc19] at h
      exact hJ1 _ _ _ _ _ h
    · rw [if_neg hc19] at h
      refine rx_iload_n d_M_role_22 rfl ?_
      refine rx_iconst (v := nI 0) d_M_role_23 (by decide) ?_
      refine rx_iconst (v := nI 3) d_M_role_24 (by decide) ?_
      obtain ⟨x7, s8, ex7, h⟩ := ob_inv h
      refine rx_callS3 c_M_role_25 (Nat.le_of_ble_eq_true rfl) (E_M_in ex7 ?_)
      refine rx_if_ne (tgt := 33) d_M_role_28 (by decide) (fun hc28 => ?_) (fun hc28 => ?_)
      · rw [if_neg hc28] at h
        refine rx_aload_n d_M_role_33 rfl ?_
        refine rx_gaf g_M_role_34 (by decide) ?_
        refine rx_iconst (v := nI 3) d_M_role_37 (by decide) ?_
        refine rx_iload_n d_M_role_38 rfl ?_
        refine rx_imul d_M_role_39 ?_
        refine rx_iload_n d_M_role_40 rfl ?_
        refine rx_iadd d_M_role_41 ?_
        refine rx_iload_n d_M_role_42 rfl ?_
        obtain ⟨j9, hj9, ej9, h⟩ := og_inv (by decide) h
        refine rx_iast d_M_role_43 rfl ej9 hj9 ?_
        refine rx_iconst (v := nI 1) d_M_role_44 (by decide) ?_
        exact rx_zret d_M_role_45 rfl (by decide) (ox_i hq h)
      · rw [if_pos hc28] at h
        exact hJ1 _ _ _ _ _ h
theorem E_M_step {G : bm_G} {f : Nat} {l1 : Int32} {l2 : Int32} {l3 : Int32} {l4 : Int32} {l5 : Int32} {s sz : rx_S} {r : Int32} {Q : Int32 → rx_S → Prop} (h : D_M_step f l1 l2 l3 l4 l5 s = some (r, sz)) (hq : Q r sz) : rx_Ti G me_M_step [.ref rx_o, .int (l1), .int (l2), .int (l3), .int (l4), .int (l5)] s Q := by
  refine rx_meti (by decide) rfl (Nat.le_of_ble_eq_true rfl) ?_
  generalize hQ : (fun (v : bm_R) (s2 : rx_S) => ∃ x, v = .inl (some (.int x)) ∧ Q x s2) = Q2
  replace hq : Q2 (.inl (some (.int (r)))) sz := by rw [← hQ]; exact ⟨_, rfl, hq⟩
  clear hQ
  unfold D_M_step at h
  refine rx_aload_n d_M_step_0 rfl ?_
  refine rx_iconst (v := nI 0) d_M_step_1 (by decide) ?_
  refine rx_psf p_M_step_2 (by decide) rfl rfl rfl ?_
  refine rx_aload_n d_M_step_5 rfl ?_
  refine rx_iload_n d_M_step_6 rfl ?_
  obtain ⟨x1, s2, ex1, h⟩ := ob_inv h
  refine rx_callV1 c_M_step_7 (Nat.le_of_ble_eq_true rfl) (E_M_isOpen ex1 ?_)
  refine oj_step (P := fun J3 : rx_S → Option (Int32 × rx_S) => ∀ (s4 : rx_S) (d0 : Option Value) (d1 : Option Value) (d2 : Option Value) (d3 : Option Value) (d4 : Option Value) (d5 : Option Value) (d6 : Option Value), J3 s4 = some (r, sz) → rx G me_M_step 34 [d0, d1, d2, d3, d4, d5, d6] [] s4 Q2) h ?_ ?_
  · intro s4 d0 d1 d2 d3 d4 d5 d6 h
    refine rx_iconst (v := (-1)) d_M_step_34 (by decide) ?_
    exact rx_iret d_M_step_35 rfl (ox_i hq h)
  clear h
  intro J3 hJ1 h
  refine rx_if_eq (tgt := 34) d_M_step_10 (by decide) (fun hc10 => ?_) (fun hc10 => ?_)
  · rw [if_pos hc10] at h
    exact hJ1 _ _ _ _ _ _ _ _ h
  · rw [if_neg hc10] at h
    refine rx_iload_n d_M_step_13 rfl ?_
    refine rx_iconst (v := nI 0) d_M_step_14 (by decide) ?_
    refine rx_bipush (v := nI 9) d_M_step_15 (by decide) ?_
    obtain ⟨x5, s6, ex5, h⟩ := ob_inv h
    refine rx_callS3 c_M_step_17 (Nat.le_of_ble_eq_true rfl) (E_M_in ex5 ?_)
    refine rx_if_eq (tgt := 34) d_M_step_20 (by decide) (fun hc20 => ?_) (fun hc20 => ?_)
    · rw [if_pos hc20] at h
      exact hJ1 _ _ _ _ _ _ _ _ h
    · rw [if_neg hc20] at h
      refine rx_aload_n d_M_step_23 rfl ?_
      refine rx_gaf g_M_step_24 (by decide) ?_
      refine rx_iload_n d_M_step_27 rfl ?_
      obtain ⟨j7, hj7, ej7, h⟩ := og_inv (by decide) h
      refine rx_iald d_M_step_28 rfl ej7 hj7 ?_
      refine rx_bipush (v := nI 12) d_M_step_29 (by decide) ?_
      refine rx_icmp_ne (tgt := 36) d_M_step_31 (by decide) (fun hc31 => ?_) (fun hc31 => ?_)
      · rw [if_neg hc31] at h
        refine rx_bipush (v := nI 12) d_M_step_36 (by decide) ?_
        refine rx_iload_n d_M_step_38 rfl ?_
        refine rx_imul d_M_step_39 ?_
        refine rx_aload_n d_M_step_40 rfl ?_
        refine rx_gaf g_M_step_41 (by decide) ?_
        refine rx_iload_n d_M_step_44 rfl ?_
        refine rx_iald d_M_step_45 rfl ej7 hj7 ?_
        refine rx_iadd d_M_step_46 ?_
        refine rx_istore d_M_step_47 (by decide) ?_
        refine rx_aload_n d_M_step_49 rfl ?_
        refine rx_gaf g_M_step_50 (by decide) ?_
        refine rx_iload d_M_step_53 rfl ?_
        refine rx_iload_n d_M_step_55 rfl ?_
        obtain ⟨j8, hj8, ej8, h⟩ := og_inv (by decide) h
        refine rx_iast d_M_step_56 rfl ej8 hj8 ?_
        refine rx_aload_n d_M_step_57 rfl ?_
        refine rx_gaf g_M_step_58 (by decide) ?_
        refine rx_iload d_M_step_61 rfl ?_
        refine rx_iload_n d_M_step_63 rfl ?_
        refine rx_iast d_M_step_64 rfl ej8 hj8 ?_
        refine rx_aload_n d_M_step_65 rfl ?_
        refine rx_gaf g_M_step_66 (by decide) ?_
        refine rx_iload d_M_step_69 rfl ?_
        refine rx_iload d_M_step_71 rfl ?_
        refine rx_iast d_M_step_73 rfl ej8 hj8 ?_
        refine rx_aload_n d_M_step_74 rfl ?_
        refine rx_gaf g_M_step_75 (by decide) ?_
        refine rx_iload d_M_step_78 rfl ?_
        refine rx_iload d_M_step_80 rfl ?_
        refine rx_iast d_M_step_82 rfl ej8 hj8 ?_
        refine rx_aload_n d_M_step_83 rfl ?_
        refine rx_gaf g_M_step_84 (by decide) ?_
        refine rx_iload d_M_step_87 rfl ?_
        refine rx_iconst (v := (-1)) d_M_step_89 (by decide) ?_
        refine rx_iast d_M_step_90 rfl ej8 hj8 ?_
        refine rx_aload_n d_M_step_91 rfl ?_
        refine rx_gaf g_M_step_92 (by decide) ?_
        refine rx_iload d_M_step_95 rfl ?_
        refine rx_iconst (v := (-1)) d_M_step_97 (by decide) ?_
        refine rx_iast d_M_step_98 rfl ej8 hj8 ?_
        refine rx_aload_n d_M_step_99 rfl ?_
        refine rx_gaf g_M_step_100 (by decide) ?_
        refine rx_iload_n d_M_step_103 rfl ?_
        refine rx_dup2 d_M_step_104 rfl rfl ?_
        refine rx_iald d_M_step_105 rfl ej7 hj7 ?_
        refine rx_iconst (v := nI 1) d_M_step_106 (by decide) ?_
        refine rx_iadd d_M_step_107 ?_
        refine rx_iast d_M_step_108 rfl ej7 hj7 ?_
        refine rx_aload_n d_M_step_109 rfl ?_
        refine rx_gaf g_M_step_110 (by decide) ?_
        refine rx_iload_n d_M_step_113 rfl ?_
        refine rx_iald d_M_step_114 rfl ej7 hj7 ?_
        refine rx_iconst (v := nI 1) d_M_step_115 (by decide) ?_
        refine rx_isub d_M_step_116 ?_
        exact rx_iret d_M_step_117 rfl (ox_i hq h)
      · rw [if_pos hc31] at h
        exact hJ1 _ _ _ _ _ _ _ _ h
theorem E_M_link {G : bm_G} {f : Nat} {l1 : Int32} {l2 : Int32} {l3 : Int32} {l4 : Int32} {s sz : rx_S} {r : Int32} {Q : Int32 → rx_S → Prop} (h : D_M_link f l1 l2 l3 l4 s = some (r, sz)) (hq : Q r sz) : rx_Ti G me_M_link [.ref rx_o, .int (l1), .int (l2), .int (l3), .int (l4)] s Q := by
  refine rx_meti (by decide) rfl (Nat.le_of_ble_eq_true rfl) ?_
  generalize hQ : (fun (v : bm_R) (s2 : rx_S) => ∃ x, v = .inl (some (.int x)) ∧ Q x s2) = Q2
  replace hq : Q2 (.inl (some (.int (r)))) sz := by rw [← hQ]; exact ⟨_, rfl, hq⟩
  clear hQ
  unfold D_M_link at h
  refine rx_aload_n d_M_link_0 rfl ?_
  refine rx_iconst (v := nI 0) d_M_link_1 (by decide) ?_
  refine rx_psf p_M_link_2 (by decide) rfl rfl rfl ?_
  refine rx_aload_n d_M_link_5 rfl ?_
  refine rx_iload_n d_M_link_6 rfl ?_
  obtain ⟨x1, s2, ex1, h⟩ := ob_inv h
  refine rx_callV1 c_M_link_7 (Nat.le_of_ble_eq_true rfl) (E_M_isOpen ex1 ?_)
  refine oj_step (P := fun J3 : rx_S → Option (Int32 × rx_S) => ∀ (s4 : rx_S) (d0 : Option Value) (d1 : Option Value) (d2 : Option Value) (d3 : Option Value) (d4 : Option Value), J3 s4 = some (r, sz) → rx G me_M_link 29 [d0, d1, d2, d3, d4] [] s4 Q2) h ?_ ?_
  · intro s4 d0 d1 d2 d3 d4 h
    refine rx_iconst (v := nI 0) d_M_link_29 (by decide) ?_
    exact rx_zret d_M_link_30 rfl (by decide) (ox_i hq h)
  clear h
  intro J3 hJ1 h
  refine rx_if_eq (tgt := 29) d_M_link_10 (by decide) (fun hc10 => ?_) (fun hc10 => ?_)
  · rw [if_pos hc10] at h
    exact hJ1 _ _ _ _ _ _ h
  · rw [if_neg hc10] at h
    refine rx_iload_n d_M_link_13 rfl ?_
    refine rx_iconst (v := nI 0) d_M_link_14 (by decide) ?_
    refine rx_aload_n d_M_link_15 rfl ?_
    refine rx_gaf g_M_link_16 (by decide) ?_
    refine rx_iload_n d_M_link_19 rfl ?_
    obtain ⟨j5, hj5, ej5, h⟩ := og_inv (by decide) h
    refine rx_iald d_M_link_20 rfl ej5 hj5 ?_
    refine rx_iconst (v := nI 1) d_M_link_21 (by decide) ?_
    refine rx_isub d_M_link_22 ?_
    obtain ⟨x6, s7, ex6, h⟩ := ob_inv h
    refine rx_callS3 c_M_link_23 (Nat.le_of_ble_eq_true rfl) (E_M_in ex6 ?_)
    refine rx_if_ne (tgt := 31) d_M_link_26 (by decide) (fun hc26 => ?_) (fun hc26 => ?_)
    · rw [if_neg hc26] at h
      refine rx_aload_n d_M_link_31 rfl ?_
      refine rx_gaf g_M_link_32 (by decide) ?_
      refine rx_bipush (v := nI 12) d_M_link_35 (by decide) ?_
      refine rx_iload_n d_M_link_37 rfl ?_
      refine rx_imul d_M_link_38 ?_
      refine rx_iload_n d_M_link_39 rfl ?_
      refine rx_iadd d_M_link_40 ?_
      refine rx_iload_n d_M_link_41 rfl ?_
      obtain ⟨j8, hj8, ej8, h⟩ := og_inv (by decide) h
      refine rx_iast d_M_link_42 rfl ej8 hj8 ?_
      refine rx_aload_n d_M_link_43 rfl ?_
      refine rx_gaf g_M_link_44 (by decide) ?_
      refine rx_bipush (v := nI 12) d_M_link_47 (by decide) ?_
      refine rx_iload_n d_M_link_49 rfl ?_
      refine rx_imul d_M_link_50 ?_
      refine rx_iload_n d_M_link_51 rfl ?_
      refine rx_iadd d_M_link_52 ?_
      refine rx_iload d_M_link_53 rfl ?_
      refine rx_iast d_M_link_55 rfl ej8 hj8 ?_
      refine rx_iconst (v := nI 1) d_M_link_56 (by decide) ?_
      exact rx_zret d_M_link_57 rfl (by decide) (ox_i hq h)
    · rw [if_pos hc26] at h
      exact hJ1 _ _ _ _ _ _ h
theorem E_M_goes {G : bm_G} {f : Nat} {l1 : Int32} {l2 : Int32} {s sz : rx_S} {r : Int32} {Q : Int32 → rx_S → Prop} (h : D_M_goes f l1 l2 s = some (r, sz)) (hq : Q r sz) : rx_Ti G me_M_goes [.ref rx_o, .int (l1), .int (l2)] s Q := by
  refine rx_meti (by decide) rfl (Nat.le_of_ble_eq_true rfl) ?_
  generalize hQ : (fun (v : bm_R) (s2 : rx_S) => ∃ x, v = .inl (some (.int x)) ∧ Q x s2) = Q2
  replace hq : Q2 (.inl (some (.int (r)))) sz := by rw [← hQ]; exact ⟨_, rfl, hq⟩
  clear hQ
  unfold D_M_goes at h
  refine rx_aload_n d_M_goes_0 rfl ?_
  refine rx_iload_n d_M_goes_1 rfl ?_
  refine oj_step (P := fun J1 : Int32 → Option (Int32 × rx_S) => ∀ (x2 : Int32) (d1 : Option Value) (d2 : Option Value), J1 x2 = some (r, sz) → rx G me_M_goes 18 [some (.ref rx_o), d1, d2] [.int (x2), .ref rx_o] s Q2) h ?_ ?_
  · intro x2 d1 d2 h
    refine rx_psf p_M_goes_18 (by decide) rfl rfl rfl ?_
    refine rx_aload_n d_M_goes_21 rfl ?_
    refine rx_gsf g_M_goes_22 (by decide) rfl ?_
    refine oj_step (P := fun J3 : Int32 → Option (Int32 × rx_S) => ∀ (x4 : Int32) (d0 : Option Value) (d1 : Option Value) (d2 : Option Value), J3 x4 = some (r, sz) → rx G me_M_goes 33 [d0, d1, d2] [.int (x4)] (rx_up s 0 0 x2) Q2) h ?_ ?_
    · intro x4 d0 d1 d2 h
      obtain ⟨hz, h⟩ := ozb_inv h
      exact rx_zret d_M_goes_33 rfl (ozb_nar hz) (ox_i hq h)
    clear h
    intro J3 hJ1 h
    refine rx_if_ne (tgt := 32) d_M_goes_25 (by decide) (fun hc25 => ?_) (fun hc25 => ?_)
    · rw [if_neg hc25] at h
      refine rx_iconst (v := nI 0) d_M_goes_32 (by decide) ?_
      exact hJ1 _ _ _ _ h
    · rw [if_pos hc25] at h
      refine rx_iconst (v := nI 1) d_M_goes_28 (by decide) ?_
      refine rx_goto (tgt := 33) d_M_goes_29 (by decide) ?_
      exact hJ1 _ _ _ _ h
  clear h
  intro J1 hJ2 h
  refine rx_if_ne (tgt := 9) d_M_goes_2 (by decide) (fun hc2 => ?_) (fun hc2 => ?_)
  · rw [if_neg hc2] at h
    refine rx_iload_n d_M_goes_9 rfl ?_
    refine rx_if_ne (tgt := 17) d_M_goes_10 (by decide) (fun hc10 => ?_) (fun hc10 => ?_)
    · rw [if_neg hc10] at h
      refine rx_iconst (v := nI 0) d_M_goes_17 (by decide) ?_
      exact hJ2 _ _ _ h
    · rw [if_pos hc10] at h
      refine rx_iconst (v := nI 2) d_M_goes_13 (by decide) ?_
      refine rx_goto (tgt := 18) d_M_goes_14 (by decide) ?_
      exact hJ2 _ _ _ h
  · rw [if_pos hc2] at h
    refine rx_iconst (v := nI 1) d_M_goes_5 (by decide) ?_
    refine rx_goto (tgt := 18) d_M_goes_6 (by decide) ?_
    exact hJ2 _ _ _ h
theorem E_M_hasClass {G : bm_G} {f : Nat} {l1 : Int32} {l2 : Int32} {s sz : rx_S} {r : Int32} {Q : Int32 → rx_S → Prop} (h : D_M_hasClass f l1 l2 s = some (r, sz)) (hq : Q r sz) : rx_Ti G me_M_hasClass [.ref rx_o, .int (l1), .int (l2)] s Q := by
  refine rx_meti (by decide) rfl (Nat.le_of_ble_eq_true rfl) ?_
  generalize hQ : (fun (v : bm_R) (s2 : rx_S) => ∃ x, v = .inl (some (.int x)) ∧ Q x s2) = Q2
  replace hq : Q2 (.inl (some (.int (r)))) sz := by rw [← hQ]; exact ⟨_, rfl, hq⟩
  clear hQ
  unfold D_M_hasClass at h
  refine rx_iload_n d_M_hasClass_0 rfl ?_
  refine rx_iconst (v := nI 0) d_M_hasClass_1 (by decide) ?_
  refine rx_iconst (v := nI 2) d_M_hasClass_2 (by decide) ?_
  obtain ⟨x1, s2, ex1, h⟩ := ob_inv h
  refine rx_callS3 c_M_hasClass_3 (Nat.le_of_ble_eq_true rfl) (E_M_in ex1 ?_)
  refine oj_step (P := fun J3 : Int32 → Option (Int32 × rx_S) => ∀ (x4 : Int32) (d0 : Option Value) (d1 : Option Value) (d2 : Option Value), J3 x4 = some (r, sz) → rx G me_M_hasClass 28 [d0, d1, d2] [.int (x4)] s2 Q2) h ?_ ?_
  · intro x4 d0 d1 d2 h
    obtain ⟨hz, h⟩ := ozb_inv h
    exact rx_zret d_M_hasClass_28 rfl (ozb_nar hz) (ox_i hq h)
  clear h
  intro J3 hJ1 h
  refine oj_step (P := fun J5 : Unit → Option (Int32 × rx_S) => ∀ (_u : Unit) (d0 : Option Value) (d1 : Option Value) (d2 : Option Value), J5 () = some (r, sz) → rx G me_M_hasClass 27 [d0, d1, d2] [] s2 Q2) h ?_ ?_
  · intro _u d0 d1 d2 h
    refine rx_iconst (v := nI 0) d_M_hasClass_27 (by decide) ?_
    exact hJ1 _ _ _ _ h
  clear h
  intro J5 hJ2 h
  refine rx_if_eq (tgt := 27) d_M_hasClass_6 (by decide) (fun hc6 => ?_) (fun hc6 => ?_)
  · rw [if_pos hc6] at h
    exact hJ2 () _ _ _ h
  · rw [if_neg hc6] at h
    refine rx_aload_n d_M_hasClass_9 rfl ?_
    refine rx_gaf g_M_hasClass_10 (by decide) ?_
    refine rx_iconst (v := nI 3) d_M_hasClass_13 (by decide) ?_
    refine rx_iload_n d_M_hasClass_14 rfl ?_
    refine rx_imul d_M_hasClass_15 ?_
    refine rx_iload_n d_M_hasClass_16 rfl ?_
    refine rx_iadd d_M_hasClass_17 ?_
    obtain ⟨j6, hj6, ej6, h⟩ := og_inv (by decide) h
    refine rx_iald d_M_hasClass_18 rfl ej6 hj6 ?_
    refine rx_iconst (v := nI 3) d_M_hasClass_19 (by decide) ?_
    refine rx_icmp_ge (tgt := 27) d_M_hasClass_20 (by decide) (fun hc20 => ?_) (fun hc20 => ?_)
    · rw [if_pos hc20] at h
      exact hJ2 () _ _ _ h
    · rw [if_neg hc20] at h
      refine rx_iconst (v := nI 1) d_M_hasClass_23 (by decide) ?_
      refine rx_goto (tgt := 28) d_M_hasClass_24 (by decide) ?_
      exact hJ1 _ _ _ _ h
theorem E_M_hasOther {G : bm_G} {f : Nat} {l1 : Int32} {s sz : rx_S} {r : Int32} {Q : Int32 → rx_S → Prop} (h : D_M_hasOther f l1 s = some (r, sz)) (hq : Q r sz) : rx_Ti G me_M_hasOther [.ref rx_o, .int (l1)] s Q := by
  refine rx_meti (by decide) rfl (Nat.le_of_ble_eq_true rfl) ?_
  generalize hQ : (fun (v : bm_R) (s2 : rx_S) => ∃ x, v = .inl (some (.int x)) ∧ Q x s2) = Q2
  replace hq : Q2 (.inl (some (.int (r)))) sz := by rw [← hQ]; exact ⟨_, rfl, hq⟩
  clear hQ
  unfold D_M_hasOther at h
  refine rx_iload_n d_M_hasOther_0 rfl ?_
  refine rx_iconst (v := nI 5) d_M_hasOther_1 (by decide) ?_
  refine oj_step (P := fun J1 : Int32 → Option (Int32 × rx_S) => ∀ (x2 : Int32) (d0 : Option Value) (d1 : Option Value), J1 x2 = some (r, sz) → rx G me_M_hasOther 22 [d0, d1] [.int (x2)] s Q2) h ?_ ?_
  · intro x2 d0 d1 h
    obtain ⟨hz, h⟩ := ozb_inv h
    exact rx_zret d_M_hasOther_22 rfl (ozb_nar hz) (ox_i hq h)
  clear h
  intro J1 hJ1 h
  refine oj_step (P := fun J3 : Unit → Option (Int32 × rx_S) => ∀ (_u : Unit) (d0 : Option Value) (d1 : Option Value), J3 () = some (r, sz) → rx G me_M_hasOther 17 [d0, d1] [] s Q2) h ?_ ?_
  · intro _u d0 d1 h
    refine rx_iconst (v := nI 1) d_M_hasOther_17 (by decide) ?_
    refine rx_goto (tgt := 22) d_M_hasOther_18 (by decide) ?_
    exact hJ1 _ _ _ h
  clear h
  intro J3 hJ2 h
  refine rx_icmp_eq (tgt := 17) d_M_hasOther_2 (by decide) (fun hc2 => ?_) (fun hc2 => ?_)
  · rw [if_pos hc2] at h
    exact hJ2 () _ _ h
  · rw [if_neg hc2] at h
    refine rx_iload_n d_M_hasOther_5 rfl ?_
    refine rx_bipush (v := nI 7) d_M_hasOther_6 (by decide) ?_
    refine rx_icmp_eq (tgt := 17) d_M_hasOther_8 (by decide) (fun hc8 => ?_) (fun hc8 => ?_)
    · rw [if_pos hc8] at h
      exact hJ2 () _ _ h
    · rw [if_neg hc8] at h
      refine rx_iload_n d_M_hasOther_11 rfl ?_
      refine rx_bipush (v := nI 8) d_M_hasOther_12 (by decide) ?_
      refine rx_icmp_ne (tgt := 21) d_M_hasOther_14 (by decide) (fun hc14 => ?_) (fun hc14 => ?_)
      · rw [if_neg hc14] at h
        refine rx_iconst (v := nI 0) d_M_hasOther_21 (by decide) ?_
        exact hJ1 _ _ _ h
      · rw [if_pos hc14] at h
        exact hJ2 () _ _ h
