theorem E_F_moveOn {G : bm_G} {f : Nat} {l0 : Nat} {l1 : Option Nat} {l2 : Option Nat} {l3 : Option Nat} {s sz : cx_S} {r : Int32} {Q : cx_S → Prop} (h : D_F_moveOn f l0 l1 l2 l3 s = some (r, sz)) (hq : Q sz) : cx_Tv G me_F_moveOn [va_rf (some l0), va_rf (l1), va_rf (l2), va_rf (l3)] s Q := by
  refine cx_metv (by decide) (List.forall_mem_cons.mpr ⟨cx_cat, (List.forall_mem_cons.mpr ⟨cx_cat, (List.forall_mem_cons.mpr ⟨cx_cat, (List.forall_mem_cons.mpr ⟨cx_cat, (fun _ q => nomatch q)⟩)⟩)⟩)⟩) (Nat.le_of_ble_eq_true rfl) ?_
  generalize hQ : (fun (v : bm_R) (s2 : cx_S) => v = .inl none ∧ Q s2) = Q2
  replace hq : Q2 (.inl none) sz := by rw [← hQ]; exact ⟨rfl, hq⟩
  clear hQ
  unfold D_F_moveOn at h
  refine cx_aload_n d_F_moveOn_0 rfl ?_
  refine cx_aload_n d_F_moveOn_1 rfl ?_
  refine cx_aload_n d_F_moveOn_2 rfl ?_
  obtain ⟨p1, ep1, hp1, h⟩ := oc_inv h
  refine cx_geti 129 rfl g_F_moveOn_3 rfl (by decide) ep1 hp1 ?_
  obtain ⟨p2, ep2, hp2, h⟩ := oc_inv h
  obtain ⟨x3, s4, ex3, h⟩ := ob_inv h
  refine cx_callV2r c_F_moveOn_6 (cx_hst (fun _ q => nomatch q) (Nat.le_of_ble_eq_true rfl)) (by decide) ep2 hp2 (E_F_unitFor ex3 ?_)
  refine cx_astore d_F_moveOn_9 (by decide) ?_
  refine cx_bipush (v := nI 10) d_F_moveOn_11 (by decide) ?_
  refine cx_aload_n d_F_moveOn_13 rfl ?_
  obtain ⟨p5, ep5, hp5, h⟩ := oc_inv h
  refine cx_geti 146 rfl g_F_moveOn_14 rfl (by decide) ep5 hp5 ?_
  refine cx_min d_F_moveOn_17 ml_F_229 (by decide) (by decide) (cx_hst (fun _ q => nomatch q) (Nat.le_of_ble_eq_true rfl)) ?_
  refine cx_istore d_F_moveOn_20 (by decide) ?_
  refine cx_aload d_F_moveOn_22 rfl ?_
  obtain ⟨p6, ep6, hp6, h⟩ := oc_inv h
  obtain ⟨x7, s8, ex7, h⟩ := ob_inv h
  refine cx_callV0 c_F_moveOn_24 (cx_hst (fun _ q => nomatch q) (Nat.le_of_ble_eq_true rfl)) (by decide) ep6 hp6 (E_U_total ex7 ?_)
  refine cx_istore d_F_moveOn_27 (by decide) ?_
  refine cx_iload d_F_moveOn_29 rfl ?_
  refine cx_iload d_F_moveOn_31 rfl ?_
  refine oj_step (P := fun J9 : Int32 → cx_S → Option (Int32 × cx_S) => ∀ (v10 : Int32) (s11 : cx_S) (d6 : Option Value), J9 v10 s11 = some (r, sz) → cx G me_F_moveOn 46 [some (va_rf (some l0)), some (va_rf (l1)), some (va_rf (l2)), some (va_rf (l3)), some (va_rf (x3)), some (.int (v10)), d6] [] s11 Q2) h ?_ ?_
  · intro v10 s11 d6 h
    refine cx_aload_n d_F_moveOn_46 rfl ?_
    obtain ⟨p12, ep12, hp12, h⟩ := oc_inv h
    refine cx_getr 34 rfl g_F_moveOn_47 rfl (by decide) ep12 hp12 ?_
    refine cx_aload d_F_moveOn_50 rfl ?_
    refine cx_aload_n d_F_moveOn_52 rfl ?_
    refine cx_aload_n d_F_moveOn_53 rfl ?_
    refine cx_aload_n d_F_moveOn_54 rfl ?_
    obtain ⟨p13, ep13, hp13, h⟩ := oc_inv h
    refine cx_geti 130 rfl g_F_moveOn_55 rfl (by decide) ep13 hp13 ?_
    obtain ⟨x14, s15, ex14, h⟩ := ob_inv h
    refine cx_callV2r c_F_moveOn_58 (cx_hst (List.forall_mem_cons.mpr ⟨cx_cat, (List.forall_mem_cons.mpr ⟨cx_cat, (fun _ q => nomatch q)⟩)⟩) (Nat.le_of_ble_eq_true rfl)) (by decide) ep12 hp12 (E_F_unitFor ex14 ?_)
    refine cx_iload d_F_moveOn_61 rfl ?_
    obtain ⟨p16, ep16, hp16, h⟩ := oc_inv h
    obtain ⟨x17, s18, ex17, h⟩ := ob_inv h
    refine cx_callV3v c_F_moveOn_63 (cx_hst (fun _ q => nomatch q) (Nat.le_of_ble_eq_true rfl)) (by decide) ep16 hp16 (E_V_transfer ex17 ?_)
    refine cx_aload_n d_F_moveOn_66 rfl ?_
    refine cx_dup d_F_moveOn_67 (by first | rfl | exact cx_cat) ?_
    obtain ⟨p19, ep19, hp19, h⟩ := oc_inv h
    refine cx_geti 146 rfl g_F_moveOn_68 rfl (by decide) ep19 hp19 ?_
    refine cx_iload d_F_moveOn_71 rfl ?_
    refine cx_isub d_F_moveOn_73 ?_
    refine cx_puti 146 rfl p_F_moveOn_74 rfl (by decide) rfl rfl ep19 hp19 ?_
    exact cx_vret d_F_moveOn_77 rfl (ox_v hq h)
  clear h
  intro J9 hJ1 h
  refine cx_icmp_ge (tgt := 46) d_F_moveOn_33 (by decide) (fun hc33 => ?_) (fun hc33 => ?_)
  · rw [if_pos hc33] at h
    exact hJ1 _ _ _ h
  · rw [if_neg hc33] at h
    refine cx_iload d_F_moveOn_36 rfl ?_
    refine cx_istore d_F_moveOn_38 (by decide) ?_
    refine cx_aload_n d_F_moveOn_40 rfl ?_
    refine cx_iload d_F_moveOn_41 rfl ?_
    obtain ⟨p20, ep20, hp20, h⟩ := oc_inv h
    refine cx_puti 146 rfl p_F_moveOn_43 rfl (by decide) rfl rfl ep20 hp20 ?_
    exact hJ1 _ _ _ h
theorem E_K_isFull {G : bm_G} {f : Nat} {l0 : Nat} {s sz : cx_S} {r : Int32} {Q : Int32 → cx_S → Prop} (h : D_K_isFull f l0 s = some (r, sz)) (hq : Q r sz) : cx_Ti G me_K_isFull [va_rf (some l0)] s Q := by
  refine cx_meti (by decide) (List.forall_mem_cons.mpr ⟨cx_cat, (fun _ q => nomatch q)⟩) (Nat.le_of_ble_eq_true rfl) ?_
  generalize hQ : (fun (v : bm_R) (s2 : cx_S) => ∃ x, v = .inl (some (.int x)) ∧ Q x s2) = Q2
  replace hq : Q2 (.inl (some (.int (r)))) sz := by rw [← hQ]; exact ⟨_, rfl, hq⟩
  clear hQ
  unfold D_K_isFull at h
  refine cx_aload_n d_K_isFull_0 rfl ?_
  obtain ⟨p1, ep1, hp1, h⟩ := oc_inv h
  refine cx_geti 64 rfl g_K_isFull_1 rfl (by decide) ep1 hp1 ?_
  refine cx_bipush (v := nI 100) d_K_isFull_4 (by decide) ?_
  refine oj_step (P := fun J2 : Int32 → Option (Int32 × cx_S) => ∀ (x3 : Int32) (d0 : Option Value), J2 x3 = some (r, sz) → cx G me_K_isFull 14 [d0] [.int (x3)] s Q2) h ?_ ?_
  · intro x3 d0 h
    obtain ⟨hz, h⟩ := ozb_inv h
    exact cx_zret d_K_isFull_14 rfl (ozb_nar hz) (ox_i hq h)
  clear h
  intro J2 hJ1 h
  refine cx_icmp_lt (tgt := 13) d_K_isFull_6 (by decide) (fun hc6 => ?_) (fun hc6 => ?_)
  · rw [if_pos hc6] at h
    refine cx_iconst (v := nI 0) d_K_isFull_13 (by decide) ?_
    exact hJ1 _ _ h
  · rw [if_neg hc6] at h
    refine cx_iconst (v := nI 1) d_K_isFull_9 (by decide) ?_
    refine cx_goto (tgt := 14) d_K_isFull_10 (by decide) ?_
    exact hJ1 _ _ h
theorem E_F_finish_12 {G : bm_G} {f : Nat} {l0 : Nat} {l1 : Option Nat} {r : Int32} {sz : cx_S} {Q : bm_R → cx_S → Prop} (hq : Q (.inl none) sz) : ∀ (n : Nat) (l3 : Int32) (d2 : Option Value) (s : cx_S), D_F_finish_12 f l0 l1 n l3 s = some (r, sz) → cx G me_F_finish 12 [some (va_rf (some l0)), some (va_rf (l1)), d2, some (.int (l3))] [] s Q := by
  intro n
  induction n with
  | zero =>
    intro l3 d2 s h
    rw [D_F_finish_12] at h
    exact absurd h (by simp)
  | succ n ih =>
    intro l3 d2 s h
    rw [D_F_finish_12] at h
    refine cx_iload_n d_F_finish_12 rfl ?_
    refine cx_iconst (v := nI 3) d_F_finish_13 (by decide) ?_
    refine cx_icmp_ge (tgt := 55) d_F_finish_14 (by decide) (fun hc14 => ?_) (fun hc14 => ?_)
    · rw [if_pos hc14] at h
      exact cx_vret d_F_finish_55 rfl (ox_v hq h)
    · rw [if_neg hc14] at h
      refine cx_aload_n d_F_finish_17 rfl ?_
      obtain ⟨p2, ep2, hp2, h⟩ := oc_inv h
      refine cx_getr 25 rfl g_F_finish_18 rfl (by decide) ep2 hp2 ?_
      refine cx_iload_n d_F_finish_21 rfl ?_
      obtain ⟨a3, na3, j4, ea3, ha3, hj4, gj4, ej4, h⟩ := oa_inv h
      refine cx_iald d_F_finish_22 ea3 ha3 hj4 gj4 ej4 ?_
      refine cx_iconst (v := (-1)) d_F_finish_23 (by decide) ?_
      refine oj_step (P := fun J5 : cx_S → Option (Int32 × cx_S) => ∀ (s6 : cx_S) (d2 : Option Value), J5 s6 = some (r, sz) → cx G me_F_finish 49 [some (va_rf (some l0)), some (va_rf (l1)), d2, some (.int (l3))] [] s6 Q) h ?_ ?_
      · intro s6 d2 h
        refine cx_iincP d_F_finish_49 (by decide) rfl ?_
        refine cx_goto (tgt := 12) d_F_finish_52 (by decide) ?_
        exact ih _ _ _ h
      clear h
      intro J5 hJ1 h
      refine cx_icmp_eq (tgt := 49) d_F_finish_24 (by decide) (fun hc24 => ?_) (fun hc24 => ?_)
      · rw [if_pos hc24] at h
        exact hJ1 _ _ h
      · rw [if_neg hc24] at h
        refine cx_aload_n d_F_finish_27 rfl ?_
        obtain ⟨p7, ep7, hp7, h⟩ := oc_inv h
        refine cx_getr 32 rfl g_F_finish_28 rfl (by decide) ep7 hp7 ?_
        refine cx_aload_n d_F_finish_31 rfl ?_
        refine cx_getr 25 rfl g_F_finish_32 rfl (by decide) ep2 hp2 ?_
        refine cx_iload_n d_F_finish_35 rfl ?_
        refine cx_iald d_F_finish_36 ea3 ha3 hj4 gj4 ej4 ?_
        obtain ⟨a8, na8, j9, ea8, ha8, hj9, gj9, ej9, h⟩ := oa_inv h
        refine cx_aald (t := 5) 405 rfl d_F_finish_37 (by decide) rfl ea8 ha8 hj9 gj9 ej9 ?_
        refine cx_iconst (v := (-1)) d_F_finish_38 (by decide) ?_
        obtain ⟨p10, ep10, hp10, h⟩ := oc_inv h
        refine cx_puti 161 rfl p_F_finish_39 rfl (by decide) rfl rfl ep10 hp10 ?_
        refine cx_aload_n d_F_finish_42 rfl ?_
        refine cx_getr 25 rfl g_F_finish_43 rfl (by decide) ep2 hp2 ?_
        refine cx_iload_n d_F_finish_46 rfl ?_
        refine cx_iconst (v := (-1)) d_F_finish_47 (by decide) ?_
        obtain ⟨a11, na11, j12, ea11, ha11, hj12, gj12, ej12, h⟩ := oa_inv h
        refine cx_iast d_F_finish_48 ea11 ha11 hj12 gj12 ej12 ?_
        exact hJ1 _ _ h
theorem E_F_finish {G : bm_G} {f : Nat} {l0 : Nat} {l1 : Option Nat} {l2 : Int32} {s sz : cx_S} {r : Int32} {Q : cx_S → Prop} (h : D_F_finish f l0 l1 l2 s = some (r, sz)) (hq : Q sz) : cx_Tv G me_F_finish [va_rf (some l0), va_rf (l1), .int (l2)] s Q := by
  refine cx_metv (by decide) (List.forall_mem_cons.mpr ⟨cx_cat, (List.forall_mem_cons.mpr ⟨cx_cat, (List.forall_mem_cons.mpr ⟨rfl, (fun _ q => nomatch q)⟩)⟩)⟩) (Nat.le_of_ble_eq_true rfl) ?_
  generalize hQ : (fun (v : bm_R) (s2 : cx_S) => v = .inl none ∧ Q s2) = Q2
  replace hq : Q2 (.inl none) sz := by rw [← hQ]; exact ⟨rfl, hq⟩
  clear hQ
  unfold D_F_finish at h
  refine cx_aload_n d_F_finish_0 rfl ?_
  refine cx_iload_n d_F_finish_1 rfl ?_
  obtain ⟨p1, ep1, hp1, h⟩ := oc_inv h
  refine cx_puti 20 rfl p_F_finish_2 rfl (by decide) rfl rfl ep1 hp1 ?_
  refine cx_aload_n d_F_finish_5 rfl ?_
  refine cx_iconst (v := nI 0) d_F_finish_6 (by decide) ?_
  refine cx_puti 21 rfl p_F_finish_7 rfl (by decide) rfl rfl ep1 hp1 ?_
  refine cx_iconst (v := nI 0) d_F_finish_10 (by decide) ?_
  refine cx_istore_n d_F_finish_11 (by decide) ?_
  refine E_F_finish_12 (r := r) (sz := sz) hq _ _ _ _ h
theorem E_L_init {G : bm_G} {f : Nat} {l0 : Nat} {l1 : Int32} {l2 : Int32} {s sz : cx_S} {r : Int32} {Q : cx_S → Prop} (h : D_L_init f l0 l1 l2 s = some (r, sz)) (hq : Q sz) : cx_Tv G me_L_init [va_rf (some l0), .int (l1), .int (l2)] s Q := by
  refine cx_metv (by decide) (List.forall_mem_cons.mpr ⟨cx_cat, (List.forall_mem_cons.mpr ⟨rfl, (List.forall_mem_cons.mpr ⟨rfl, (fun _ q => nomatch q)⟩)⟩)⟩) (Nat.le_of_ble_eq_true rfl) ?_
  generalize hQ : (fun (v : bm_R) (s2 : cx_S) => v = .inl none ∧ Q s2) = Q2
  replace hq : Q2 (.inl none) sz := by rw [← hQ]; exact ⟨rfl, hq⟩
  clear hQ
  unfold D_L_init at h
  refine cx_aload_n d_L_init_0 rfl ?_
  refine cx_objInit c_L_init_1 (cx_hst (fun _ q => nomatch q) (Nat.le_of_ble_eq_true rfl)) rfl ?_
  refine cx_aload_n d_L_init_4 rfl ?_
  refine cx_gets d_L_init_5 (by decide +kernel) ?_
  obtain ⟨p1, ep1, hp1, h⟩ := oc_inv h
  refine cx_putr 50 rfl p_L_init_8 rfl (by decide) cx_narA cx_fitsA ep1 hp1 ?_
  refine cx_aload_n d_L_init_11 rfl ?_
  refine cx_gets d_L_init_12 (by decide +kernel) ?_
  refine cx_putr 51 rfl p_L_init_15 rfl (by decide) cx_narA cx_fitsA ep1 hp1 ?_
  refine cx_aload_n d_L_init_18 rfl ?_
  refine cx_iload_n d_L_init_19 rfl ?_
  refine cx_puti 48 rfl p_L_init_20 rfl (by decide) rfl rfl ep1 hp1 ?_
  refine cx_aload_n d_L_init_23 rfl ?_
  refine cx_iload_n d_L_init_24 rfl ?_
  refine cx_puti 49 rfl p_L_init_25 rfl (by decide) rfl rfl ep1 hp1 ?_
  exact cx_vret d_L_init_28 rfl (ox_v hq h)
theorem E_K_open {G : bm_G} {f : Nat} {l0 : Nat} {l1 : Int32} {l2 : Int32} {s sz : cx_S} {r : Int32} {Q : Int32 → cx_S → Prop} (h : D_K_open f l0 l1 l2 s = some (r, sz)) (hq : Q r sz) : cx_Ti G me_K_open [va_rf (some l0), .int (l1), .int (l2)] s Q := by
  refine cx_meti (by decide) (List.forall_mem_cons.mpr ⟨cx_cat, (List.forall_mem_cons.mpr ⟨rfl, (List.forall_mem_cons.mpr ⟨rfl, (fun _ q => nomatch q)⟩)⟩)⟩) (Nat.le_of_ble_eq_true rfl) ?_
  generalize hQ : (fun (v : bm_R) (s2 : cx_S) => ∃ x, v = .inl (some (.int x)) ∧ Q x s2) = Q2
  replace hq : Q2 (.inl (some (.int (r)))) sz := by rw [← hQ]; exact ⟨_, rfl, hq⟩
  clear hQ
  unfold D_K_open at h
  refine cx_aload_n d_K_open_0 rfl ?_
  obtain ⟨p1, ep1, hp1, h⟩ := oc_inv h
  refine cx_geti 64 rfl g_K_open_1 rfl (by decide) ep1 hp1 ?_
  refine cx_istore_n d_K_open_4 (by decide) ?_
  refine cx_aload_n d_K_open_5 rfl ?_
  refine cx_getr 65 rfl g_K_open_6 rfl (by decide) ep1 hp1 ?_
  refine cx_iload_n d_K_open_9 rfl ?_
  obtain ⟨hn10, h⟩ := on_inv h
  refine cx_new (z := 5) n_K_open_10 (by decide) hn10.2 hn10.1 rfl (by decide) ?_
  refine cx_dup d_K_open_13 (by first | rfl | exact cx_cat) ?_
  refine cx_iload_n d_K_open_14 rfl ?_
  refine cx_iload_n d_K_open_15 rfl ?_
  obtain ⟨x2, s3, ex2, h⟩ := ob_inv h
  refine cx_callI2v c_K_open_16 (cx_hst (List.forall_mem_cons.mpr ⟨cx_cat, (List.forall_mem_cons.mpr ⟨rfl, (List.forall_mem_cons.mpr ⟨cx_cat, (fun _ q => nomatch q)⟩)⟩)⟩) (Nat.le_of_ble_eq_true rfl)) rfl (E_L_init ex2 ?_)
  obtain ⟨p4, ep4, hp4, h⟩ := oc_inv h
  obtain ⟨a5, na5, j6, ea5, ha5, hj6, gj6, ej6, h⟩ := oa_inv h
  refine cx_aast (t := 6) (ci := 3) 406 rfl d_K_open_19 (by decide) rfl rfl (by decide) ep4 hp4 ea5 ha5 hj6 gj6 ej6 ?_
  refine cx_aload_n d_K_open_20 rfl ?_
  refine cx_dup d_K_open_21 (by first | rfl | exact cx_cat) ?_
  obtain ⟨p7, ep7, hp7, h⟩ := oc_inv h
  refine cx_geti 64 rfl g_K_open_22 rfl (by decide) ep7 hp7 ?_
  refine cx_iconst (v := nI 1) d_K_open_25 (by decide) ?_
  refine cx_iadd d_K_open_26 ?_
  refine cx_puti 64 rfl p_K_open_27 rfl (by decide) rfl rfl ep7 hp7 ?_
  refine cx_iload_n d_K_open_30 rfl ?_
  exact cx_iret d_K_open_31 rfl (ox_i hq h)
theorem E_K_putInto_42 {G : bm_G} {f : Nat} {l0 : Nat} {l2 : Option Nat} {r : Int32} {sz : cx_S} {Q : bm_R → cx_S → Prop} (hq : Q (.inl none) sz) : ∀ (n : Nat) (l3 : Int32) (d1 : Option Value) (s : cx_S), D_K_putInto_42 f l0 l2 n l3 s = some (r, sz) → cx G me_K_putInto 42 [some (va_rf (some l0)), d1, some (va_rf (l2)), some (.int (l3))] [] s Q := by
  intro n
  induction n with
  | zero =>
    intro l3 d1 s h
    rw [D_K_putInto_42] at h
    exact absurd h (by simp)
  | succ n ih =>
    intro l3 d1 s h
    rw [D_K_putInto_42] at h
    refine cx_iload_n d_K_putInto_42 rfl ?_
    refine cx_aload_n d_K_putInto_43 rfl ?_
    obtain ⟨p15, ep15, hp15, h⟩ := oc_inv h
    refine cx_geti 162 rfl g_K_putInto_44 rfl (by decide) ep15 hp15 ?_
    refine cx_icmp_ge (tgt := 76) d_K_putInto_47 (by decide) (fun hc47 => ?_) (fun hc47 => ?_)
    · rw [if_pos hc47] at h
      exact cx_vret d_K_putInto_76 rfl (ox_v hq h)
    · rw [if_neg hc47] at h
      refine cx_aload_n d_K_putInto_50 rfl ?_
      obtain ⟨p16, ep16, hp16, h⟩ := oc_inv h
      refine cx_getr 65 rfl g_K_putInto_51 rfl (by decide) ep16 hp16 ?_
      refine cx_aload_n d_K_putInto_54 rfl ?_
      refine cx_getr 163 rfl g_K_putInto_55 rfl (by decide) ep15 hp15 ?_
      refine cx_iload_n d_K_putInto_58 rfl ?_
      obtain ⟨a17, na17, j18, ea17, ha17, hj18, gj18, ej18, h⟩ := oa_inv h
      refine cx_iald d_K_putInto_59 ea17 ha17 hj18 gj18 ej18 ?_
      obtain ⟨a19, na19, j20, ea19, ha19, hj20, gj20, ej20, h⟩ := oa_inv h
      refine cx_aald (t := 6) 406 rfl d_K_putInto_60 (by decide) rfl ea19 ha19 hj20 gj20 ej20 ?_
      refine cx_dup d_K_putInto_61 (by first | rfl | exact cx_cat) ?_
      obtain ⟨p21, ep21, hp21, h⟩ := oc_inv h
      refine cx_geti 52 rfl g_K_putInto_62 rfl (by decide) ep21 hp21 ?_
      refine cx_iconst (v := nI 1) d_K_putInto_65 (by decide) ?_
      refine cx_iadd d_K_putInto_66 ?_
      refine cx_puti 52 rfl p_K_putInto_67 rfl (by decide) rfl rfl ep21 hp21 ?_
      refine cx_iincP d_K_putInto_70 (by decide) rfl ?_
      refine cx_goto (tgt := 42) d_K_putInto_73 (by decide) ?_
      exact ih _ _ _ h
theorem E_K_putInto {G : bm_G} {f : Nat} {l0 : Nat} {l1 : Int32} {l2 : Option Nat} {s sz : cx_S} {r : Int32} {Q : cx_S → Prop} (h : D_K_putInto f l0 l1 l2 s = some (r, sz)) (hq : Q sz) : cx_Tv G me_K_putInto [va_rf (some l0), .int (l1), va_rf (l2)] s Q := by
  refine cx_metv (by decide) (List.forall_mem_cons.mpr ⟨cx_cat, (List.forall_mem_cons.mpr ⟨rfl, (List.forall_mem_cons.mpr ⟨cx_cat, (fun _ q => nomatch q)⟩)⟩)⟩) (Nat.le_of_ble_eq_true rfl) ?_
  generalize hQ : (fun (v : bm_R) (s2 : cx_S) => v = .inl none ∧ Q s2) = Q2
  replace hq : Q2 (.inl none) sz := by rw [← hQ]; exact ⟨rfl, hq⟩
  clear hQ
  unfold D_K_putInto at h
  refine cx_aload_n d_K_putInto_0 rfl ?_
  obtain ⟨p1, ep1, hp1, h⟩ := oc_inv h
  refine cx_getr 65 rfl g_K_putInto_1 rfl (by decide) ep1 hp1 ?_
  refine cx_iload_n d_K_putInto_4 rfl ?_
  obtain ⟨a2, na2, j3, ea2, ha2, hj3, gj3, ej3, h⟩ := oa_inv h
  refine cx_aald (t := 6) 406 rfl d_K_putInto_5 (by decide) rfl ea2 ha2 hj3 gj3 ej3 ?_
  refine cx_aload_n d_K_putInto_6 rfl ?_
  obtain ⟨p4, ep4, hp4, h⟩ := oc_inv h
  refine cx_getr 163 rfl g_K_putInto_7 rfl (by decide) ep4 hp4 ?_
  refine cx_aload_n d_K_putInto_10 rfl ?_
  refine cx_geti 162 rfl g_K_putInto_11 rfl (by decide) ep4 hp4 ?_
  obtain ⟨x5, s6, ex5, h⟩ := ob_inv h
  refine cx_callS2r c_K_putInto_14 (cx_hst (List.forall_mem_cons.mpr ⟨cx_cat, (fun _ q => nomatch q)⟩) (Nat.le_of_ble_eq_true rfl)) (E_A_copyOf ex5 ?_)
  obtain ⟨p7, ep7, hp7, h⟩ := oc_inv h
  refine cx_putr 50 rfl p_K_putInto_17 rfl (by decide) cx_narA cx_fitsA ep7 hp7 ?_
  refine cx_aload_n d_K_putInto_20 rfl ?_
  obtain ⟨p8, ep8, hp8, h⟩ := oc_inv h
  refine cx_getr 65 rfl g_K_putInto_21 rfl (by decide) ep8 hp8 ?_
  refine cx_iload_n d_K_putInto_24 rfl ?_
  obtain ⟨a9, na9, j10, ea9, ha9, hj10, gj10, ej10, h⟩ := oa_inv h
  refine cx_aald (t := 6) 406 rfl d_K_putInto_25 (by decide) rfl ea9 ha9 hj10 gj10 ej10 ?_
  refine cx_aload_n d_K_putInto_26 rfl ?_
  obtain ⟨p11, ep11, hp11, h⟩ := oc_inv h
  refine cx_getr 164 rfl g_K_putInto_27 rfl (by decide) ep11 hp11 ?_
  refine cx_aload_n d_K_putInto_30 rfl ?_
  refine cx_geti 162 rfl g_K_putInto_31 rfl (by decide) ep11 hp11 ?_
  obtain ⟨x12, s13, ex12, h⟩ := ob_inv h
  refine cx_callS2r c_K_putInto_34 (cx_hst (List.forall_mem_cons.mpr ⟨cx_cat, (fun _ q => nomatch q)⟩) (Nat.le_of_ble_eq_true rfl)) (E_A_copyOf ex12 ?_)
  obtain ⟨p14, ep14, hp14, h⟩ := oc_inv h
  refine cx_putr 51 rfl p_K_putInto_37 rfl (by decide) cx_narA cx_fitsA ep14 hp14 ?_
  refine cx_iconst (v := nI 0) d_K_putInto_40 (by decide) ?_
  refine cx_istore_n d_K_putInto_41 (by decide) ?_
  refine E_K_putInto_42 (r := r) (sz := sz) hq _ _ _ _ h
theorem E_F_react {G : bm_G} {f : Nat} {l0 : Nat} {l1 : Option Nat} {l2 : Int32} {l3 : Option Nat} {s sz : cx_S} {r : Int32} {Q : cx_S → Prop} (h : D_F_react f l0 l1 l2 l3 s = some (r, sz)) (hq : Q sz) : cx_Tv G me_F_react [va_rf (some l0), va_rf (l1), .int (l2), va_rf (l3)] s Q := by
  refine cx_metv (by decide) (List.forall_mem_cons.mpr ⟨cx_cat, (List.forall_mem_cons.mpr ⟨cx_cat, (List.forall_mem_cons.mpr ⟨rfl, (List.forall_mem_cons.mpr ⟨cx_cat, (fun _ q => nomatch q)⟩)⟩)⟩)⟩) (Nat.le_of_ble_eq_true rfl) ?_
  generalize hQ : (fun (v : bm_R) (s2 : cx_S) => v = .inl none ∧ Q s2) = Q2
  replace hq : Q2 (.inl none) sz := by rw [← hQ]; exact ⟨rfl, hq⟩
  clear hQ
  unfold D_F_react at h
  refine cx_aload_n d_F_react_0 rfl ?_
  obtain ⟨p1, ep1, hp1, h⟩ := oc_inv h
  refine cx_geti 162 rfl g_F_react_1 rfl (by decide) ep1 hp1 ?_
  refine cx_if_ne (tgt := 8) d_F_react_4 (by decide) (fun hc4 => ?_) (fun hc4 => ?_)
  · rw [if_neg hc4] at h
    refine cx_aload_n d_F_react_8 rfl ?_
    obtain ⟨p2, ep2, hp2, h⟩ := oc_inv h
    refine cx_getr 33 rfl g_F_react_9 rfl (by decide) ep2 hp2 ?_
    obtain ⟨p3, ep3, hp3, h⟩ := oc_inv h
    obtain ⟨x4, s5, ex4, h⟩ := ob_inv h
    refine cx_callV0 c_F_react_12 (cx_hst (fun _ q => nomatch q) (Nat.le_of_ble_eq_true rfl)) (by decide) ep3 hp3 (E_K_isFull ex4 ?_)
    refine cx_if_eq (tgt := 26) d_F_react_15 (by decide) (fun hc15 => ?_) (fun hc15 => ?_)
    · rw [if_pos hc15] at h
      refine cx_aload_n d_F_react_26 rfl ?_
      obtain ⟨p6, ep6, hp6, h⟩ := oc_inv h
      refine cx_getr 33 rfl g_F_react_27 rfl (by decide) ep6 hp6 ?_
      refine cx_aload_n d_F_react_30 rfl ?_
      obtain ⟨p7, ep7, hp7, h⟩ := oc_inv h
      refine cx_geti 16 rfl g_F_react_31 rfl (by decide) ep7 hp7 ?_
      refine cx_iload_n d_F_react_34 rfl ?_
      obtain ⟨p8, ep8, hp8, h⟩ := oc_inv h
      obtain ⟨x9, s10, ex9, h⟩ := ob_inv h
      refine cx_callV2 c_F_react_35 (cx_hst (fun _ q => nomatch q) (Nat.le_of_ble_eq_true rfl)) (by decide) ep8 hp8 (E_K_open ex9 ?_)
      refine cx_istore d_F_react_38 (by decide) ?_
      refine cx_aload_n d_F_react_40 rfl ?_
      obtain ⟨p11, ep11, hp11, h⟩ := oc_inv h
      refine cx_getr 33 rfl g_F_react_41 rfl (by decide) ep11 hp11 ?_
      refine cx_iload d_F_react_44 rfl ?_
      refine cx_aload_n d_F_react_46 rfl ?_
      obtain ⟨p12, ep12, hp12, h⟩ := oc_inv h
      obtain ⟨x13, s14, ex13, h⟩ := ob_inv h
      refine cx_callV2v c_F_react_47 (cx_hst (fun _ q => nomatch q) (Nat.le_of_ble_eq_true rfl)) (by decide) ep12 hp12 (E_K_putInto ex13 ?_)
      refine cx_aload_n d_F_react_50 rfl ?_
      obtain ⟨p15, ep15, hp15, h⟩ := oc_inv h
      obtain ⟨x16, s17, ex16, h⟩ := ob_inv h
      refine cx_callV0 c_F_react_51 (cx_hst (fun _ q => nomatch q) (Nat.le_of_ble_eq_true rfl)) (by decide) ep15 hp15 (E_U_total ex16 ?_)
      refine cx_istore d_F_react_54 (by decide) ?_
      refine cx_aload_n d_F_react_56 rfl ?_
      refine cx_iconst (v := nI 0) d_F_react_57 (by decide) ?_
      obtain ⟨p18, ep18, hp18, h⟩ := oc_inv h
      refine cx_puti 162 rfl p_F_react_58 rfl (by decide) rfl rfl ep18 hp18 ?_
      refine cx_aload_n d_F_react_61 rfl ?_
      refine cx_iload d_F_react_62 rfl ?_
      refine cx_iload d_F_react_64 rfl ?_
      obtain ⟨x19, s20, ex19, h⟩ := ob_inv h
      refine cx_callV2v c_F_react_66 (cx_hst (fun _ q => nomatch q) (Nat.le_of_ble_eq_true rfl)) (by decide) ep18 hp18 (E_U_add ex19 ?_)
      exact cx_vret d_F_react_69 rfl (ox_v hq h)
    · rw [if_neg hc15] at h
      refine cx_aload_n d_F_react_18 rfl ?_
      refine cx_aload_n d_F_react_19 rfl ?_
      refine cx_bipush (v := nI 6) d_F_react_20 (by decide) ?_
      obtain ⟨p21, ep21, hp21, h⟩ := oc_inv h
      obtain ⟨x22, s23, ex22, h⟩ := ob_inv h
      refine cx_callV2v c_F_react_22 (cx_hst (fun _ q => nomatch q) (Nat.le_of_ble_eq_true rfl)) (by decide) ep21 hp21 (E_F_finish ex22 ?_)
      exact cx_vret d_F_react_25 rfl (ox_v hq h)
  · rw [if_pos hc4] at h
    exact cx_vret d_F_react_7 rfl (ox_v hq h)
theorem E_F_goOn {G : bm_G} {f : Nat} {l0 : Nat} {l1 : Option Nat} {l2 : Option Nat} {s sz : cx_S} {r : Int32} {Q : cx_S → Prop} (h : D_F_goOn f l0 l1 l2 s = some (r, sz)) (hq : Q sz) : cx_Tv G me_F_goOn [va_rf (some l0), va_rf (l1), va_rf (l2)] s Q := by
  refine cx_metv (by decide) (List.forall_mem_cons.mpr ⟨cx_cat, (List.forall_mem_cons.mpr ⟨cx_cat, (List.forall_mem_cons.mpr ⟨cx_cat, (fun _ q => nomatch q)⟩)⟩)⟩) (Nat.le_of_ble_eq_true rfl) ?_
  generalize hQ : (fun (v : bm_R) (s2 : cx_S) => v = .inl none ∧ Q s2) = Q2
  replace hq : Q2 (.inl none) sz := by rw [← hQ]; exact ⟨rfl, hq⟩
  clear hQ
  unfold D_F_goOn at h
  refine cx_aload_n d_F_goOn_0 rfl ?_
  obtain ⟨p1, ep1, hp1, h⟩ := oc_inv h
  refine cx_getr 18 rfl g_F_goOn_1 rfl (by decide) ep1 hp1 ?_
  obtain ⟨p2, ep2, hp2, h⟩ := oc_inv h
  refine cx_getr 99 rfl g_F_goOn_4 rfl (by decide) ep2 hp2 ?_
  refine cx_aload_n d_F_goOn_7 rfl ?_
  obtain ⟨p3, ep3, hp3, h⟩ := oc_inv h
  refine cx_geti 144 rfl g_F_goOn_8 rfl (by decide) ep3 hp3 ?_
  obtain ⟨a4, na4, j5, ea4, ha4, hj5, gj5, ej5, h⟩ := oa_inv h
  refine cx_aald (t := 7) 407 rfl d_F_goOn_11 (by decide) rfl ea4 ha4 hj5 gj5 ej5 ?_
  refine cx_astore_n d_F_goOn_12 (by decide) ?_
  refine cx_aload_n d_F_goOn_13 rfl ?_
  obtain ⟨p6, ep6, hp6, h⟩ := oc_inv h
  refine cx_geti 128 rfl g_F_goOn_14 rfl (by decide) ep6 hp6 ?_
  refine oj_step (P := fun J7 : cx_S → Option (Int32 × cx_S) => ∀ (s8 : cx_S), J7 s8 = some (r, sz) → cx G me_F_goOn 81 [some (va_rf (some l0)), some (va_rf (l1)), some (va_rf (l2)), some (va_rf (cR s 407 a4 j5))] [] s8 Q2) h ?_ ?_
  · intro s8 h
    refine cx_aload_n d_F_goOn_81 rfl ?_
    obtain ⟨p9, ep9, hp9, h⟩ := oc_inv h
    refine cx_geti 146 rfl g_F_goOn_82 rfl (by decide) ep9 hp9 ?_
    refine cx_if_le (tgt := 89) d_F_goOn_85 (by decide) (fun hc85 => ?_) (fun hc85 => ?_)
    · rw [if_pos hc85] at h
      refine cx_aload_n d_F_goOn_89 rfl ?_
      obtain ⟨p10, ep10, hp10, h⟩ := oc_inv h
      refine cx_geti 128 rfl g_F_goOn_90 rfl (by decide) ep10 hp10 ?_
      refine cx_iconst (v := nI 3) d_F_goOn_93 (by decide) ?_
      refine oj_step (P := fun J11 : cx_S → Option (Int32 × cx_S) => ∀ (s12 : cx_S) (d0 : Option Value) (d1 : Option Value), J11 s12 = some (r, sz) → cx G me_F_goOn 115 [d0, d1, some (va_rf (l2)), some (va_rf (cR s 407 a4 j5))] [] s12 Q2) h ?_ ?_
      · intro s12 d0 d1 h
        refine cx_aload_n d_F_goOn_115 rfl ?_
        refine cx_iconst (v := nI 0) d_F_goOn_116 (by decide) ?_
        obtain ⟨p13, ep13, hp13, h⟩ := oc_inv h
        refine cx_puti 145 rfl p_F_goOn_117 rfl (by decide) rfl rfl ep13 hp13 ?_
        refine cx_aload_n d_F_goOn_120 rfl ?_
        refine cx_aload_n d_F_goOn_121 rfl ?_
        obtain ⟨p14, ep14, hp14, h⟩ := oc_inv h
        refine cx_geti 132 rfl g_F_goOn_122 rfl (by decide) ep14 hp14 ?_
        refine cx_puti 144 rfl p_F_goOn_125 rfl (by decide) rfl rfl ep13 hp13 ?_
        exact cx_vret d_F_goOn_128 rfl (ox_v hq h)
      clear h
      intro J11 hJ1 h
      refine cx_icmp_ne (tgt := 115) d_F_goOn_94 (by decide) (fun hc94 => ?_) (fun hc94 => ?_)
      · rw [if_neg hc94] at h
        exact hJ1 _ _ _ h
      · rw [if_pos hc94] at h
        refine cx_aload_n d_F_goOn_97 rfl ?_
        refine cx_aload_n d_F_goOn_98 rfl ?_
        refine cx_aload_n d_F_goOn_99 rfl ?_
        refine cx_geti 144 rfl g_F_goOn_100 rfl (by decide) ep9 hp9 ?_
        refine cx_aload_n d_F_goOn_103 rfl ?_
        refine cx_aload_n d_F_goOn_104 rfl ?_
        refine cx_aload_n d_F_goOn_105 rfl ?_
        refine cx_geti 129 rfl g_F_goOn_106 rfl (by decide) ep10 hp10 ?_
        obtain ⟨p15, ep15, hp15, h⟩ := oc_inv h
        obtain ⟨x16, s17, ex16, h⟩ := ob_inv h
        refine cx_callV2r c_F_goOn_109 (cx_hst (List.forall_mem_cons.mpr ⟨rfl, (List.forall_mem_cons.mpr ⟨cx_cat, (List.forall_mem_cons.mpr ⟨cx_cat, (fun _ q => nomatch q)⟩)⟩)⟩) (Nat.le_of_ble_eq_true rfl)) (by decide) ep15 hp15 (E_F_unitFor ex16 ?_)
        obtain ⟨p18, ep18, hp18, h⟩ := oc_inv h
        obtain ⟨x19, s20, ex19, h⟩ := ob_inv h
        refine cx_callV3v c_F_goOn_112 (cx_hst (fun _ q => nomatch q) (Nat.le_of_ble_eq_true rfl)) (by decide) ep18 hp18 (E_F_react ex19 ?_)
        exact hJ1 _ _ _ h
    · rw [if_neg hc85] at h
      exact cx_vret d_F_goOn_88 rfl (ox_v hq h)
  clear h
  intro J7 hJ2 h
  by_cases e17_0 : (cI s 128 p6 0) = nI 0
  · rw [if_pos e17_0] at h
    refine cx_tab (tgt := 48) d_F_goOn_17 0 e17_0 (by decide) (by decide) (by rfl) (by decide) ?_
    refine cx_aload_n d_F_goOn_48 rfl ?_
    refine cx_aload_n d_F_goOn_49 rfl ?_
    refine cx_aload_n d_F_goOn_50 rfl ?_
    refine cx_aload_n d_F_goOn_51 rfl ?_
    obtain ⟨p21, ep21, hp21, h⟩ := oc_inv h
    obtain ⟨x22, s23, ex22, h⟩ := ob_inv h
    refine cx_callV3v c_F_goOn_52 (cx_hst (fun _ q => nomatch q) (Nat.le_of_ble_eq_true rfl)) (by decide) ep21 hp21 (E_F_chargeOn ex22 ?_)
    refine cx_goto (tgt := 81) d_F_goOn_55 (by decide) ?_
    exact hJ2 _ h
  rw [if_neg e17_0] at h
  by_cases e17_1 : (cI s 128 p6 0) = nI 1
  · rw [if_pos e17_1] at h
    refine cx_tab (tgt := 68) d_F_goOn_17 1 e17_1 (by decide) (by decide) (by rfl) (by decide) ?_
    refine cx_aload_n d_F_goOn_68 rfl ?_
    refine cx_dup d_F_goOn_69 (by first | rfl | exact cx_cat) ?_
    refine cx_geti 146 rfl g_F_goOn_70 rfl (by decide) ep3 hp3 ?_
    refine cx_iconst (v := nI 1) d_F_goOn_73 (by decide) ?_
    refine cx_isub d_F_goOn_74 ?_
    refine cx_puti 146 rfl p_F_goOn_75 rfl (by decide) rfl rfl ep3 hp3 ?_
    refine cx_goto (tgt := 81) d_F_goOn_78 (by decide) ?_
    exact hJ2 _ h
  rw [if_neg e17_1] at h
  by_cases e17_2 : (cI s 128 p6 0) = nI 2
  · rw [if_pos e17_2] at h
    refine cx_tab (tgt := 58) d_F_goOn_17 2 e17_2 (by decide) (by decide) (by rfl) (by decide) ?_
    refine cx_aload_n d_F_goOn_58 rfl ?_
    refine cx_aload_n d_F_goOn_59 rfl ?_
    refine cx_aload_n d_F_goOn_60 rfl ?_
    refine cx_aload_n d_F_goOn_61 rfl ?_
    obtain ⟨p24, ep24, hp24, h⟩ := oc_inv h
    obtain ⟨x25, s26, ex25, h⟩ := ob_inv h
    refine cx_callV3v c_F_goOn_62 (cx_hst (fun _ q => nomatch q) (Nat.le_of_ble_eq_true rfl)) (by decide) ep24 hp24 (E_F_moveOn ex25 ?_)
    refine cx_goto (tgt := 81) d_F_goOn_65 (by decide) ?_
    exact hJ2 _ h
  rw [if_neg e17_2] at h
  by_cases e17_3 : (cI s 128 p6 0) = nI 3
  · rw [if_pos e17_3] at h
    refine cx_tab (tgt := 68) d_F_goOn_17 3 e17_3 (by decide) (by decide) (by rfl) (by decide) ?_
    refine cx_aload_n d_F_goOn_68 rfl ?_
    refine cx_dup d_F_goOn_69 (by first | rfl | exact cx_cat) ?_
    refine cx_geti 146 rfl g_F_goOn_70 rfl (by decide) ep3 hp3 ?_
    refine cx_iconst (v := nI 1) d_F_goOn_73 (by decide) ?_
    refine cx_isub d_F_goOn_74 ?_
    refine cx_puti 146 rfl p_F_goOn_75 rfl (by decide) rfl rfl ep3 hp3 ?_
    refine cx_goto (tgt := 81) d_F_goOn_78 (by decide) ?_
    exact hJ2 _ h
  rw [if_neg e17_3] at h
  have hsw : ∀ j, j ≤ 3 → ¬ (cI s 128 p6 0) = nI j := by
    intro j hj
    have hj2 : j = 0 ∨ j = 1 ∨ j = 2 ∨ j = 3 := by omega
    rcases hj2 with rfl | rfl | rfl | rfl <;> assumption
  refine cx_tableOut (tgt := 81) d_F_goOn_17 (sw_out 3 (by decide) hsw) (by decide) ?_
  exact hJ2 _ h
theorem E_B_countBegun_4 {G : bm_G} {f : Nat} {l0 : Nat} {r : Int32} {sz : cx_S} {Q : bm_R → cx_S → Prop} (hq : Q (.inl (some (.int (r)))) sz) : ∀ (n : Nat) (l1 : Int32) (l2 : Int32) (s : cx_S), D_B_countBegun_4 f l0 n l1 l2 s = some (r, sz) → cx G me_B_countBegun 4 [some (va_rf (some l0)), some (.int (l1)), some (.int (l2))] [] s Q := by
  intro n
  induction n with
  | zero =>
    intro l1 l2 s h
    rw [D_B_countBegun_4] at h
    exact absurd h (by simp)
  | succ n ih =>
    intro l1 l2 s h
    rw [D_B_countBegun_4] at h
    refine cx_iload_n d_B_countBegun_4 rfl ?_
    refine cx_aload_n d_B_countBegun_5 rfl ?_
    obtain ⟨p1, ep1, hp1, h⟩ := oc_inv h
    refine cx_geti 21 rfl g_B_countBegun_6 rfl (by decide) ep1 hp1 ?_
    refine cx_icmp_ge (tgt := 33) d_B_countBegun_9 (by decide) (fun hc9 => ?_) (fun hc9 => ?_)
    · rw [if_pos hc9] at h
      refine cx_iload_n d_B_countBegun_33 rfl ?_
      exact cx_iret d_B_countBegun_34 rfl (ox_i hq h)
    · rw [if_neg hc9] at h
      refine cx_aload_n d_B_countBegun_12 rfl ?_
      refine cx_getr 22 rfl g_B_countBegun_13 rfl (by decide) ep1 hp1 ?_
      refine cx_iload_n d_B_countBegun_16 rfl ?_
      obtain ⟨a2, na2, j3, ea2, ha2, hj3, gj3, ej3, h⟩ := oa_inv h
      refine cx_aald (t := 8) 408 rfl d_B_countBegun_17 (by decide) rfl ea2 ha2 hj3 gj3 ej3 ?_
      obtain ⟨p4, ep4, hp4, h⟩ := oc_inv h
      refine cx_geti 145 rfl g_B_countBegun_18 rfl (by decide) ep4 hp4 ?_
      refine oj_step (P := fun J5 : Int32 → Option (Int32 × cx_S) => ∀ (v6 : Int32), J5 v6 = some (r, sz) → cx G me_B_countBegun 27 [some (va_rf (some l0)), some (.int (v6)), some (.int (l2))] [] s Q) h ?_ ?_
      · intro v6 h
        refine cx_iincP d_B_countBegun_27 (by decide) rfl ?_
        refine cx_goto (tgt := 4) d_B_countBegun_30 (by decide) ?_
        exact ih _ _ _ h
      clear h
      intro J5 hJ1 h
      refine cx_if_eq (tgt := 27) d_B_countBegun_21 (by decide) (fun hc21 => ?_) (fun hc21 => ?_)
      · rw [if_pos hc21] at h
        exact hJ1 _ h
      · rw [if_neg hc21] at h
        refine cx_iincP d_B_countBegun_24 (by decide) rfl ?_
        exact hJ1 _ h
theorem E_B_countBegun {G : bm_G} {f : Nat} {l0 : Nat} {s sz : cx_S} {r : Int32} {Q : Int32 → cx_S → Prop} (h : D_B_countBegun f l0 s = some (r, sz)) (hq : Q r sz) : cx_Ti G me_B_countBegun [va_rf (some l0)] s Q := by
  refine cx_meti (by decide) (List.forall_mem_cons.mpr ⟨cx_cat, (fun _ q => nomatch q)⟩) (Nat.le_of_ble_eq_true rfl) ?_
  generalize hQ : (fun (v : bm_R) (s2 : cx_S) => ∃ x, v = .inl (some (.int x)) ∧ Q x s2) = Q2
  replace hq : Q2 (.inl (some (.int (r)))) sz := by rw [← hQ]; exact ⟨_, rfl, hq⟩
  clear hQ
  unfold D_B_countBegun at h
  refine cx_iconst (v := nI 0) d_B_countBegun_0 (by decide) ?_
  refine cx_istore_n d_B_countBegun_1 (by decide) ?_
  refine cx_iconst (v := nI 0) d_B_countBegun_2 (by decide) ?_
  refine cx_istore_n d_B_countBegun_3 (by decide) ?_
  refine E_B_countBegun_4 (r := r) (sz := sz) hq _ _ _ _ h
theorem E_B_addToken {G : bm_G} {f : Nat} {l0 : Nat} {l1 : Int32} {s sz : cx_S} {r : Int32} {Q : cx_S → Prop} (h : D_B_addToken f l0 l1 s = some (r, sz)) (hq : Q sz) : cx_Tv G me_B_addToken [va_rf (some l0), .int (l1)] s Q := by
  refine cx_metv (by decide) (List.forall_mem_cons.mpr ⟨cx_cat, (List.forall_mem_cons.mpr ⟨rfl, (fun _ q => nomatch q)⟩)⟩) (Nat.le_of_ble_eq_true rfl) ?_
  generalize hQ : (fun (v : bm_R) (s2 : cx_S) => v = .inl none ∧ Q s2) = Q2
  replace hq : Q2 (.inl none) sz := by rw [← hQ]; exact ⟨rfl, hq⟩
  clear hQ
  unfold D_B_addToken at h
  refine cx_aload_n d_B_addToken_0 rfl ?_
  obtain ⟨p1, ep1, hp1, h⟩ := oc_inv h
  refine cx_geti 21 rfl g_B_addToken_1 rfl (by decide) ep1 hp1 ?_
  refine cx_bipush (v := nI 8) d_B_addToken_4 (by decide) ?_
  refine oj_step (P := fun J2 : cx_S → Option (Int32 × cx_S) => ∀ (s3 : cx_S) (d0 : Option Value) (d1 : Option Value), J2 s3 = some (r, sz) → cx G me_B_addToken 45 [d0, d1] [] s3 Q2) h ?_ ?_
  · intro s3 d0 d1 h
    exact cx_vret d_B_addToken_45 rfl (ox_v hq h)
  clear h
  intro J2 hJ1 h
  refine cx_icmp_ge (tgt := 45) d_B_addToken_6 (by decide) (fun hc6 => ?_) (fun hc6 => ?_)
  · rw [if_pos hc6] at h
    exact hJ1 _ _ _ h
  · rw [if_neg hc6] at h
    refine cx_aload_n d_B_addToken_9 rfl ?_
    refine cx_getr 22 rfl g_B_addToken_10 rfl (by decide) ep1 hp1 ?_
    refine cx_aload_n d_B_addToken_13 rfl ?_
    refine cx_geti 21 rfl g_B_addToken_14 rfl (by decide) ep1 hp1 ?_
    obtain ⟨a4, na4, j5, ea4, ha4, hj5, gj5, ej5, h⟩ := oa_inv h
    refine cx_aald (t := 8) 408 rfl d_B_addToken_17 (by decide) rfl ea4 ha4 hj5 gj5 ej5 ?_
    refine cx_iload_n d_B_addToken_18 rfl ?_
    obtain ⟨p6, ep6, hp6, h⟩ := oc_inv h
    refine cx_puti 144 rfl p_B_addToken_19 rfl (by decide) rfl rfl ep6 hp6 ?_
    refine cx_aload_n d_B_addToken_22 rfl ?_
    refine cx_getr 22 rfl g_B_addToken_23 rfl (by decide) ep1 hp1 ?_
    refine cx_aload_n d_B_addToken_26 rfl ?_
    refine cx_geti 21 rfl g_B_addToken_27 rfl (by decide) ep1 hp1 ?_
    obtain ⟨a7, na7, j8, ea7, ha7, hj8, gj8, ej8, h⟩ := oa_inv h
    refine cx_aald (t := 8) 408 rfl d_B_addToken_30 (by decide) rfl ea7 ha7 hj8 gj8 ej8 ?_
    refine cx_iconst (v := nI 0) d_B_addToken_31 (by decide) ?_
    obtain ⟨p9, ep9, hp9, h⟩ := oc_inv h
    refine cx_puti 145 rfl p_B_addToken_32 rfl (by decide) rfl rfl ep9 hp9 ?_
    refine cx_aload_n d_B_addToken_35 rfl ?_
    refine cx_dup d_B_addToken_36 (by first | rfl | exact cx_cat) ?_
    refine cx_geti 21 rfl g_B_addToken_37 rfl (by decide) ep1 hp1 ?_
    refine cx_iconst (v := nI 1) d_B_addToken_40 (by decide) ?_
    refine cx_iadd d_B_addToken_41 ?_
    refine cx_puti 21 rfl p_B_addToken_42 rfl (by decide) rfl rfl ep1 hp1 ?_
    exact hJ1 _ _ _ h
