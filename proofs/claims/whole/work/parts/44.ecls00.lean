theorem E_C_init {G : bm_G} {f : Nat} {l0 : Nat} {s sz : cx_S} {r : Int32} {Q : cx_S → Prop} (h : D_C_init f l0 s = some (r, sz)) (hq : Q sz) : cx_Tv G me_C_init [va_rf (some l0)] s Q := by
  refine cx_metv (by decide) (List.forall_mem_cons.mpr ⟨cx_cat, (fun _ q => nomatch q)⟩) (Nat.le_of_ble_eq_true rfl) ?_
  generalize hQ : (fun (v : bm_R) (s2 : cx_S) => v = .inl none ∧ Q s2) = Q2
  replace hq : Q2 (.inl none) sz := by rw [← hQ]; exact ⟨rfl, hq⟩
  clear hQ
  unfold D_C_init at h
  refine cx_aload_n d_C_init_0 rfl ?_
  refine cx_objInit c_C_init_1 (cx_hst (fun _ q => nomatch q) (Nat.le_of_ble_eq_true rfl)) rfl ?_
  refine cx_aload_n d_C_init_4 rfl ?_
  refine cx_bipush (v := nI 12) d_C_init_5 (by decide) ?_
  obtain ⟨hn7, h⟩ := on_inv h
  refine cx_newI (N := 12) n_C_init_7 hn7.2 hn7.1 rfl (by decide) ?_
  obtain ⟨p1, ep1, hp1, h⟩ := oc_inv h
  refine cx_putr 112 rfl p_C_init_9 rfl (by decide) cx_narA cx_fitsA ep1 hp1 ?_
  refine cx_aload_n d_C_init_12 rfl ?_
  refine cx_bipush (v := nI 12) d_C_init_13 (by decide) ?_
  obtain ⟨hn15, h⟩ := on_inv h
  refine cx_newI (N := 12) n_C_init_15 hn15.2 hn15.1 rfl (by decide) ?_
  obtain ⟨p2, ep2, hp2, h⟩ := oc_inv h
  refine cx_putr 113 rfl p_C_init_17 rfl (by decide) cx_narA cx_fitsA ep2 hp2 ?_
  refine cx_aload_n d_C_init_20 rfl ?_
  refine cx_bipush (v := nI 12) d_C_init_21 (by decide) ?_
  obtain ⟨hn23, h⟩ := on_inv h
  refine cx_newI (N := 12) n_C_init_23 hn23.2 hn23.1 rfl (by decide) ?_
  obtain ⟨p3, ep3, hp3, h⟩ := oc_inv h
  refine cx_putr 114 rfl p_C_init_25 rfl (by decide) cx_narA cx_fitsA ep3 hp3 ?_
  refine cx_aload_n d_C_init_28 rfl ?_
  refine cx_bipush (v := nI 25) d_C_init_29 (by decide) ?_
  obtain ⟨hn31, h⟩ := on_inv h
  refine cx_newI (N := 25) n_C_init_31 hn31.2 hn31.1 rfl (by decide) ?_
  obtain ⟨p4, ep4, hp4, h⟩ := oc_inv h
  refine cx_putr 115 rfl p_C_init_33 rfl (by decide) cx_narA cx_fitsA ep4 hp4 ?_
  refine cx_aload_n d_C_init_36 rfl ?_
  refine cx_bipush (v := nI 12) d_C_init_37 (by decide) ?_
  obtain ⟨hn39, h⟩ := on_inv h
  refine cx_newI (N := 12) n_C_init_39 hn39.2 hn39.1 rfl (by decide) ?_
  obtain ⟨p5, ep5, hp5, h⟩ := oc_inv h
  refine cx_putr 116 rfl p_C_init_41 rfl (by decide) cx_narA cx_fitsA ep5 hp5 ?_
  refine cx_aload_n d_C_init_44 rfl ?_
  refine cx_bipush (v := nI 25) d_C_init_45 (by decide) ?_
  obtain ⟨hn47, h⟩ := on_inv h
  refine cx_newI (N := 25) n_C_init_47 hn47.2 hn47.1 rfl (by decide) ?_
  obtain ⟨p6, ep6, hp6, h⟩ := oc_inv h
  refine cx_putr 117 rfl p_C_init_49 rfl (by decide) cx_narA cx_fitsA ep6 hp6 ?_
  exact cx_vret d_C_init_52 rfl (ox_v hq h)
theorem E_K_init {G : bm_G} {f : Nat} {l0 : Nat} {s sz : cx_S} {r : Int32} {Q : cx_S → Prop} (h : D_K_init f l0 s = some (r, sz)) (hq : Q sz) : cx_Tv G me_K_init [va_rf (some l0)] s Q := by
  refine cx_metv (by decide) (List.forall_mem_cons.mpr ⟨cx_cat, (fun _ q => nomatch q)⟩) (Nat.le_of_ble_eq_true rfl) ?_
  generalize hQ : (fun (v : bm_R) (s2 : cx_S) => v = .inl none ∧ Q s2) = Q2
  replace hq : Q2 (.inl none) sz := by rw [← hQ]; exact ⟨rfl, hq⟩
  clear hQ
  unfold D_K_init at h
  refine cx_aload_n d_K_init_0 rfl ?_
  refine cx_objInit c_K_init_1 (cx_hst (fun _ q => nomatch q) (Nat.le_of_ble_eq_true rfl)) rfl ?_
  refine cx_aload_n d_K_init_4 rfl ?_
  refine cx_bipush (v := nI 100) d_K_init_5 (by decide) ?_
  obtain ⟨hn7, h⟩ := on_inv h
  refine cx_newQ (t := 6) (N := 100) 406 rfl (by decide) n_K_init_7 hn7.2 hn7.1 rfl (by decide) ?_
  obtain ⟨p1, ep1, hp1, h⟩ := oc_inv h
  refine cx_putr 65 rfl p_K_init_10 rfl (by decide) cx_narA cx_fitsA ep1 hp1 ?_
  refine cx_aload_n d_K_init_13 rfl ?_
  refine cx_bipush (v := nI 100) d_K_init_14 (by decide) ?_
  obtain ⟨hn16, h⟩ := on_inv h
  refine cx_newI (N := 100) n_K_init_16 hn16.2 hn16.1 rfl (by decide) ?_
  obtain ⟨p2, ep2, hp2, h⟩ := oc_inv h
  refine cx_putr 66 rfl p_K_init_18 rfl (by decide) cx_narA cx_fitsA ep2 hp2 ?_
  exact cx_vret d_K_init_21 rfl (ox_v hq h)
theorem E_V_init {G : bm_G} {f : Nat} {l0 : Nat} {s sz : cx_S} {r : Int32} {Q : cx_S → Prop} (h : D_V_init f l0 s = some (r, sz)) (hq : Q sz) : cx_Tv G me_V_init [va_rf (some l0)] s Q := by
  refine cx_metv (by decide) (List.forall_mem_cons.mpr ⟨cx_cat, (fun _ q => nomatch q)⟩) (Nat.le_of_ble_eq_true rfl) ?_
  generalize hQ : (fun (v : bm_R) (s2 : cx_S) => v = .inl none ∧ Q s2) = Q2
  replace hq : Q2 (.inl none) sz := by rw [← hQ]; exact ⟨rfl, hq⟩
  clear hQ
  unfold D_V_init at h
  refine cx_aload_n d_V_init_0 rfl ?_
  refine cx_objInit c_V_init_1 (cx_hst (fun _ q => nomatch q) (Nat.le_of_ble_eq_true rfl)) rfl ?_
  refine cx_aload_n d_V_init_4 rfl ?_
  refine cx_bipush (v := nI 100) d_V_init_5 (by decide) ?_
  obtain ⟨hn7, h⟩ := on_inv h
  refine cx_newI (N := 100) n_V_init_7 hn7.2 hn7.1 rfl (by decide) ?_
  obtain ⟨p1, ep1, hp1, h⟩ := oc_inv h
  refine cx_putr 80 rfl p_V_init_9 rfl (by decide) cx_narA cx_fitsA ep1 hp1 ?_
  refine cx_aload_n d_V_init_12 rfl ?_
  refine cx_bipush (v := nI 100) d_V_init_13 (by decide) ?_
  obtain ⟨hn15, h⟩ := on_inv h
  refine cx_newI (N := 100) n_V_init_15 hn15.2 hn15.1 rfl (by decide) ?_
  obtain ⟨p2, ep2, hp2, h⟩ := oc_inv h
  refine cx_putr 81 rfl p_V_init_17 rfl (by decide) cx_narA cx_fitsA ep2 hp2 ?_
  exact cx_vret d_V_init_20 rfl (ox_v hq h)
theorem E_U_init {G : bm_G} {f : Nat} {l0 : Nat} {s sz : cx_S} {r : Int32} {Q : cx_S → Prop} (h : D_U_init f l0 s = some (r, sz)) (hq : Q sz) : cx_Tv G me_U_init [va_rf (some l0)] s Q := by
  refine cx_metv (by decide) (List.forall_mem_cons.mpr ⟨cx_cat, (fun _ q => nomatch q)⟩) (Nat.le_of_ble_eq_true rfl) ?_
  generalize hQ : (fun (v : bm_R) (s2 : cx_S) => v = .inl none ∧ Q s2) = Q2
  replace hq : Q2 (.inl none) sz := by rw [← hQ]; exact ⟨rfl, hq⟩
  clear hQ
  unfold D_U_init at h
  refine cx_aload_n d_U_init_0 rfl ?_
  refine cx_objInit c_U_init_1 (cx_hst (fun _ q => nomatch q) (Nat.le_of_ble_eq_true rfl)) rfl ?_
  refine cx_aload_n d_U_init_4 rfl ?_
  refine cx_iconst (v := (-1)) d_U_init_5 (by decide) ?_
  obtain ⟨p1, ep1, hp1, h⟩ := oc_inv h
  refine cx_puti 161 rfl p_U_init_6 rfl (by decide) rfl rfl ep1 hp1 ?_
  refine cx_aload_n d_U_init_9 rfl ?_
  refine cx_bipush (v := nI 100) d_U_init_10 (by decide) ?_
  obtain ⟨hn12, h⟩ := on_inv h
  refine cx_newI (N := 100) n_U_init_12 hn12.2 hn12.1 rfl (by decide) ?_
  obtain ⟨p2, ep2, hp2, h⟩ := oc_inv h
  refine cx_putr 163 rfl p_U_init_14 rfl (by decide) cx_narA cx_fitsA ep2 hp2 ?_
  refine cx_aload_n d_U_init_17 rfl ?_
  refine cx_bipush (v := nI 100) d_U_init_18 (by decide) ?_
  obtain ⟨hn20, h⟩ := on_inv h
  refine cx_newI (N := 100) n_U_init_20 hn20.2 hn20.1 rfl (by decide) ?_
  obtain ⟨p3, ep3, hp3, h⟩ := oc_inv h
  refine cx_putr 164 rfl p_U_init_22 rfl (by decide) cx_narA cx_fitsA ep3 hp3 ?_
  exact cx_vret d_U_init_25 rfl (ox_v hq h)
theorem E_F_init_53 {G : bm_G} {f : Nat} {l0 : Nat} {r : Int32} {sz : cx_S} {Q : bm_R → cx_S → Prop} (hq : Q (.inl none) sz) : ∀ (n : Nat) (l1 : Int32) (s : cx_S), D_F_init_53 f l0 n l1 s = some (r, sz) → cx G me_F_init 53 [some (va_rf (some l0)), some (.int (l1))] [] s Q := by
  intro n
  induction n with
  | zero =>
    intro l1 s h
    rw [D_F_init_53] at h
    exact absurd h (by simp)
  | succ n ih =>
    intro l1 s h
    rw [D_F_init_53] at h
    refine cx_iload_n d_F_init_53 rfl ?_
    refine cx_bipush (v := nI 6) d_F_init_54 (by decide) ?_
    refine cx_icmp_ge (tgt := 78) d_F_init_56 (by decide) (fun hc56 => ?_) (fun hc56 => ?_)
    · rw [if_pos hc56] at h
      exact cx_vret d_F_init_78 rfl (ox_v hq h)
    · rw [if_neg hc56] at h
      refine cx_aload_n d_F_init_59 rfl ?_
      obtain ⟨p10, ep10, hp10, h⟩ := oc_inv h
      refine cx_getr 32 rfl g_F_init_60 rfl (by decide) ep10 hp10 ?_
      refine cx_iload_n d_F_init_63 rfl ?_
      obtain ⟨hn64, h⟩ := on_inv h
      refine cx_new (z := 5) n_F_init_64 (by decide) hn64.2 hn64.1 rfl (by decide) ?_
      refine cx_dup d_F_init_67 (by first | rfl | exact cx_cat) ?_
      obtain ⟨x11, s12, ex11, h⟩ := ob_inv h
      refine cx_callI0v c_F_init_68 (cx_hst (List.forall_mem_cons.mpr ⟨cx_cat, (List.forall_mem_cons.mpr ⟨rfl, (List.forall_mem_cons.mpr ⟨cx_cat, (fun _ q => nomatch q)⟩)⟩)⟩) (Nat.le_of_ble_eq_true rfl)) rfl (E_U_init ex11 ?_)
      obtain ⟨p13, ep13, hp13, h⟩ := oc_inv h
      obtain ⟨a14, na14, j15, ea14, ha14, hj15, gj15, ej15, h⟩ := oa_inv h
      refine cx_aast (t := 5) (ci := 10) 405 rfl d_F_init_71 (by decide) rfl rfl (by decide) ep13 hp13 ea14 ha14 hj15 gj15 ej15 ?_
      refine cx_iincP d_F_init_72 (by decide) rfl ?_
      refine cx_goto (tgt := 53) d_F_init_75 (by decide) ?_
      exact ih _ _ h
theorem E_F_init {G : bm_G} {f : Nat} {l0 : Nat} {s sz : cx_S} {r : Int32} {Q : cx_S → Prop} (h : D_F_init f l0 s = some (r, sz)) (hq : Q sz) : cx_Tv G me_F_init [va_rf (some l0)] s Q := by
  refine cx_metv (by decide) (List.forall_mem_cons.mpr ⟨cx_cat, (fun _ q => nomatch q)⟩) (Nat.le_of_ble_eq_true rfl) ?_
  generalize hQ : (fun (v : bm_R) (s2 : cx_S) => v = .inl none ∧ Q s2) = Q2
  replace hq : Q2 (.inl none) sz := by rw [← hQ]; exact ⟨rfl, hq⟩
  clear hQ
  unfold D_F_init at h
  refine cx_aload_n d_F_init_0 rfl ?_
  refine cx_objInit c_F_init_1 (cx_hst (fun _ q => nomatch q) (Nat.le_of_ble_eq_true rfl)) rfl ?_
  refine cx_aload_n d_F_init_4 rfl ?_
  refine cx_bipush (v := nI 6) d_F_init_5 (by decide) ?_
  obtain ⟨hn7, h⟩ := on_inv h
  refine cx_newQ (t := 5) (N := 6) 405 rfl (by decide) n_F_init_7 hn7.2 hn7.1 rfl (by decide) ?_
  obtain ⟨p1, ep1, hp1, h⟩ := oc_inv h
  refine cx_putr 32 rfl p_F_init_10 rfl (by decide) cx_narA cx_fitsA ep1 hp1 ?_
  refine cx_aload_n d_F_init_13 rfl ?_
  obtain ⟨hn14, h⟩ := on_inv h
  refine cx_new (z := 3) n_F_init_14 (by decide) hn14.2 hn14.1 rfl (by decide) ?_
  refine cx_dup d_F_init_17 (by first | rfl | exact cx_cat) ?_
  obtain ⟨x2, s3, ex2, h⟩ := ob_inv h
  refine cx_callI0v c_F_init_18 (cx_hst (List.forall_mem_cons.mpr ⟨cx_cat, (List.forall_mem_cons.mpr ⟨cx_cat, (fun _ q => nomatch q)⟩)⟩) (Nat.le_of_ble_eq_true rfl)) rfl (E_K_init ex2 ?_)
  obtain ⟨p4, ep4, hp4, h⟩ := oc_inv h
  refine cx_putr 33 rfl p_F_init_21 rfl (by decide) cx_narO cx_fitsO ep4 hp4 ?_
  refine cx_aload_n d_F_init_24 rfl ?_
  obtain ⟨hn25, h⟩ := on_inv h
  refine cx_new (z := 2) n_F_init_25 (by decide) hn25.2 hn25.1 rfl (by decide) ?_
  refine cx_dup d_F_init_28 (by first | rfl | exact cx_cat) ?_
  obtain ⟨x5, s6, ex5, h⟩ := ob_inv h
  refine cx_callI0v c_F_init_29 (cx_hst (List.forall_mem_cons.mpr ⟨cx_cat, (List.forall_mem_cons.mpr ⟨cx_cat, (fun _ q => nomatch q)⟩)⟩) (Nat.le_of_ble_eq_true rfl)) rfl (E_V_init ex5 ?_)
  obtain ⟨p7, ep7, hp7, h⟩ := oc_inv h
  refine cx_putr 34 rfl p_F_init_32 rfl (by decide) cx_narO cx_fitsO ep7 hp7 ?_
  refine cx_aload_n d_F_init_35 rfl ?_
  refine cx_bipush (v := nI 16) d_F_init_36 (by decide) ?_
  obtain ⟨hn38, h⟩ := on_inv h
  refine cx_newQ (t := 4) (N := 16) 404 rfl (by decide) n_F_init_38 hn38.2 hn38.1 rfl (by decide) ?_
  obtain ⟨p8, ep8, hp8, h⟩ := oc_inv h
  refine cx_putr 35 rfl p_F_init_41 rfl (by decide) cx_narA cx_fitsA ep8 hp8 ?_
  refine cx_aload_n d_F_init_44 rfl ?_
  refine cx_iconst (v := nI 3) d_F_init_45 (by decide) ?_
  obtain ⟨hn46, h⟩ := on_inv h
  refine cx_newI (N := 3) n_F_init_46 hn46.2 hn46.1 rfl (by decide) ?_
  obtain ⟨p9, ep9, hp9, h⟩ := oc_inv h
  refine cx_putr 37 rfl p_F_init_48 rfl (by decide) cx_narA cx_fitsA ep9 hp9 ?_
  refine cx_iconst (v := nI 0) d_F_init_51 (by decide) ?_
  refine cx_istore_n d_F_init_52 (by decide) ?_
  refine E_F_init_53 (r := r) (sz := sz) hq _ _ _ h
theorem E_R_init {G : bm_G} {f : Nat} {l0 : Nat} {s sz : cx_S} {r : Int32} {Q : cx_S → Prop} (h : D_R_init f l0 s = some (r, sz)) (hq : Q sz) : cx_Tv G me_R_init [va_rf (some l0)] s Q := by
  refine cx_metv (by decide) (List.forall_mem_cons.mpr ⟨cx_cat, (fun _ q => nomatch q)⟩) (Nat.le_of_ble_eq_true rfl) ?_
  generalize hQ : (fun (v : bm_R) (s2 : cx_S) => v = .inl none ∧ Q s2) = Q2
  replace hq : Q2 (.inl none) sz := by rw [← hQ]; exact ⟨rfl, hq⟩
  clear hQ
  unfold D_R_init at h
  refine cx_aload_n d_R_init_0 rfl ?_
  refine cx_objInit c_R_init_1 (cx_hst (fun _ q => nomatch q) (Nat.le_of_ble_eq_true rfl)) rfl ?_
  refine cx_aload_n d_R_init_4 rfl ?_
  refine cx_iconst (v := nI 3) d_R_init_5 (by decide) ?_
  obtain ⟨hn6, h⟩ := on_inv h
  refine cx_newI (N := 3) n_R_init_6 hn6.2 hn6.1 rfl (by decide) ?_
  refine cx_dup d_R_init_8 (by first | rfl | exact cx_cat) ?_
  refine cx_iconst (v := nI 0) d_R_init_9 (by decide) ?_
  refine cx_iconst (v := nI 3) d_R_init_10 (by decide) ?_
  obtain ⟨a1, na1, j2, ea1, ha1, hj2, gj2, ej2, h⟩ := oa_inv h
  refine cx_iast d_R_init_11 ea1 ha1 hj2 gj2 ej2 ?_
  refine cx_dup d_R_init_12 (by first | rfl | exact cx_cat) ?_
  refine cx_iconst (v := nI 1) d_R_init_13 (by decide) ?_
  refine cx_iconst (v := nI 3) d_R_init_14 (by decide) ?_
  obtain ⟨a3, na3, j4, ea3, ha3, hj4, gj4, ej4, h⟩ := oa_inv h
  refine cx_iast d_R_init_15 ea3 ha3 hj4 gj4 ej4 ?_
  refine cx_dup d_R_init_16 (by first | rfl | exact cx_cat) ?_
  refine cx_iconst (v := nI 2) d_R_init_17 (by decide) ?_
  refine cx_iconst (v := nI 3) d_R_init_18 (by decide) ?_
  obtain ⟨a5, na5, j6, ea5, ha5, hj6, gj6, ej6, h⟩ := oa_inv h
  refine cx_iast d_R_init_19 ea5 ha5 hj6 gj6 ej6 ?_
  obtain ⟨p7, ep7, hp7, h⟩ := oc_inv h
  refine cx_putr 98 rfl p_R_init_20 rfl (by decide) cx_narA cx_fitsA ep7 hp7 ?_
  refine cx_aload_n d_R_init_23 rfl ?_
  refine cx_bipush (v := nI 12) d_R_init_24 (by decide) ?_
  obtain ⟨hn26, h⟩ := on_inv h
  refine cx_newQ (t := 7) (N := 12) 407 rfl (by decide) n_R_init_26 hn26.2 hn26.1 rfl (by decide) ?_
  obtain ⟨p8, ep8, hp8, h⟩ := oc_inv h
  refine cx_putr 99 rfl p_R_init_29 rfl (by decide) cx_narA cx_fitsA ep8 hp8 ?_
  exact cx_vret d_R_init_32 rfl (ox_v hq h)
theorem E_H_init_67 {G : bm_G} {f : Nat} {l0 : Nat} {r : Int32} {sz : cx_S} {Q : bm_R → cx_S → Prop} (hq : Q (.inl none) sz) : ∀ (n : Nat) (l1 : Int32) (s : cx_S), D_H_init_67 f l0 n l1 s = some (r, sz) → cx G me_H_init 67 [some (va_rf (some l0)), some (.int (l1))] [] s Q := by
  intro n
  induction n with
  | zero =>
    intro l1 s h
    rw [D_H_init_67] at h
    exact absurd h (by simp)
  | succ n ih =>
    intro l1 s h
    rw [D_H_init_67] at h
    refine cx_iload_n d_H_init_67 rfl ?_
    refine cx_iconst (v := nI 4) d_H_init_68 (by decide) ?_
    refine cx_icmp_ge (tgt := 91) d_H_init_69 (by decide) (fun hc69 => ?_) (fun hc69 => ?_)
    · rw [if_pos hc69] at h
      exact cx_vret d_H_init_91 rfl (ox_v hq h)
    · rw [if_neg hc69] at h
      refine cx_aload_n d_H_init_72 rfl ?_
      obtain ⟨p11, ep11, hp11, h⟩ := oc_inv h
      refine cx_getr 0 rfl g_H_init_73 rfl (by decide) ep11 hp11 ?_
      refine cx_iload_n d_H_init_76 rfl ?_
      obtain ⟨hn77, h⟩ := on_inv h
      refine cx_new (z := 4) n_H_init_77 (by decide) hn77.2 hn77.1 rfl (by decide) ?_
      refine cx_dup d_H_init_80 (by first | rfl | exact cx_cat) ?_
      obtain ⟨x12, s13, ex12, h⟩ := ob_inv h
      refine cx_callI0v c_H_init_81 (cx_hst (List.forall_mem_cons.mpr ⟨cx_cat, (List.forall_mem_cons.mpr ⟨rfl, (List.forall_mem_cons.mpr ⟨cx_cat, (fun _ q => nomatch q)⟩)⟩)⟩) (Nat.le_of_ble_eq_true rfl)) rfl (E_R_init ex12 ?_)
      obtain ⟨p14, ep14, hp14, h⟩ := oc_inv h
      obtain ⟨a15, na15, j16, ea15, ha15, hj16, gj16, ej16, h⟩ := oa_inv h
      refine cx_aast (t := 3) (ci := 6) 403 rfl d_H_init_84 (by decide) rfl rfl (by decide) ep14 hp14 ea15 ha15 hj16 gj16 ej16 ?_
      refine cx_iincP d_H_init_85 (by decide) rfl ?_
      refine cx_goto (tgt := 67) d_H_init_88 (by decide) ?_
      exact ih _ _ h
theorem E_H_init {G : bm_G} {f : Nat} {l0 : Nat} {s sz : cx_S} {r : Int32} {Q : cx_S → Prop} (h : D_H_init f l0 s = some (r, sz)) (hq : Q sz) : cx_Tv G me_H_init [va_rf (some l0)] s Q := by
  refine cx_metv (by decide) (List.forall_mem_cons.mpr ⟨cx_cat, (fun _ q => nomatch q)⟩) (Nat.le_of_ble_eq_true rfl) ?_
  generalize hQ : (fun (v : bm_R) (s2 : cx_S) => v = .inl none ∧ Q s2) = Q2
  replace hq : Q2 (.inl none) sz := by rw [← hQ]; exact ⟨rfl, hq⟩
  clear hQ
  unfold D_H_init at h
  refine cx_aload_n d_H_init_0 rfl ?_
  refine cx_objInit c_H_init_1 (cx_hst (fun _ q => nomatch q) (Nat.le_of_ble_eq_true rfl)) rfl ?_
  refine cx_aload_n d_H_init_4 rfl ?_
  refine cx_iconst (v := nI 4) d_H_init_5 (by decide) ?_
  obtain ⟨hn6, h⟩ := on_inv h
  refine cx_newQ (t := 3) (N := 4) 403 rfl (by decide) n_H_init_6 hn6.2 hn6.1 rfl (by decide) ?_
  obtain ⟨p1, ep1, hp1, h⟩ := oc_inv h
  refine cx_putr 0 rfl p_H_init_9 rfl (by decide) cx_narA cx_fitsA ep1 hp1 ?_
  refine cx_aload_n d_H_init_12 rfl ?_
  refine cx_bipush (v := nI 16) d_H_init_13 (by decide) ?_
  obtain ⟨hn15, h⟩ := on_inv h
  refine cx_newQ (t := 4) (N := 16) 404 rfl (by decide) n_H_init_15 hn15.2 hn15.1 rfl (by decide) ?_
  obtain ⟨p2, ep2, hp2, h⟩ := oc_inv h
  refine cx_putr 1 rfl p_H_init_18 rfl (by decide) cx_narA cx_fitsA ep2 hp2 ?_
  refine cx_aload_n d_H_init_21 rfl ?_
  obtain ⟨hn22, h⟩ := on_inv h
  refine cx_new (z := 6) n_H_init_22 (by decide) hn22.2 hn22.1 rfl (by decide) ?_
  refine cx_dup d_H_init_25 (by first | rfl | exact cx_cat) ?_
  obtain ⟨x3, s4, ex3, h⟩ := ob_inv h
  refine cx_callI0v c_H_init_26 (cx_hst (List.forall_mem_cons.mpr ⟨cx_cat, (List.forall_mem_cons.mpr ⟨cx_cat, (fun _ q => nomatch q)⟩)⟩) (Nat.le_of_ble_eq_true rfl)) rfl (E_C_init ex3 ?_)
  obtain ⟨p5, ep5, hp5, h⟩ := oc_inv h
  refine cx_putr 3 rfl p_H_init_29 rfl (by decide) cx_narO cx_fitsO ep5 hp5 ?_
  refine cx_aload_n d_H_init_32 rfl ?_
  obtain ⟨hn33, h⟩ := on_inv h
  refine cx_new (z := 6) n_H_init_33 (by decide) hn33.2 hn33.1 rfl (by decide) ?_
  refine cx_dup d_H_init_36 (by first | rfl | exact cx_cat) ?_
  obtain ⟨x6, s7, ex6, h⟩ := ob_inv h
  refine cx_callI0v c_H_init_37 (cx_hst (List.forall_mem_cons.mpr ⟨cx_cat, (List.forall_mem_cons.mpr ⟨cx_cat, (fun _ q => nomatch q)⟩)⟩) (Nat.le_of_ble_eq_true rfl)) rfl (E_F_init ex6 ?_)
  obtain ⟨p8, ep8, hp8, h⟩ := oc_inv h
  refine cx_putr 4 rfl p_H_init_40 rfl (by decide) cx_narO cx_fitsO ep8 hp8 ?_
  refine cx_aload_n d_H_init_43 rfl ?_
  refine cx_aload_n d_H_init_44 rfl ?_
  refine cx_getr 4 rfl g_H_init_45 rfl (by decide) ep8 hp8 ?_
  obtain ⟨p9, ep9, hp9, h⟩ := oc_inv h
  refine cx_getr 32 rfl g_H_init_48 rfl (by decide) ep9 hp9 ?_
  refine cx_putr 5 rfl p_H_init_51 rfl (by decide) cx_narA cx_fitsA ep8 hp8 ?_
  refine cx_aload_n d_H_init_54 rfl ?_
  refine cx_aload_n d_H_init_55 rfl ?_
  refine cx_getr 4 rfl g_H_init_56 rfl (by decide) ep8 hp8 ?_
  obtain ⟨p10, ep10, hp10, h⟩ := oc_inv h
  refine cx_getr 33 rfl g_H_init_59 rfl (by decide) ep10 hp10 ?_
  refine cx_putr 6 rfl p_H_init_62 rfl (by decide) cx_narO cx_fitsO ep8 hp8 ?_
  refine cx_iconst (v := nI 0) d_H_init_65 (by decide) ?_
  refine cx_istore_n d_H_init_66 (by decide) ?_
  refine E_H_init_67 (r := r) (sz := sz) hq _ _ _ h
theorem E_H_isBelow {G : bm_G} {f : Nat} {l0 : Int32} {l1 : Int32} {s sz : cx_S} {r : Int32} {Q : Int32 → cx_S → Prop} (h : D_H_isBelow f l0 l1 s = some (r, sz)) (hq : Q r sz) : cx_Ti G me_H_isBelow [.int (l0), .int (l1)] s Q := by
  refine cx_meti (by decide) (List.forall_mem_cons.mpr ⟨rfl, (List.forall_mem_cons.mpr ⟨rfl, (fun _ q => nomatch q)⟩)⟩) (Nat.le_of_ble_eq_true rfl) ?_
  generalize hQ : (fun (v : bm_R) (s2 : cx_S) => ∃ x, v = .inl (some (.int x)) ∧ Q x s2) = Q2
  replace hq : Q2 (.inl (some (.int (r)))) sz := by rw [← hQ]; exact ⟨_, rfl, hq⟩
  clear hQ
  unfold D_H_isBelow at h
  refine cx_iload_n d_H_isBelow_0 rfl ?_
  refine oj_step (P := fun J1 : Int32 → Option (Int32 × cx_S) => ∀ (x2 : Int32) (d0 : Option Value) (d1 : Option Value), J1 x2 = some (r, sz) → cx G me_H_isBelow 14 [d0, d1] [.int (x2)] s Q2) h ?_ ?_
  · intro x2 d0 d1 h
    obtain ⟨hz, h⟩ := ozb_inv h
    exact cx_zret d_H_isBelow_14 rfl (ozb_nar hz) (ox_i hq h)
  clear h
  intro J1 hJ1 h
  refine oj_step (P := fun J3 : Unit → Option (Int32 × cx_S) => ∀ (_u : Unit) (d0 : Option Value) (d1 : Option Value), J3 () = some (r, sz) → cx G me_H_isBelow 13 [d0, d1] [] s Q2) h ?_ ?_
  · intro _u d0 d1 h
    refine cx_iconst (v := nI 0) d_H_isBelow_13 (by decide) ?_
    exact hJ1 _ _ _ h
  clear h
  intro J3 hJ2 h
  refine cx_if_lt (tgt := 13) d_H_isBelow_1 (by decide) (fun hc1 => ?_) (fun hc1 => ?_)
  · rw [if_pos hc1] at h
    exact hJ2 () _ _ h
  · rw [if_neg hc1] at h
    refine cx_iload_n d_H_isBelow_4 rfl ?_
    refine cx_iload_n d_H_isBelow_5 rfl ?_
    refine cx_icmp_ge (tgt := 13) d_H_isBelow_6 (by decide) (fun hc6 => ?_) (fun hc6 => ?_)
    · rw [if_pos hc6] at h
      exact hJ2 () _ _ h
    · rw [if_neg hc6] at h
      refine cx_iconst (v := nI 1) d_H_isBelow_9 (by decide) ?_
      refine cx_goto (tgt := 14) d_H_isBelow_10 (by decide) ?_
      exact hJ1 _ _ _ h
theorem E_H_unit {G : bm_G} {f : Nat} {l0 : Nat} {l1 : Int32} {l2 : Int32} {s sz : cx_S} {r : Int32} {Q : Int32 → cx_S → Prop} (h : D_H_unit f l0 l1 l2 s = some (r, sz)) (hq : Q r sz) : cx_Ti G me_H_unit [va_rf (some l0), .int (l1), .int (l2)] s Q := by
  refine cx_meti (by decide) (List.forall_mem_cons.mpr ⟨cx_cat, (List.forall_mem_cons.mpr ⟨rfl, (List.forall_mem_cons.mpr ⟨rfl, (fun _ q => nomatch q)⟩)⟩)⟩) (Nat.le_of_ble_eq_true rfl) ?_
  generalize hQ : (fun (v : bm_R) (s2 : cx_S) => ∃ x, v = .inl (some (.int x)) ∧ Q x s2) = Q2
  replace hq : Q2 (.inl (some (.int (r)))) sz := by rw [← hQ]; exact ⟨_, rfl, hq⟩
  clear hQ
  unfold D_H_unit at h
  refine cx_iload_n d_H_unit_0 rfl ?_
  refine cx_bipush (v := nI 6) d_H_unit_1 (by decide) ?_
  obtain ⟨x1, s2, ex1, h⟩ := ob_inv h
  refine cx_callS2 c_H_unit_3 (cx_hst (fun _ q => nomatch q) (Nat.le_of_ble_eq_true rfl)) (E_H_isBelow ex1 ?_)
  refine oj_step (P := fun J3 : cx_S → Option (Int32 × cx_S) => ∀ (s4 : cx_S) (d0 : Option Value) (d1 : Option Value) (d2 : Option Value), J3 s4 = some (r, sz) → cx G me_H_unit 30 [d0, d1, d2] [] s4 Q2) h ?_ ?_
  · intro s4 d0 d1 d2 h
    refine cx_iconst (v := nI 0) d_H_unit_30 (by decide) ?_
    exact cx_zret d_H_unit_31 rfl (by decide) (ox_i hq h)
  clear h
  intro J3 hJ1 h
  refine cx_if_eq (tgt := 30) d_H_unit_6 (by decide) (fun hc6 => ?_) (fun hc6 => ?_)
  · rw [if_pos hc6] at h
    exact hJ1 _ _ _ _ h
  · rw [if_neg hc6] at h
    refine cx_iload_n d_H_unit_9 rfl ?_
    refine cx_iconst (v := nI 3) d_H_unit_10 (by decide) ?_
    obtain ⟨x5, s6, ex5, h⟩ := ob_inv h
    refine cx_callS2 c_H_unit_11 (cx_hst (fun _ q => nomatch q) (Nat.le_of_ble_eq_true rfl)) (E_H_isBelow ex5 ?_)
    refine cx_if_eq (tgt := 30) d_H_unit_14 (by decide) (fun hc14 => ?_) (fun hc14 => ?_)
    · rw [if_pos hc14] at h
      exact hJ1 _ _ _ _ h
    · rw [if_neg hc14] at h
      refine cx_aload_n d_H_unit_17 rfl ?_
      obtain ⟨p7, ep7, hp7, h⟩ := oc_inv h
      refine cx_getr 5 rfl g_H_unit_18 rfl (by decide) ep7 hp7 ?_
      refine cx_iload_n d_H_unit_21 rfl ?_
      obtain ⟨a8, na8, j9, ea8, ha8, hj9, gj9, ej9, h⟩ := oa_inv h
      refine cx_aald (t := 5) 405 rfl d_H_unit_22 (by decide) rfl ea8 ha8 hj9 gj9 ej9 ?_
      obtain ⟨p10, ep10, hp10, h⟩ := oc_inv h
      refine cx_geti 161 rfl g_H_unit_23 rfl (by decide) ep10 hp10 ?_
      refine cx_iconst (v := (-1)) d_H_unit_26 (by decide) ?_
      refine cx_icmp_eq (tgt := 32) d_H_unit_27 (by decide) (fun hc27 => ?_) (fun hc27 => ?_)
      · rw [if_pos hc27] at h
        refine cx_aload_n d_H_unit_32 rfl ?_
        refine cx_getr 5 rfl g_H_unit_33 rfl (by decide) ep7 hp7 ?_
        refine cx_iload_n d_H_unit_36 rfl ?_
        refine cx_aald (t := 5) 405 rfl d_H_unit_37 (by decide) rfl ea8 ha8 hj9 gj9 ej9 ?_
        refine cx_iload_n d_H_unit_38 rfl ?_
        refine cx_puti 160 rfl p_H_unit_39 rfl (by decide) rfl rfl ep10 hp10 ?_
        refine cx_iconst (v := nI 1) d_H_unit_42 (by decide) ?_
        exact cx_zret d_H_unit_43 rfl (by decide) (ox_i hq h)
      · rw [if_neg hc27] at h
        exact hJ1 _ _ _ _ h
theorem E_H_isEditable {G : bm_G} {f : Nat} {l0 : Nat} {l1 : Int32} {s sz : cx_S} {r : Int32} {Q : Int32 → cx_S → Prop} (h : D_H_isEditable f l0 l1 s = some (r, sz)) (hq : Q r sz) : cx_Ti G me_H_isEditable [va_rf (some l0), .int (l1)] s Q := by
  refine cx_meti (by decide) (List.forall_mem_cons.mpr ⟨cx_cat, (List.forall_mem_cons.mpr ⟨rfl, (fun _ q => nomatch q)⟩)⟩) (Nat.le_of_ble_eq_true rfl) ?_
  generalize hQ : (fun (v : bm_R) (s2 : cx_S) => ∃ x, v = .inl (some (.int x)) ∧ Q x s2) = Q2
  replace hq : Q2 (.inl (some (.int (r)))) sz := by rw [← hQ]; exact ⟨_, rfl, hq⟩
  clear hQ
  unfold D_H_isEditable at h
  refine cx_iload_n d_H_isEditable_0 rfl ?_
  refine cx_iconst (v := nI 4) d_H_isEditable_1 (by decide) ?_
  obtain ⟨x1, s2, ex1, h⟩ := ob_inv h
  refine cx_callS2 c_H_isEditable_2 (cx_hst (fun _ q => nomatch q) (Nat.le_of_ble_eq_true rfl)) (E_H_isBelow ex1 ?_)
  refine oj_step (P := fun J3 : Int32 → Option (Int32 × cx_S) => ∀ (x4 : Int32) (d0 : Option Value) (d1 : Option Value), J3 x4 = some (r, sz) → cx G me_H_isEditable 25 [d0, d1] [.int (x4)] s2 Q2) h ?_ ?_
  · intro x4 d0 d1 h
    obtain ⟨hz, h⟩ := ozb_inv h
    exact cx_zret d_H_isEditable_25 rfl (ozb_nar hz) (ox_i hq h)
  clear h
  intro J3 hJ1 h
  refine oj_step (P := fun J5 : Unit → Option (Int32 × cx_S) => ∀ (_u : Unit) (d0 : Option Value) (d1 : Option Value), J5 () = some (r, sz) → cx G me_H_isEditable 24 [d0, d1] [] s2 Q2) h ?_ ?_
  · intro _u d0 d1 h
    refine cx_iconst (v := nI 0) d_H_isEditable_24 (by decide) ?_
    exact hJ1 _ _ _ h
  clear h
  intro J5 hJ2 h
  refine cx_if_eq (tgt := 24) d_H_isEditable_5 (by decide) (fun hc5 => ?_) (fun hc5 => ?_)
  · rw [if_pos hc5] at h
    exact hJ2 () _ _ h
  · rw [if_neg hc5] at h
    refine cx_aload_n d_H_isEditable_8 rfl ?_
    obtain ⟨p6, ep6, hp6, h⟩ := oc_inv h
    refine cx_getr 0 rfl g_H_isEditable_9 rfl (by decide) ep6 hp6 ?_
    refine cx_iload_n d_H_isEditable_12 rfl ?_
    obtain ⟨a7, na7, j8, ea7, ha7, hj8, gj8, ej8, h⟩ := oa_inv h
    refine cx_aald (t := 3) 403 rfl d_H_isEditable_13 (by decide) rfl ea7 ha7 hj8 gj8 ej8 ?_
    obtain ⟨p9, ep9, hp9, h⟩ := oc_inv h
    refine cx_geti 96 rfl g_H_isEditable_14 rfl (by decide) ep9 hp9 ?_
    refine cx_if_ne (tgt := 24) d_H_isEditable_17 (by decide) (fun hc17 => ?_) (fun hc17 => ?_)
    · rw [if_neg hc17] at h
      exact hJ2 () _ _ h
    · rw [if_pos hc17] at h
      refine cx_iconst (v := nI 1) d_H_isEditable_20 (by decide) ?_
      refine cx_goto (tgt := 25) d_H_isEditable_21 (by decide) ?_
      exact hJ1 _ _ _ h
theorem E_H_role {G : bm_G} {f : Nat} {l0 : Nat} {l1 : Int32} {l2 : Int32} {l3 : Int32} {s sz : cx_S} {r : Int32} {Q : Int32 → cx_S → Prop} (h : D_H_role f l0 l1 l2 l3 s = some (r, sz)) (hq : Q r sz) : cx_Ti G me_H_role [va_rf (some l0), .int (l1), .int (l2), .int (l3)] s Q := by
  refine cx_meti (by decide) (List.forall_mem_cons.mpr ⟨cx_cat, (List.forall_mem_cons.mpr ⟨rfl, (List.forall_mem_cons.mpr ⟨rfl, (List.forall_mem_cons.mpr ⟨rfl, (fun _ q => nomatch q)⟩)⟩)⟩)⟩) (Nat.le_of_ble_eq_true rfl) ?_
  generalize hQ : (fun (v : bm_R) (s2 : cx_S) => ∃ x, v = .inl (some (.int x)) ∧ Q x s2) = Q2
  replace hq : Q2 (.inl (some (.int (r)))) sz := by rw [← hQ]; exact ⟨_, rfl, hq⟩
  clear hQ
  unfold D_H_role at h
  refine cx_aload_n d_H_role_0 rfl ?_
  refine cx_iload_n d_H_role_1 rfl ?_
  obtain ⟨p1, ep1, hp1, h⟩ := oc_inv h
  obtain ⟨x2, s3, ex2, h⟩ := ob_inv h
  refine cx_callV1 c_H_role_2 (cx_hst (fun _ q => nomatch q) (Nat.le_of_ble_eq_true rfl)) (by decide) ep1 hp1 (E_H_isEditable ex2 ?_)
  refine oj_step (P := fun J4 : cx_S → Option (Int32 × cx_S) => ∀ (s5 : cx_S) (d0 : Option Value) (d1 : Option Value) (d2 : Option Value) (d3 : Option Value), J4 s5 = some (r, sz) → cx G me_H_role 16 [d0, d1, d2, d3] [] s5 Q2) h ?_ ?_
  · intro s5 d0 d1 d2 d3 h
    refine cx_iconst (v := nI 0) d_H_role_16 (by decide) ?_
    exact cx_zret d_H_role_17 rfl (by decide) (ox_i hq h)
  clear h
  intro J4 hJ1 h
  refine cx_if_eq (tgt := 16) d_H_role_5 (by decide) (fun hc5 => ?_) (fun hc5 => ?_)
  · rw [if_pos hc5] at h
    exact hJ1 _ _ _ _ _ h
  · rw [if_neg hc5] at h
    refine cx_iload_n d_H_role_8 rfl ?_
    refine cx_iconst (v := nI 3) d_H_role_9 (by decide) ?_
    obtain ⟨x6, s7, ex6, h⟩ := ob_inv h
    refine cx_callS2 c_H_role_10 (cx_hst (fun _ q => nomatch q) (Nat.le_of_ble_eq_true rfl)) (E_H_isBelow ex6 ?_)
    refine cx_if_ne (tgt := 18) d_H_role_13 (by decide) (fun hc13 => ?_) (fun hc13 => ?_)
    · rw [if_neg hc13] at h
      refine cx_iload_n d_H_role_18 rfl ?_
      refine cx_iconst (v := nI 3) d_H_role_19 (by decide) ?_
      obtain ⟨x8, s9, ex8, h⟩ := ob_inv h
      refine cx_callS2 c_H_role_20 (cx_hst (fun _ q => nomatch q) (Nat.le_of_ble_eq_true rfl)) (E_H_isBelow ex8 ?_)
      refine oj_step (P := fun J10 : Unit → Option (Int32 × cx_S) => ∀ (_u : Unit), J10 () = some (r, sz) → cx G me_H_role 33 [some (va_rf (some l0)), some (.int (l1)), some (.int (l2)), some (.int (l3))] [] s9 Q2) h ?_ ?_
      · intro _u h
        refine cx_aload_n d_H_role_33 rfl ?_
        obtain ⟨p11, ep11, hp11, h⟩ := oc_inv h
        refine cx_getr 0 rfl g_H_role_34 rfl (by decide) ep11 hp11 ?_
        refine cx_iload_n d_H_role_37 rfl ?_
        obtain ⟨a12, na12, j13, ea12, ha12, hj13, gj13, ej13, h⟩ := oa_inv h
        refine cx_aald (t := 3) 403 rfl d_H_role_38 (by decide) rfl ea12 ha12 hj13 gj13 ej13 ?_
        obtain ⟨p14, ep14, hp14, h⟩ := oc_inv h
        refine cx_getr 98 rfl g_H_role_39 rfl (by decide) ep14 hp14 ?_
        refine cx_iload_n d_H_role_42 rfl ?_
        refine cx_iload_n d_H_role_43 rfl ?_
        obtain ⟨a15, na15, j16, ea15, ha15, hj16, gj16, ej16, h⟩ := oa_inv h
        refine cx_iast d_H_role_44 ea15 ha15 hj16 gj16 ej16 ?_
        refine cx_iconst (v := nI 1) d_H_role_45 (by decide) ?_
        exact cx_zret d_H_role_46 rfl (by decide) (ox_i hq h)
      clear h
      intro J10 hJ2 h
      refine cx_if_ne (tgt := 33) d_H_role_23 (by decide) (fun hc23 => ?_) (fun hc23 => ?_)
      · rw [if_neg hc23] at h
        exact hJ2 () h
      · rw [if_pos hc23] at h
        refine cx_iload_n d_H_role_26 rfl ?_
        refine cx_iconst (v := nI 3) d_H_role_27 (by decide) ?_
        refine cx_icmp_eq (tgt := 33) d_H_role_28 (by decide) (fun hc28 => ?_) (fun hc28 => ?_)
        · rw [if_pos hc28] at h
          exact hJ2 () h
        · rw [if_neg hc28] at h
          refine cx_iconst (v := nI 0) d_H_role_31 (by decide) ?_
          exact cx_zret d_H_role_32 rfl (by decide) (ox_i hq h)
    · rw [if_pos hc13] at h
      exact hJ1 _ _ _ _ _ h
theorem E_S_init {G : bm_G} {f : Nat} {l0 : Nat} {l1 : Int32} {l2 : Int32} {l3 : Int32} {l4 : Int32} {s sz : cx_S} {r : Int32} {Q : cx_S → Prop} (h : D_S_init f l0 l1 l2 l3 l4 s = some (r, sz)) (hq : Q sz) : cx_Tv G me_S_init [va_rf (some l0), .int (l1), .int (l2), .int (l3), .int (l4)] s Q := by
  refine cx_metv (by decide) (List.forall_mem_cons.mpr ⟨cx_cat, (List.forall_mem_cons.mpr ⟨rfl, (List.forall_mem_cons.mpr ⟨rfl, (List.forall_mem_cons.mpr ⟨rfl, (List.forall_mem_cons.mpr ⟨rfl, (fun _ q => nomatch q)⟩)⟩)⟩)⟩)⟩) (Nat.le_of_ble_eq_true rfl) ?_
  generalize hQ : (fun (v : bm_R) (s2 : cx_S) => v = .inl none ∧ Q s2) = Q2
  replace hq : Q2 (.inl none) sz := by rw [← hQ]; exact ⟨rfl, hq⟩
  clear hQ
  unfold D_S_init at h
  refine cx_aload_n d_S_init_0 rfl ?_
  refine cx_objInit c_S_init_1 (cx_hst (fun _ q => nomatch q) (Nat.le_of_ble_eq_true rfl)) rfl ?_
  refine cx_aload_n d_S_init_4 rfl ?_
  refine cx_iconst (v := (-1)) d_S_init_5 (by decide) ?_
  obtain ⟨p1, ep1, hp1, h⟩ := oc_inv h
  refine cx_puti 132 rfl p_S_init_6 rfl (by decide) rfl rfl ep1 hp1 ?_
  refine cx_aload_n d_S_init_9 rfl ?_
  refine cx_iconst (v := (-1)) d_S_init_10 (by decide) ?_
  refine cx_puti 133 rfl p_S_init_11 rfl (by decide) rfl rfl ep1 hp1 ?_
  refine cx_aload_n d_S_init_14 rfl ?_
  refine cx_iload_n d_S_init_15 rfl ?_
  refine cx_puti 128 rfl p_S_init_16 rfl (by decide) rfl rfl ep1 hp1 ?_
  refine cx_aload_n d_S_init_19 rfl ?_
  refine cx_iload_n d_S_init_20 rfl ?_
  refine cx_puti 129 rfl p_S_init_21 rfl (by decide) rfl rfl ep1 hp1 ?_
  refine cx_aload_n d_S_init_24 rfl ?_
  refine cx_iload_n d_S_init_25 rfl ?_
  refine cx_puti 130 rfl p_S_init_26 rfl (by decide) rfl rfl ep1 hp1 ?_
  refine cx_aload_n d_S_init_29 rfl ?_
  refine cx_iload d_S_init_30 rfl ?_
  refine cx_puti 131 rfl p_S_init_32 rfl (by decide) rfl rfl ep1 hp1 ?_
  exact cx_vret d_S_init_35 rfl (ox_v hq h)
theorem E_R_append {G : bm_G} {f : Nat} {l0 : Nat} {l1 : Option Nat} {s sz : cx_S} {r : Int32} {Q : Int32 → cx_S → Prop} (h : D_R_append f l0 l1 s = some (r, sz)) (hq : Q r sz) : cx_Ti G me_R_append [va_rf (some l0), va_rf (l1)] s Q := by
  refine cx_meti (by decide) (List.forall_mem_cons.mpr ⟨cx_cat, (List.forall_mem_cons.mpr ⟨cx_cat, (fun _ q => nomatch q)⟩)⟩) (Nat.le_of_ble_eq_true rfl) ?_
  generalize hQ : (fun (v : bm_R) (s2 : cx_S) => ∃ x, v = .inl (some (.int x)) ∧ Q x s2) = Q2
  replace hq : Q2 (.inl (some (.int (r)))) sz := by rw [← hQ]; exact ⟨_, rfl, hq⟩
  clear hQ
  unfold D_R_append at h
  refine cx_aload_n d_R_append_0 rfl ?_
  obtain ⟨p1, ep1, hp1, h⟩ := oc_inv h
  refine cx_geti 97 rfl g_R_append_1 rfl (by decide) ep1 hp1 ?_
  refine cx_istore_n d_R_append_4 (by decide) ?_
  refine cx_aload_n d_R_append_5 rfl ?_
  refine cx_getr 99 rfl g_R_append_6 rfl (by decide) ep1 hp1 ?_
  refine cx_iload_n d_R_append_9 rfl ?_
  refine cx_aload_n d_R_append_10 rfl ?_
  obtain ⟨p2, ep2, hp2, h⟩ := oc_inv h
  obtain ⟨a3, na3, j4, ea3, ha3, hj4, gj4, ej4, h⟩ := oa_inv h
  refine cx_aast (t := 7) (ci := 8) 407 rfl d_R_append_11 (by decide) rfl rfl (by decide) ep2 hp2 ea3 ha3 hj4 gj4 ej4 ?_
  refine cx_aload_n d_R_append_12 rfl ?_
  refine cx_dup d_R_append_13 (by first | rfl | exact cx_cat) ?_
  refine cx_geti 97 rfl g_R_append_14 rfl (by decide) ep1 hp1 ?_
  refine cx_iconst (v := nI 1) d_R_append_17 (by decide) ?_
  refine cx_iadd d_R_append_18 ?_
  refine cx_puti 97 rfl p_R_append_19 rfl (by decide) rfl rfl ep1 hp1 ?_
  refine cx_iload_n d_R_append_22 rfl ?_
  exact cx_iret d_R_append_23 rfl (ox_i hq h)
theorem E_H_step {G : bm_G} {f : Nat} {l0 : Nat} {l1 : Int32} {l2 : Int32} {l3 : Int32} {l4 : Int32} {l5 : Int32} {s sz : cx_S} {r : Int32} {Q : Int32 → cx_S → Prop} (h : D_H_step f l0 l1 l2 l3 l4 l5 s = some (r, sz)) (hq : Q r sz) : cx_Ti G me_H_step [va_rf (some l0), .int (l1), .int (l2), .int (l3), .int (l4), .int (l5)] s Q := by
  refine cx_meti (by decide) (List.forall_mem_cons.mpr ⟨cx_cat, (List.forall_mem_cons.mpr ⟨rfl, (List.forall_mem_cons.mpr ⟨rfl, (List.forall_mem_cons.mpr ⟨rfl, (List.forall_mem_cons.mpr ⟨rfl, (List.forall_mem_cons.mpr ⟨rfl, (fun _ q => nomatch q)⟩)⟩)⟩)⟩)⟩)⟩) (Nat.le_of_ble_eq_true rfl) ?_
  generalize hQ : (fun (v : bm_R) (s2 : cx_S) => ∃ x, v = .inl (some (.int x)) ∧ Q x s2) = Q2
  replace hq : Q2 (.inl (some (.int (r)))) sz := by rw [← hQ]; exact ⟨_, rfl, hq⟩
  clear hQ
  unfold D_H_step at h
  refine cx_aload_n d_H_step_0 rfl ?_
  refine cx_iload_n d_H_step_1 rfl ?_
  obtain ⟨p1, ep1, hp1, h⟩ := oc_inv h
  obtain ⟨x2, s3, ex2, h⟩ := ob_inv h
  refine cx_callV1 c_H_step_2 (cx_hst (fun _ q => nomatch q) (Nat.le_of_ble_eq_true rfl)) (by decide) ep1 hp1 (E_H_isEditable ex2 ?_)
  refine oj_step (P := fun J4 : cx_S → Option (Int32 × cx_S) => ∀ (s5 : cx_S) (d0 : Option Value) (d1 : Option Value) (d2 : Option Value) (d3 : Option Value) (d4 : Option Value) (d5 : Option Value), J4 s5 = some (r, sz) → cx G me_H_step 31 [d0, d1, d2, d3, d4, d5] [] s5 Q2) h ?_ ?_
  · intro s5 d0 d1 d2 d3 d4 d5 h
    refine cx_iconst (v := (-1)) d_H_step_31 (by decide) ?_
    exact cx_iret d_H_step_32 rfl (ox_i hq h)
  clear h
  intro J4 hJ1 h
  refine cx_if_eq (tgt := 31) d_H_step_5 (by decide) (fun hc5 => ?_) (fun hc5 => ?_)
  · rw [if_pos hc5] at h
    exact hJ1 _ _ _ _ _ _ _ h
  · rw [if_neg hc5] at h
    refine cx_iload_n d_H_step_8 rfl ?_
    refine cx_bipush (v := nI 10) d_H_step_9 (by decide) ?_
    obtain ⟨x6, s7, ex6, h⟩ := ob_inv h
    refine cx_callS2 c_H_step_11 (cx_hst (fun _ q => nomatch q) (Nat.le_of_ble_eq_true rfl)) (E_H_isBelow ex6 ?_)
    refine cx_if_eq (tgt := 31) d_H_step_14 (by decide) (fun hc14 => ?_) (fun hc14 => ?_)
    · rw [if_pos hc14] at h
      exact hJ1 _ _ _ _ _ _ _ h
    · rw [if_neg hc14] at h
      refine cx_aload_n d_H_step_17 rfl ?_
      obtain ⟨p8, ep8, hp8, h⟩ := oc_inv h
      refine cx_getr 0 rfl g_H_step_18 rfl (by decide) ep8 hp8 ?_
      refine cx_iload_n d_H_step_21 rfl ?_
      obtain ⟨a9, na9, j10, ea9, ha9, hj10, gj10, ej10, h⟩ := oa_inv h
      refine cx_aald (t := 3) 403 rfl d_H_step_22 (by decide) rfl ea9 ha9 hj10 gj10 ej10 ?_
      obtain ⟨p11, ep11, hp11, h⟩ := oc_inv h
      refine cx_geti 97 rfl g_H_step_23 rfl (by decide) ep11 hp11 ?_
      refine cx_bipush (v := nI 12) d_H_step_26 (by decide) ?_
      refine cx_icmp_lt (tgt := 33) d_H_step_28 (by decide) (fun hc28 => ?_) (fun hc28 => ?_)
      · rw [if_pos hc28] at h
        refine cx_aload_n d_H_step_33 rfl ?_
        refine cx_getr 0 rfl g_H_step_34 rfl (by decide) ep8 hp8 ?_
        refine cx_iload_n d_H_step_37 rfl ?_
        refine cx_aald (t := 3) 403 rfl d_H_step_38 (by decide) rfl ea9 ha9 hj10 gj10 ej10 ?_
        obtain ⟨hn39, h⟩ := on_inv h
        refine cx_new (z := 6) n_H_step_39 (by decide) hn39.2 hn39.1 rfl (by decide) ?_
        refine cx_dup d_H_step_42 (by first | rfl | exact cx_cat) ?_
        refine cx_iload_n d_H_step_43 rfl ?_
        refine cx_iload_n d_H_step_44 rfl ?_
        refine cx_iload d_H_step_45 rfl ?_
        refine cx_iload d_H_step_47 rfl ?_
        obtain ⟨x12, s13, ex12, h⟩ := ob_inv h
        refine cx_callI4v c_H_step_49 (cx_hst (List.forall_mem_cons.mpr ⟨cx_cat, (List.forall_mem_cons.mpr ⟨cx_cat, (fun _ q => nomatch q)⟩)⟩) (Nat.le_of_ble_eq_true rfl)) rfl (E_S_init ex12 ?_)
        obtain ⟨p14, ep14, hp14, h⟩ := oc_inv h
        obtain ⟨x15, s16, ex15, h⟩ := ob_inv h
        refine cx_callV1 c_H_step_52 (cx_hst (fun _ q => nomatch q) (Nat.le_of_ble_eq_true rfl)) (by decide) ep14 hp14 (E_R_append ex15 ?_)
        exact cx_iret d_H_step_55 rfl (ox_i hq h)
      · rw [if_neg hc28] at h
        exact hJ1 _ _ _ _ _ _ _ h
