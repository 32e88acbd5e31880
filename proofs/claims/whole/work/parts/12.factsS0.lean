theorem d_S_init_0 : decode me_S_init.2.1 0 = .ok (.aload_n 0, 1) := by decide +kernel
theorem d_S_init_1 : decode me_S_init.2.1 1 = .ok (.invokespecial 3, 3) := by decide +kernel
theorem c_S_init_1 : bm_io me_S_init 1 := ⟨_, d_S_init_1, ml_S_3, ki_obj, kc_obj, by decide, by decide⟩
theorem d_S_init_4 : decode me_S_init.2.1 4 = .ok (.aload_n 0, 1) := by decide +kernel
theorem d_S_init_5 : decode me_S_init.2.1 5 = .ok (.iconst (-1), 1) := by decide +kernel
theorem d_S_init_6 : decode me_S_init.2.1 6 = .ok (.putfield 9, 3) := by decide +kernel
theorem p_S_init_6 : bm_pf me_S_init 6 8 4 .int := ⟨_, _, _, _, ty_S, d_S_init_6, rfl, by decide, uw_S, fl_S_9, tk_S, nm_S, rfl, Or.inl rfl⟩
theorem d_S_init_9 : decode me_S_init.2.1 9 = .ok (.aload_n 0, 1) := by decide +kernel
theorem d_S_init_10 : decode me_S_init.2.1 10 = .ok (.iconst (-1), 1) := by decide +kernel
theorem d_S_init_11 : decode me_S_init.2.1 11 = .ok (.putfield 15, 3) := by decide +kernel
theorem p_S_init_11 : bm_pf me_S_init 11 8 5 .int := ⟨_, _, _, _, ty_S, d_S_init_11, rfl, by decide, uw_S, fl_S_15, tk_S, nm_S, rfl, Or.inl rfl⟩
theorem d_S_init_14 : decode me_S_init.2.1 14 = .ok (.aload_n 0, 1) := by decide +kernel
theorem d_S_init_15 : decode me_S_init.2.1 15 = .ok (.iload_n 1, 1) := by decide +kernel
theorem d_S_init_16 : decode me_S_init.2.1 16 = .ok (.putfield 18, 3) := by decide +kernel
theorem p_S_init_16 : bm_pf me_S_init 16 8 0 .int := ⟨_, _, _, _, ty_S, d_S_init_16, rfl, by decide, uw_S, fl_S_18, tk_S, nm_S, rfl, Or.inr ⟨rfl, rfl, rfl⟩⟩
theorem d_S_init_19 : decode me_S_init.2.1 19 = .ok (.aload_n 0, 1) := by decide +kernel
theorem d_S_init_20 : decode me_S_init.2.1 20 = .ok (.iload_n 2, 1) := by decide +kernel
theorem d_S_init_21 : decode me_S_init.2.1 21 = .ok (.putfield 21, 3) := by decide +kernel
theorem p_S_init_21 : bm_pf me_S_init 21 8 1 .int := ⟨_, _, _, _, ty_S, d_S_init_21, rfl, by decide, uw_S, fl_S_21, tk_S, nm_S, rfl, Or.inr ⟨rfl, rfl, rfl⟩⟩
theorem d_S_init_24 : decode me_S_init.2.1 24 = .ok (.aload_n 0, 1) := by decide +kernel
theorem d_S_init_25 : decode me_S_init.2.1 25 = .ok (.iload_n 3, 1) := by decide +kernel
theorem d_S_init_26 : decode me_S_init.2.1 26 = .ok (.putfield 24, 3) := by decide +kernel
theorem p_S_init_26 : bm_pf me_S_init 26 8 2 .int := ⟨_, _, _, _, ty_S, d_S_init_26, rfl, by decide, uw_S, fl_S_24, tk_S, nm_S, rfl, Or.inr ⟨rfl, rfl, rfl⟩⟩
theorem d_S_init_29 : decode me_S_init.2.1 29 = .ok (.aload_n 0, 1) := by decide +kernel
theorem d_S_init_30 : decode me_S_init.2.1 30 = .ok (.iload 4, 2) := by decide +kernel
theorem d_S_init_32 : decode me_S_init.2.1 32 = .ok (.putfield 27, 3) := by decide +kernel
theorem p_S_init_32 : bm_pf me_S_init 32 8 3 .int := ⟨_, _, _, _, ty_S, d_S_init_32, rfl, by decide, uw_S, fl_S_27, tk_S, nm_S, rfl, Or.inr ⟨rfl, rfl, rfl⟩⟩
theorem d_S_init_35 : decode me_S_init.2.1 35 = .ok (.return_, 1) := by decide +kernel
theorem d_S_usesRole_0 : decode me_S_usesRole.2.1 0 = .ok (.aload_n 0, 1) := by decide +kernel
theorem d_S_usesRole_1 : decode me_S_usesRole.2.1 1 = .ok (.getfield 18, 3) := by decide +kernel
theorem g_S_usesRole_1 : bm_gf me_S_usesRole 1 8 0 := ⟨_, _, _, _, d_S_usesRole_1, rfl, by decide, uw_S, fl_S_18⟩
theorem d_S_usesRole_4 : decode me_S_usesRole.2.1 4 = .ok (.iconst 4, 1) := by decide +kernel
theorem d_S_usesRole_5 : decode me_S_usesRole.2.1 5 = .ok (.if_icmp .gt (31), 3) := by decide +kernel
theorem d_S_usesRole_8 : decode me_S_usesRole.2.1 8 = .ok (.aload_n 0, 1) := by decide +kernel
theorem d_S_usesRole_9 : decode me_S_usesRole.2.1 9 = .ok (.getfield 21, 3) := by decide +kernel
theorem g_S_usesRole_9 : bm_gf me_S_usesRole 9 8 1 := ⟨_, _, _, _, d_S_usesRole_9, rfl, by decide, uw_S, fl_S_21⟩
theorem d_S_usesRole_12 : decode me_S_usesRole.2.1 12 = .ok (.iload_n 1, 1) := by decide +kernel
theorem d_S_usesRole_13 : decode me_S_usesRole.2.1 13 = .ok (.if_icmp .eq (19), 3) := by decide +kernel
theorem d_S_usesRole_16 : decode me_S_usesRole.2.1 16 = .ok (.aload_n 0, 1) := by decide +kernel
theorem d_S_usesRole_17 : decode me_S_usesRole.2.1 17 = .ok (.getfield 18, 3) := by decide +kernel
theorem g_S_usesRole_17 : bm_gf me_S_usesRole 17 8 0 := ⟨_, _, _, _, d_S_usesRole_17, rfl, by decide, uw_S, fl_S_18⟩
theorem d_S_usesRole_20 : decode me_S_usesRole.2.1 20 = .ok (.iconst 2, 1) := by decide +kernel
theorem d_S_usesRole_21 : decode me_S_usesRole.2.1 21 = .ok (.if_icmp .ne (15), 3) := by decide +kernel
theorem d_S_usesRole_24 : decode me_S_usesRole.2.1 24 = .ok (.aload_n 0, 1) := by decide +kernel
theorem d_S_usesRole_25 : decode me_S_usesRole.2.1 25 = .ok (.getfield 24, 3) := by decide +kernel
theorem g_S_usesRole_25 : bm_gf me_S_usesRole 25 8 2 := ⟨_, _, _, _, d_S_usesRole_25, rfl, by decide, uw_S, fl_S_24⟩
theorem d_S_usesRole_28 : decode me_S_usesRole.2.1 28 = .ok (.iload_n 1, 1) := by decide +kernel
theorem d_S_usesRole_29 : decode me_S_usesRole.2.1 29 = .ok (.if_icmp .ne (7), 3) := by decide +kernel
theorem d_S_usesRole_32 : decode me_S_usesRole.2.1 32 = .ok (.iconst 1, 1) := by decide +kernel
theorem d_S_usesRole_33 : decode me_S_usesRole.2.1 33 = .ok (.goto (4), 3) := by decide +kernel
theorem d_S_usesRole_36 : decode me_S_usesRole.2.1 36 = .ok (.iconst 0, 1) := by decide +kernel
theorem d_S_usesRole_37 : decode me_S_usesRole.2.1 37 = .ok (.ireturn, 1) := by decide +kernel
theorem d_S_wayOut_0 : decode me_S_wayOut.2.1 0 = .ok (.iload_n 1, 1) := by decide +kernel
theorem d_S_wayOut_1 : decode me_S_wayOut.2.1 1 = .ok (.ifCond .eq (38), 3) := by decide +kernel
theorem d_S_wayOut_4 : decode me_S_wayOut.2.1 4 = .ok (.aload_n 0, 1) := by decide +kernel
theorem d_S_wayOut_5 : decode me_S_wayOut.2.1 5 = .ok (.getfield 18, 3) := by decide +kernel
theorem g_S_wayOut_5 : bm_gf me_S_wayOut 5 8 0 := ⟨_, _, _, _, d_S_wayOut_5, rfl, by decide, uw_S, fl_S_18⟩
theorem d_S_wayOut_8 : decode me_S_wayOut.2.1 8 = .ok (.iconst 5, 1) := by decide +kernel
theorem d_S_wayOut_9 : decode me_S_wayOut.2.1 9 = .ok (.if_icmp .eq (21), 3) := by decide +kernel
theorem d_S_wayOut_12 : decode me_S_wayOut.2.1 12 = .ok (.aload_n 0, 1) := by decide +kernel
theorem d_S_wayOut_13 : decode me_S_wayOut.2.1 13 = .ok (.getfield 18, 3) := by decide +kernel
theorem g_S_wayOut_13 : bm_gf me_S_wayOut 13 8 0 := ⟨_, _, _, _, d_S_wayOut_13, rfl, by decide, uw_S, fl_S_18⟩
theorem d_S_wayOut_16 : decode me_S_wayOut.2.1 16 = .ok (.bipush (7), 2) := by decide +kernel
theorem d_S_wayOut_18 : decode me_S_wayOut.2.1 18 = .ok (.if_icmp .eq (12), 3) := by decide +kernel
theorem d_S_wayOut_21 : decode me_S_wayOut.2.1 21 = .ok (.aload_n 0, 1) := by decide +kernel
theorem d_S_wayOut_22 : decode me_S_wayOut.2.1 22 = .ok (.getfield 18, 3) := by decide +kernel
theorem g_S_wayOut_22 : bm_gf me_S_wayOut 22 8 0 := ⟨_, _, _, _, d_S_wayOut_22, rfl, by decide, uw_S, fl_S_18⟩
theorem d_S_wayOut_25 : decode me_S_wayOut.2.1 25 = .ok (.bipush (8), 2) := by decide +kernel
theorem d_S_wayOut_27 : decode me_S_wayOut.2.1 27 = .ok (.if_icmp .ne (10), 3) := by decide +kernel
theorem d_S_wayOut_30 : decode me_S_wayOut.2.1 30 = .ok (.aload_n 0, 1) := by decide +kernel
theorem d_S_wayOut_31 : decode me_S_wayOut.2.1 31 = .ok (.getfield 15, 3) := by decide +kernel
theorem g_S_wayOut_31 : bm_gf me_S_wayOut 31 8 5 := ⟨_, _, _, _, d_S_wayOut_31, rfl, by decide, uw_S, fl_S_15⟩
theorem d_S_wayOut_34 : decode me_S_wayOut.2.1 34 = .ok (.goto (4), 3) := by decide +kernel
theorem d_S_wayOut_37 : decode me_S_wayOut.2.1 37 = .ok (.iconst (-1), 1) := by decide +kernel
theorem d_S_wayOut_38 : decode me_S_wayOut.2.1 38 = .ok (.ireturn, 1) := by decide +kernel
theorem d_S_wayOut_39 : decode me_S_wayOut.2.1 39 = .ok (.aload_n 0, 1) := by decide +kernel
theorem d_S_wayOut_40 : decode me_S_wayOut.2.1 40 = .ok (.getfield 18, 3) := by decide +kernel
theorem g_S_wayOut_40 : bm_gf me_S_wayOut 40 8 0 := ⟨_, _, _, _, d_S_wayOut_40, rfl, by decide, uw_S, fl_S_18⟩
theorem d_S_wayOut_43 : decode me_S_wayOut.2.1 43 = .ok (.bipush (9), 2) := by decide +kernel
theorem d_S_wayOut_45 : decode me_S_wayOut.2.1 45 = .ok (.if_icmp .ne (7), 3) := by decide +kernel
theorem d_S_wayOut_48 : decode me_S_wayOut.2.1 48 = .ok (.iconst (-1), 1) := by decide +kernel
theorem d_S_wayOut_49 : decode me_S_wayOut.2.1 49 = .ok (.goto (7), 3) := by decide +kernel
theorem d_S_wayOut_52 : decode me_S_wayOut.2.1 52 = .ok (.aload_n 0, 1) := by decide +kernel
theorem d_S_wayOut_53 : decode me_S_wayOut.2.1 53 = .ok (.getfield 9, 3) := by decide +kernel
theorem g_S_wayOut_53 : bm_gf me_S_wayOut 53 8 4 := ⟨_, _, _, _, d_S_wayOut_53, rfl, by decide, uw_S, fl_S_9⟩
theorem d_S_wayOut_56 : decode me_S_wayOut.2.1 56 = .ok (.ireturn, 1) := by decide +kernel
