theorem d_R_init_0 : decode me_R_init.2.1 0 = .ok (.aload_n 0, 1) := by decide +kernel
theorem d_R_init_1 : decode me_R_init.2.1 1 = .ok (.invokespecial 3, 3) := by decide +kernel
theorem c_R_init_1 : bm_io me_R_init 1 := ⟨_, d_R_init_1, ml_R_3, ki_obj, kc_obj, by decide, by decide⟩
theorem d_R_init_4 : decode me_R_init.2.1 4 = .ok (.aload_n 0, 1) := by decide +kernel
theorem d_R_init_5 : decode me_R_init.2.1 5 = .ok (.iconst 3, 1) := by decide +kernel
theorem d_R_init_6 : decode me_R_init.2.1 6 = .ok (.newarray .int, 2) := by decide +kernel
theorem n_R_init_6 : bm_na me_R_init 6 0 .int := ⟨_, d_R_init_6, rfl, ac_int, rfl, by decide⟩
theorem d_R_init_8 : decode me_R_init.2.1 8 = .ok (.dup, 1) := by decide +kernel
theorem d_R_init_9 : decode me_R_init.2.1 9 = .ok (.iconst 0, 1) := by decide +kernel
theorem d_R_init_10 : decode me_R_init.2.1 10 = .ok (.iconst 3, 1) := by decide +kernel
theorem d_R_init_11 : decode me_R_init.2.1 11 = .ok (.iastore, 1) := by decide +kernel
theorem d_R_init_12 : decode me_R_init.2.1 12 = .ok (.dup, 1) := by decide +kernel
theorem d_R_init_13 : decode me_R_init.2.1 13 = .ok (.iconst 1, 1) := by decide +kernel
theorem d_R_init_14 : decode me_R_init.2.1 14 = .ok (.iconst 3, 1) := by decide +kernel
theorem d_R_init_15 : decode me_R_init.2.1 15 = .ok (.iastore, 1) := by decide +kernel
theorem d_R_init_16 : decode me_R_init.2.1 16 = .ok (.dup, 1) := by decide +kernel
theorem d_R_init_17 : decode me_R_init.2.1 17 = .ok (.iconst 2, 1) := by decide +kernel
theorem d_R_init_18 : decode me_R_init.2.1 18 = .ok (.iconst 3, 1) := by decide +kernel
theorem d_R_init_19 : decode me_R_init.2.1 19 = .ok (.iastore, 1) := by decide +kernel
theorem d_R_init_20 : decode me_R_init.2.1 20 = .ok (.putfield 9, 3) := by decide +kernel
theorem p_R_init_20 : bm_pf me_R_init 20 6 2 (.array .int) := ⟨_, _, _, _, ty_R, d_R_init_20, rfl, by decide, uw_R, fl_R_9, tk_R, nm_R, rfl, Or.inr ⟨rfl, rfl, rfl⟩⟩
theorem d_R_init_23 : decode me_R_init.2.1 23 = .ok (.aload_n 0, 1) := by decide +kernel
theorem d_R_init_24 : decode me_R_init.2.1 24 = .ok (.bipush (12), 2) := by decide +kernel
theorem d_R_init_26 : decode me_R_init.2.1 26 = .ok (.anewarray 15, 3) := by decide +kernel
theorem n_R_init_26 : bm_nq me_R_init 26 7 := ⟨_, _, d_R_init_26, lc_R_15, by decide +kernel, rfl⟩
theorem d_R_init_29 : decode me_R_init.2.1 29 = .ok (.putfield 17, 3) := by decide +kernel
theorem p_R_init_29 : bm_pf me_R_init 29 6 3 (.array (.object "BatchHall$Step")) := ⟨_, _, _, _, ty_R, d_R_init_29, rfl, by decide, uw_R, fl_R_17, tk_R, nm_R, rfl, Or.inr ⟨rfl, rfl, rfl⟩⟩
theorem d_R_init_32 : decode me_R_init.2.1 32 = .ok (.return_, 1) := by decide +kernel
theorem d_R_append_0 : decode me_R_append.2.1 0 = .ok (.aload_n 0, 1) := by decide +kernel
theorem d_R_append_1 : decode me_R_append.2.1 1 = .ok (.getfield 21, 3) := by decide +kernel
theorem g_R_append_1 : bm_gf me_R_append 1 6 1 := ⟨_, _, _, _, d_R_append_1, rfl, by decide, uw_R, fl_R_21⟩
theorem d_R_append_4 : decode me_R_append.2.1 4 = .ok (.istore_n 2, 1) := by decide +kernel
theorem d_R_append_5 : decode me_R_append.2.1 5 = .ok (.aload_n 0, 1) := by decide +kernel
theorem d_R_append_6 : decode me_R_append.2.1 6 = .ok (.getfield 17, 3) := by decide +kernel
theorem g_R_append_6 : bm_gf me_R_append 6 6 3 := ⟨_, _, _, _, d_R_append_6, rfl, by decide, uw_R, fl_R_17⟩
theorem d_R_append_9 : decode me_R_append.2.1 9 = .ok (.iload_n 2, 1) := by decide +kernel
theorem d_R_append_10 : decode me_R_append.2.1 10 = .ok (.aload_n 1, 1) := by decide +kernel
theorem d_R_append_11 : decode me_R_append.2.1 11 = .ok (.aastore, 1) := by decide +kernel
theorem d_R_append_12 : decode me_R_append.2.1 12 = .ok (.aload_n 0, 1) := by decide +kernel
theorem d_R_append_13 : decode me_R_append.2.1 13 = .ok (.dup, 1) := by decide +kernel
theorem d_R_append_14 : decode me_R_append.2.1 14 = .ok (.getfield 21, 3) := by decide +kernel
theorem g_R_append_14 : bm_gf me_R_append 14 6 1 := ⟨_, _, _, _, d_R_append_14, rfl, by decide, uw_R, fl_R_21⟩
theorem d_R_append_17 : decode me_R_append.2.1 17 = .ok (.iconst 1, 1) := by decide +kernel
theorem d_R_append_18 : decode me_R_append.2.1 18 = .ok (.iadd, 1) := by decide +kernel
theorem d_R_append_19 : decode me_R_append.2.1 19 = .ok (.putfield 21, 3) := by decide +kernel
theorem p_R_append_19 : bm_pf me_R_append 19 6 1 .int := ⟨_, _, _, _, ty_R, d_R_append_19, rfl, by decide, uw_R, fl_R_21, tk_R, nm_R, rfl, Or.inl rfl⟩
theorem d_R_append_22 : decode me_R_append.2.1 22 = .ok (.iload_n 2, 1) := by decide +kernel
theorem d_R_append_23 : decode me_R_append.2.1 23 = .ok (.ireturn, 1) := by decide +kernel
theorem d_R_countRoles_0 : decode me_R_countRoles.2.1 0 = .ok (.iconst 0, 1) := by decide +kernel
theorem d_R_countRoles_1 : decode me_R_countRoles.2.1 1 = .ok (.istore_n 2, 1) := by decide +kernel
theorem d_R_countRoles_2 : decode me_R_countRoles.2.1 2 = .ok (.iconst 0, 1) := by decide +kernel
theorem d_R_countRoles_3 : decode me_R_countRoles.2.1 3 = .ok (.istore_n 3, 1) := by decide +kernel
theorem d_R_countRoles_4 : decode me_R_countRoles.2.1 4 = .ok (.iload_n 3, 1) := by decide +kernel
theorem d_R_countRoles_5 : decode me_R_countRoles.2.1 5 = .ok (.iconst 3, 1) := by decide +kernel
theorem d_R_countRoles_6 : decode me_R_countRoles.2.1 6 = .ok (.if_icmp .ge (22), 3) := by decide +kernel
theorem d_R_countRoles_9 : decode me_R_countRoles.2.1 9 = .ok (.aload_n 0, 1) := by decide +kernel
theorem d_R_countRoles_10 : decode me_R_countRoles.2.1 10 = .ok (.getfield 9, 3) := by decide +kernel
theorem g_R_countRoles_10 : bm_gf me_R_countRoles 10 6 2 := ⟨_, _, _, _, d_R_countRoles_10, rfl, by decide, uw_R, fl_R_9⟩
theorem d_R_countRoles_13 : decode me_R_countRoles.2.1 13 = .ok (.iload_n 3, 1) := by decide +kernel
theorem d_R_countRoles_14 : decode me_R_countRoles.2.1 14 = .ok (.iaload, 1) := by decide +kernel
theorem d_R_countRoles_15 : decode me_R_countRoles.2.1 15 = .ok (.iload_n 1, 1) := by decide +kernel
theorem d_R_countRoles_16 : decode me_R_countRoles.2.1 16 = .ok (.if_icmp .ne (6), 3) := by decide +kernel
theorem d_R_countRoles_19 : decode me_R_countRoles.2.1 19 = .ok (.iinc 2 (1), 3) := by decide +kernel
theorem d_R_countRoles_22 : decode me_R_countRoles.2.1 22 = .ok (.iinc 3 (1), 3) := by decide +kernel
theorem d_R_countRoles_25 : decode me_R_countRoles.2.1 25 = .ok (.goto (-21), 3) := by decide +kernel
theorem d_R_countRoles_28 : decode me_R_countRoles.2.1 28 = .ok (.iload_n 2, 1) := by decide +kernel
theorem d_R_countRoles_29 : decode me_R_countRoles.2.1 29 = .ok (.ireturn, 1) := by decide +kernel
theorem d_R_hasRole_0 : decode me_R_hasRole.2.1 0 = .ok (.iload_n 1, 1) := by decide +kernel
theorem d_R_hasRole_1 : decode me_R_hasRole.2.1 1 = .ok (.iconst 3, 1) := by decide +kernel
theorem d_R_hasRole_2 : decode me_R_hasRole.2.1 2 = .ok (.invokestatic 25, 3) := by decide +kernel
theorem c_R_hasRole_2 : bm_is me_R_hasRole me_H_isBelow 2 2 := ⟨_, d_R_hasRole_2, Or.inr ⟨"BatchHall", by decide +kernel⟩, ⟨kc_H_isBelow, in_BatchHall, by decide +kernel, by decide, by decide⟩, kt_H_isBelow⟩
theorem d_R_hasRole_5 : decode me_R_hasRole.2.1 5 = .ok (.ifCond .eq (17), 3) := by decide +kernel
theorem d_R_hasRole_8 : decode me_R_hasRole.2.1 8 = .ok (.aload_n 0, 1) := by decide +kernel
theorem d_R_hasRole_9 : decode me_R_hasRole.2.1 9 = .ok (.getfield 9, 3) := by decide +kernel
theorem g_R_hasRole_9 : bm_gf me_R_hasRole 9 6 2 := ⟨_, _, _, _, d_R_hasRole_9, rfl, by decide, uw_R, fl_R_9⟩
theorem d_R_hasRole_12 : decode me_R_hasRole.2.1 12 = .ok (.iload_n 1, 1) := by decide +kernel
theorem d_R_hasRole_13 : decode me_R_hasRole.2.1 13 = .ok (.iaload, 1) := by decide +kernel
theorem d_R_hasRole_14 : decode me_R_hasRole.2.1 14 = .ok (.iconst 3, 1) := by decide +kernel
theorem d_R_hasRole_15 : decode me_R_hasRole.2.1 15 = .ok (.if_icmp .eq (7), 3) := by decide +kernel
theorem d_R_hasRole_18 : decode me_R_hasRole.2.1 18 = .ok (.iconst 1, 1) := by decide +kernel
theorem d_R_hasRole_19 : decode me_R_hasRole.2.1 19 = .ok (.goto (4), 3) := by decide +kernel
theorem d_R_hasRole_22 : decode me_R_hasRole.2.1 22 = .ok (.iconst 0, 1) := by decide +kernel
theorem d_R_hasRole_23 : decode me_R_hasRole.2.1 23 = .ok (.ireturn, 1) := by decide +kernel
