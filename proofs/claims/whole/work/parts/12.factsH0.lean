theorem d_H_init_0 : decode me_H_init.2.1 0 = .ok (.aload_n 0, 1) := by decide +kernel
theorem d_H_init_1 : decode me_H_init.2.1 1 = .ok (.invokespecial 1, 3) := by decide +kernel
theorem c_H_init_1 : bm_io me_H_init 1 := ⟨_, d_H_init_1, ml_H_1, ki_obj, kc_obj, by decide, by decide⟩
theorem d_H_init_4 : decode me_H_init.2.1 4 = .ok (.aload_n 0, 1) := by decide +kernel
theorem d_H_init_5 : decode me_H_init.2.1 5 = .ok (.iconst 4, 1) := by decide +kernel
theorem d_H_init_6 : decode me_H_init.2.1 6 = .ok (.anewarray 9, 3) := by decide +kernel
theorem n_H_init_6 : bm_nq me_H_init 6 3 := ⟨_, _, d_H_init_6, lc_H_9, by decide +kernel, rfl⟩
theorem d_H_init_9 : decode me_H_init.2.1 9 = .ok (.putfield 11, 3) := by decide +kernel
theorem p_H_init_9 : bm_pf me_H_init 9 0 0 (.array (.object "BatchHall$Recipe")) := ⟨_, _, _, _, ty_H, d_H_init_9, rfl, by decide, uw_H, fl_H_11, tk_H, nm_H, rfl, Or.inr ⟨rfl, rfl, rfl⟩⟩
theorem d_H_init_12 : decode me_H_init.2.1 12 = .ok (.aload_n 0, 1) := by decide +kernel
theorem d_H_init_13 : decode me_H_init.2.1 13 = .ok (.bipush (16), 2) := by decide +kernel
theorem d_H_init_15 : decode me_H_init.2.1 15 = .ok (.anewarray 15, 3) := by decide +kernel
theorem n_H_init_15 : bm_nq me_H_init 15 4 := ⟨_, _, d_H_init_15, lc_H_15, by decide +kernel, rfl⟩
theorem d_H_init_18 : decode me_H_init.2.1 18 = .ok (.putfield 17, 3) := by decide +kernel
theorem p_H_init_18 : bm_pf me_H_init 18 0 1 (.array (.object "BatchHall$Batch")) := ⟨_, _, _, _, ty_H, d_H_init_18, rfl, by decide, uw_H, fl_H_17, tk_H, nm_H, rfl, Or.inr ⟨rfl, rfl, rfl⟩⟩
theorem d_H_init_21 : decode me_H_init.2.1 21 = .ok (.aload_n 0, 1) := by decide +kernel
theorem d_H_init_22 : decode me_H_init.2.1 22 = .ok (.new 21, 3) := by decide +kernel
theorem n_H_init_22 : bm_nw me_H_init 22 7 [.null, .null, .null, .null, .null, .null] := ⟨_, _, _, _, ty_C, d_H_init_22, rfl, uw_C, tk_C, lc_H_21, ic_BatchHall_ReleaseCheck, in_BatchHall_ReleaseCheck, by decide, rfl, by simp⟩
theorem d_H_init_25 : decode me_H_init.2.1 25 = .ok (.dup, 1) := by decide +kernel
theorem d_H_init_26 : decode me_H_init.2.1 26 = .ok (.invokespecial 23, 3) := by decide +kernel
theorem c_H_init_26 : bm_ii me_H_init me_C_init 26 0 := ⟨_, d_H_init_26, Or.inr ⟨"BatchHall", by decide +kernel⟩, ⟨kc_C_init, in_BatchHall_ReleaseCheck, by decide +kernel, by decide, by decide⟩, ki_C_init, rfl, rfl⟩
theorem d_H_init_29 : decode me_H_init.2.1 29 = .ok (.putfield 24, 3) := by decide +kernel
theorem p_H_init_29 : bm_pf me_H_init 29 0 3 (.object "BatchHall$ReleaseCheck") := ⟨_, _, _, _, ty_H, d_H_init_29, rfl, by decide, uw_H, fl_H_24, tk_H, nm_H, rfl, Or.inr ⟨rfl, rfl, rfl⟩⟩
theorem d_H_init_32 : decode me_H_init.2.1 32 = .ok (.aload_n 0, 1) := by decide +kernel
theorem d_H_init_33 : decode me_H_init.2.1 33 = .ok (.new 28, 3) := by decide +kernel
theorem n_H_init_33 : bm_nw me_H_init 33 2 [.null, .null, .null, .null, .int 0, .null] := ⟨_, _, _, _, ty_F, d_H_init_33, rfl, uw_F, tk_F, lc_H_28, ic_BatchHall_Floor, in_BatchHall_Floor, by decide, rfl, by simp⟩
theorem d_H_init_36 : decode me_H_init.2.1 36 = .ok (.dup, 1) := by decide +kernel
theorem d_H_init_37 : decode me_H_init.2.1 37 = .ok (.invokespecial 30, 3) := by decide +kernel
theorem c_H_init_37 : bm_ii me_H_init me_F_init 37 0 := ⟨_, d_H_init_37, Or.inl ml_H_30, ⟨kc_F_init, in_BatchHall_Floor, by decide +kernel, by decide, by decide⟩, ki_F_init, rfl, rfl⟩
theorem d_H_init_40 : decode me_H_init.2.1 40 = .ok (.putfield 31, 3) := by decide +kernel
theorem p_H_init_40 : bm_pf me_H_init 40 0 4 (.object "BatchHall$Floor") := ⟨_, _, _, _, ty_H, d_H_init_40, rfl, by decide, uw_H, fl_H_31, tk_H, nm_H, rfl, Or.inr ⟨rfl, rfl, rfl⟩⟩
theorem d_H_init_43 : decode me_H_init.2.1 43 = .ok (.aload_n 0, 1) := by decide +kernel
theorem d_H_init_44 : decode me_H_init.2.1 44 = .ok (.aload_n 0, 1) := by decide +kernel
theorem d_H_init_45 : decode me_H_init.2.1 45 = .ok (.getfield 31, 3) := by decide +kernel
theorem g_H_init_45 : bm_gf me_H_init 45 0 4 := ⟨_, _, _, _, d_H_init_45, rfl, by decide, uw_H, fl_H_31⟩
theorem d_H_init_48 : decode me_H_init.2.1 48 = .ok (.getfield 35, 3) := by decide +kernel
theorem g_H_init_48 : bm_gf me_H_init 48 2 0 := ⟨_, _, _, _, d_H_init_48, rfl, by decide, uw_F, fl_H_35⟩
theorem d_H_init_51 : decode me_H_init.2.1 51 = .ok (.putfield 39, 3) := by decide +kernel
theorem p_H_init_51 : bm_pf me_H_init 51 0 5 (.array (.object "BatchHall$Unit")) := ⟨_, _, _, _, ty_H, d_H_init_51, rfl, by decide, uw_H, fl_H_39, tk_H, nm_H, rfl, Or.inr ⟨rfl, rfl, rfl⟩⟩
theorem d_H_init_54 : decode me_H_init.2.1 54 = .ok (.aload_n 0, 1) := by decide +kernel
theorem d_H_init_55 : decode me_H_init.2.1 55 = .ok (.aload_n 0, 1) := by decide +kernel
theorem d_H_init_56 : decode me_H_init.2.1 56 = .ok (.getfield 31, 3) := by decide +kernel
theorem g_H_init_56 : bm_gf me_H_init 56 0 4 := ⟨_, _, _, _, d_H_init_56, rfl, by decide, uw_H, fl_H_31⟩
theorem d_H_init_59 : decode me_H_init.2.1 59 = .ok (.getfield 40, 3) := by decide +kernel
theorem g_H_init_59 : bm_gf me_H_init 59 2 1 := ⟨_, _, _, _, d_H_init_59, rfl, by decide, uw_F, fl_H_40⟩
theorem d_H_init_62 : decode me_H_init.2.1 62 = .ok (.putfield 44, 3) := by decide +kernel
theorem p_H_init_62 : bm_pf me_H_init 62 0 6 (.object "BatchHall$LotBook") := ⟨_, _, _, _, ty_H, d_H_init_62, rfl, by decide, uw_H, fl_H_44, tk_H, nm_H, rfl, Or.inr ⟨rfl, rfl, rfl⟩⟩
theorem d_H_init_65 : decode me_H_init.2.1 65 = .ok (.iconst 0, 1) := by decide +kernel
theorem d_H_init_66 : decode me_H_init.2.1 66 = .ok (.istore_n 1, 1) := by decide +kernel
theorem d_H_init_67 : decode me_H_init.2.1 67 = .ok (.iload_n 1, 1) := by decide +kernel
theorem d_H_init_68 : decode me_H_init.2.1 68 = .ok (.iconst 4, 1) := by decide +kernel
theorem d_H_init_69 : decode me_H_init.2.1 69 = .ok (.if_icmp .ge (22), 3) := by decide +kernel
theorem d_H_init_72 : decode me_H_init.2.1 72 = .ok (.aload_n 0, 1) := by decide +kernel
theorem d_H_init_73 : decode me_H_init.2.1 73 = .ok (.getfield 11, 3) := by decide +kernel
theorem g_H_init_73 : bm_gf me_H_init 73 0 0 := ⟨_, _, _, _, d_H_init_73, rfl, by decide, uw_H, fl_H_11⟩
theorem d_H_init_76 : decode me_H_init.2.1 76 = .ok (.iload_n 1, 1) := by decide +kernel
theorem d_H_init_77 : decode me_H_init.2.1 77 = .ok (.new 9, 3) := by decide +kernel
theorem n_H_init_77 : bm_nw me_H_init 77 6 [.int 0, .int 0, .null, .null] := ⟨_, _, _, _, ty_R, d_H_init_77, rfl, uw_R, tk_R, lc_H_9, ic_BatchHall_Recipe, in_BatchHall_Recipe, by decide, rfl, by simp⟩
theorem d_H_init_80 : decode me_H_init.2.1 80 = .ok (.dup, 1) := by decide +kernel
theorem d_H_init_81 : decode me_H_init.2.1 81 = .ok (.invokespecial 45, 3) := by decide +kernel
theorem c_H_init_81 : bm_ii me_H_init me_R_init 81 0 := ⟨_, d_H_init_81, Or.inr ⟨"BatchHall", by decide +kernel⟩, ⟨kc_R_init, in_BatchHall_Recipe, by decide +kernel, by decide, by decide⟩, ki_R_init, rfl, rfl⟩
theorem d_H_init_84 : decode me_H_init.2.1 84 = .ok (.aastore, 1) := by decide +kernel
theorem d_H_init_85 : decode me_H_init.2.1 85 = .ok (.iinc 1 (1), 3) := by decide +kernel
theorem d_H_init_88 : decode me_H_init.2.1 88 = .ok (.goto (-21), 3) := by decide +kernel
theorem d_H_init_91 : decode me_H_init.2.1 91 = .ok (.return_, 1) := by decide +kernel
theorem d_H_unit_0 : decode me_H_unit.2.1 0 = .ok (.iload_n 1, 1) := by decide +kernel
theorem d_H_unit_1 : decode me_H_unit.2.1 1 = .ok (.bipush (6), 2) := by decide +kernel
theorem d_H_unit_3 : decode me_H_unit.2.1 3 = .ok (.invokestatic 46, 3) := by decide +kernel
theorem c_H_unit_3 : bm_is me_H_unit me_H_isBelow 3 2 := ⟨_, d_H_unit_3, Or.inl ml_H_46, ⟨kc_H_isBelow, in_BatchHall, by decide +kernel, by decide, by decide⟩, kt_H_isBelow⟩
theorem d_H_unit_6 : decode me_H_unit.2.1 6 = .ok (.ifCond .eq (24), 3) := by decide +kernel
theorem d_H_unit_9 : decode me_H_unit.2.1 9 = .ok (.iload_n 2, 1) := by decide +kernel
theorem d_H_unit_10 : decode me_H_unit.2.1 10 = .ok (.iconst 3, 1) := by decide +kernel
theorem d_H_unit_11 : decode me_H_unit.2.1 11 = .ok (.invokestatic 46, 3) := by decide +kernel
theorem c_H_unit_11 : bm_is me_H_unit me_H_isBelow 11 2 := ⟨_, d_H_unit_11, Or.inl ml_H_46, ⟨kc_H_isBelow, in_BatchHall, by decide +kernel, by decide, by decide⟩, kt_H_isBelow⟩
theorem d_H_unit_14 : decode me_H_unit.2.1 14 = .ok (.ifCond .eq (16), 3) := by decide +kernel
theorem d_H_unit_17 : decode me_H_unit.2.1 17 = .ok (.aload_n 0, 1) := by decide +kernel
theorem d_H_unit_18 : decode me_H_unit.2.1 18 = .ok (.getfield 39, 3) := by decide +kernel
theorem g_H_unit_18 : bm_gf me_H_unit 18 0 5 := ⟨_, _, _, _, d_H_unit_18, rfl, by decide, uw_H, fl_H_39⟩
theorem d_H_unit_21 : decode me_H_unit.2.1 21 = .ok (.iload_n 1, 1) := by decide +kernel
theorem d_H_unit_22 : decode me_H_unit.2.1 22 = .ok (.aaload, 1) := by decide +kernel
theorem d_H_unit_23 : decode me_H_unit.2.1 23 = .ok (.getfield 50, 3) := by decide +kernel
theorem g_H_unit_23 : bm_gf me_H_unit 23 10 1 := ⟨_, _, _, _, d_H_unit_23, rfl, by decide, uw_U, fl_H_50⟩
theorem d_H_unit_26 : decode me_H_unit.2.1 26 = .ok (.iconst (-1), 1) := by decide +kernel
theorem d_H_unit_27 : decode me_H_unit.2.1 27 = .ok (.if_icmp .eq (5), 3) := by decide +kernel
theorem d_H_unit_30 : decode me_H_unit.2.1 30 = .ok (.iconst 0, 1) := by decide +kernel
theorem d_H_unit_31 : decode me_H_unit.2.1 31 = .ok (.ireturn, 1) := by decide +kernel
theorem d_H_unit_32 : decode me_H_unit.2.1 32 = .ok (.aload_n 0, 1) := by decide +kernel
theorem d_H_unit_33 : decode me_H_unit.2.1 33 = .ok (.getfield 39, 3) := by decide +kernel
theorem g_H_unit_33 : bm_gf me_H_unit 33 0 5 := ⟨_, _, _, _, d_H_unit_33, rfl, by decide, uw_H, fl_H_39⟩
theorem d_H_unit_36 : decode me_H_unit.2.1 36 = .ok (.iload_n 1, 1) := by decide +kernel
theorem d_H_unit_37 : decode me_H_unit.2.1 37 = .ok (.aaload, 1) := by decide +kernel
theorem d_H_unit_38 : decode me_H_unit.2.1 38 = .ok (.iload_n 2, 1) := by decide +kernel
theorem d_H_unit_39 : decode me_H_unit.2.1 39 = .ok (.putfield 56, 3) := by decide +kernel
theorem p_H_unit_39 : bm_pf me_H_unit 39 10 0 .int := ⟨_, _, _, _, ty_U, d_H_unit_39, rfl, by decide, uw_U, fl_H_56, tk_U, nm_U, rfl, Or.inl rfl⟩
theorem d_H_unit_42 : decode me_H_unit.2.1 42 = .ok (.iconst 1, 1) := by decide +kernel
theorem d_H_unit_43 : decode me_H_unit.2.1 43 = .ok (.ireturn, 1) := by decide +kernel
theorem d_H_isBelow_0 : decode me_H_isBelow.2.1 0 = .ok (.iload_n 0, 1) := by decide +kernel
theorem d_H_isBelow_1 : decode me_H_isBelow.2.1 1 = .ok (.ifCond .lt (12), 3) := by decide +kernel
theorem d_H_isBelow_4 : decode me_H_isBelow.2.1 4 = .ok (.iload_n 0, 1) := by decide +kernel
theorem d_H_isBelow_5 : decode me_H_isBelow.2.1 5 = .ok (.iload_n 1, 1) := by decide +kernel
theorem d_H_isBelow_6 : decode me_H_isBelow.2.1 6 = .ok (.if_icmp .ge (7), 3) := by decide +kernel
theorem d_H_isBelow_9 : decode me_H_isBelow.2.1 9 = .ok (.iconst 1, 1) := by decide +kernel
theorem d_H_isBelow_10 : decode me_H_isBelow.2.1 10 = .ok (.goto (4), 3) := by decide +kernel
theorem d_H_isBelow_13 : decode me_H_isBelow.2.1 13 = .ok (.iconst 0, 1) := by decide +kernel
theorem d_H_isBelow_14 : decode me_H_isBelow.2.1 14 = .ok (.ireturn, 1) := by decide +kernel
theorem d_H_role_0 : decode me_H_role.2.1 0 = .ok (.aload_n 0, 1) := by decide +kernel
theorem d_H_role_1 : decode me_H_role.2.1 1 = .ok (.iload_n 1, 1) := by decide +kernel
theorem d_H_role_2 : decode me_H_role.2.1 2 = .ok (.invokevirtual 59, 3) := by decide +kernel
theorem c_H_role_2 : bm_iv me_H_role me_H_isEditable 2 0 1 := ⟨_, d_H_role_2, Or.inl ml_H_59, ⟨kc_H_isEditable, in_BatchHall, by decide +kernel, by decide, by decide⟩, ki_H_isEditable, ks_H_isEditable, _, _, rfl⟩
theorem d_H_role_5 : decode me_H_role.2.1 5 = .ok (.ifCond .eq (11), 3) := by decide +kernel
theorem d_H_role_8 : decode me_H_role.2.1 8 = .ok (.iload_n 2, 1) := by decide +kernel
theorem d_H_role_9 : decode me_H_role.2.1 9 = .ok (.iconst 3, 1) := by decide +kernel
theorem d_H_role_10 : decode me_H_role.2.1 10 = .ok (.invokestatic 46, 3) := by decide +kernel
theorem c_H_role_10 : bm_is me_H_role me_H_isBelow 10 2 := ⟨_, d_H_role_10, Or.inl ml_H_46, ⟨kc_H_isBelow, in_BatchHall, by decide +kernel, by decide, by decide⟩, kt_H_isBelow⟩
theorem d_H_role_13 : decode me_H_role.2.1 13 = .ok (.ifCond .ne (5), 3) := by decide +kernel
theorem d_H_role_16 : decode me_H_role.2.1 16 = .ok (.iconst 0, 1) := by decide +kernel
theorem d_H_role_17 : decode me_H_role.2.1 17 = .ok (.ireturn, 1) := by decide +kernel
theorem d_H_role_18 : decode me_H_role.2.1 18 = .ok (.iload_n 3, 1) := by decide +kernel
theorem d_H_role_19 : decode me_H_role.2.1 19 = .ok (.iconst 3, 1) := by decide +kernel
theorem d_H_role_20 : decode me_H_role.2.1 20 = .ok (.invokestatic 46, 3) := by decide +kernel
theorem c_H_role_20 : bm_is me_H_role me_H_isBelow 20 2 := ⟨_, d_H_role_20, Or.inl ml_H_46, ⟨kc_H_isBelow, in_BatchHall, by decide +kernel, by decide, by decide⟩, kt_H_isBelow⟩
theorem d_H_role_23 : decode me_H_role.2.1 23 = .ok (.ifCond .ne (10), 3) := by decide +kernel
theorem d_H_role_26 : decode me_H_role.2.1 26 = .ok (.iload_n 3, 1) := by decide +kernel
theorem d_H_role_27 : decode me_H_role.2.1 27 = .ok (.iconst 3, 1) := by decide +kernel
theorem d_H_role_28 : decode me_H_role.2.1 28 = .ok (.if_icmp .eq (5), 3) := by decide +kernel
theorem d_H_role_31 : decode me_H_role.2.1 31 = .ok (.iconst 0, 1) := by decide +kernel
theorem d_H_role_32 : decode me_H_role.2.1 32 = .ok (.ireturn, 1) := by decide +kernel
theorem d_H_role_33 : decode me_H_role.2.1 33 = .ok (.aload_n 0, 1) := by decide +kernel
theorem d_H_role_34 : decode me_H_role.2.1 34 = .ok (.getfield 11, 3) := by decide +kernel
theorem g_H_role_34 : bm_gf me_H_role 34 0 0 := ⟨_, _, _, _, d_H_role_34, rfl, by decide, uw_H, fl_H_11⟩
theorem d_H_role_37 : decode me_H_role.2.1 37 = .ok (.iload_n 1, 1) := by decide +kernel
theorem d_H_role_38 : decode me_H_role.2.1 38 = .ok (.aaload, 1) := by decide +kernel
theorem d_H_role_39 : decode me_H_role.2.1 39 = .ok (.getfield 63, 3) := by decide +kernel
theorem g_H_role_39 : bm_gf me_H_role 39 6 2 := ⟨_, _, _, _, d_H_role_39, rfl, by decide, uw_R, fl_H_63⟩
theorem d_H_role_42 : decode me_H_role.2.1 42 = .ok (.iload_n 2, 1) := by decide +kernel
theorem d_H_role_43 : decode me_H_role.2.1 43 = .ok (.iload_n 3, 1) := by decide +kernel
theorem d_H_role_44 : decode me_H_role.2.1 44 = .ok (.iastore, 1) := by decide +kernel
theorem d_H_role_45 : decode me_H_role.2.1 45 = .ok (.iconst 1, 1) := by decide +kernel
theorem d_H_role_46 : decode me_H_role.2.1 46 = .ok (.ireturn, 1) := by decide +kernel
theorem d_H_isEditable_0 : decode me_H_isEditable.2.1 0 = .ok (.iload_n 1, 1) := by decide +kernel
theorem d_H_isEditable_1 : decode me_H_isEditable.2.1 1 = .ok (.iconst 4, 1) := by decide +kernel
theorem d_H_isEditable_2 : decode me_H_isEditable.2.1 2 = .ok (.invokestatic 46, 3) := by decide +kernel
theorem c_H_isEditable_2 : bm_is me_H_isEditable me_H_isBelow 2 2 := ⟨_, d_H_isEditable_2, Or.inl ml_H_46, ⟨kc_H_isBelow, in_BatchHall, by decide +kernel, by decide, by decide⟩, kt_H_isBelow⟩
theorem d_H_isEditable_5 : decode me_H_isEditable.2.1 5 = .ok (.ifCond .eq (19), 3) := by decide +kernel
theorem d_H_isEditable_8 : decode me_H_isEditable.2.1 8 = .ok (.aload_n 0, 1) := by decide +kernel
theorem d_H_isEditable_9 : decode me_H_isEditable.2.1 9 = .ok (.getfield 11, 3) := by decide +kernel
theorem g_H_isEditable_9 : bm_gf me_H_isEditable 9 0 0 := ⟨_, _, _, _, d_H_isEditable_9, rfl, by decide, uw_H, fl_H_11⟩
theorem d_H_isEditable_12 : decode me_H_isEditable.2.1 12 = .ok (.iload_n 1, 1) := by decide +kernel
theorem d_H_isEditable_13 : decode me_H_isEditable.2.1 13 = .ok (.aaload, 1) := by decide +kernel
theorem d_H_isEditable_14 : decode me_H_isEditable.2.1 14 = .ok (.getfield 96, 3) := by decide +kernel
theorem g_H_isEditable_14 : bm_gf me_H_isEditable 14 6 0 := ⟨_, _, _, _, d_H_isEditable_14, rfl, by decide, uw_R, fl_H_96⟩
theorem d_H_isEditable_17 : decode me_H_isEditable.2.1 17 = .ok (.ifCond .ne (7), 3) := by decide +kernel
theorem d_H_isEditable_20 : decode me_H_isEditable.2.1 20 = .ok (.iconst 1, 1) := by decide +kernel
theorem d_H_isEditable_21 : decode me_H_isEditable.2.1 21 = .ok (.goto (4), 3) := by decide +kernel
theorem d_H_isEditable_24 : decode me_H_isEditable.2.1 24 = .ok (.iconst 0, 1) := by decide +kernel
theorem d_H_isEditable_25 : decode me_H_isEditable.2.1 25 = .ok (.ireturn, 1) := by decide +kernel
theorem d_H_step_0 : decode me_H_step.2.1 0 = .ok (.aload_n 0, 1) := by decide +kernel
theorem d_H_step_1 : decode me_H_step.2.1 1 = .ok (.iload_n 1, 1) := by decide +kernel
theorem d_H_step_2 : decode me_H_step.2.1 2 = .ok (.invokevirtual 59, 3) := by decide +kernel
theorem c_H_step_2 : bm_iv me_H_step me_H_isEditable 2 0 1 := ⟨_, d_H_step_2, Or.inl ml_H_59, ⟨kc_H_isEditable, in_BatchHall, by decide +kernel, by decide, by decide⟩, ki_H_isEditable, ks_H_isEditable, _, _, rfl⟩
theorem d_H_step_5 : decode me_H_step.2.1 5 = .ok (.ifCond .eq (26), 3) := by decide +kernel
theorem d_H_step_8 : decode me_H_step.2.1 8 = .ok (.iload_n 2, 1) := by decide +kernel
theorem d_H_step_9 : decode me_H_step.2.1 9 = .ok (.bipush (10), 2) := by decide +kernel
theorem d_H_step_11 : decode me_H_step.2.1 11 = .ok (.invokestatic 46, 3) := by decide +kernel
theorem c_H_step_11 : bm_is me_H_step me_H_isBelow 11 2 := ⟨_, d_H_step_11, Or.inl ml_H_46, ⟨kc_H_isBelow, in_BatchHall, by decide +kernel, by decide, by decide⟩, kt_H_isBelow⟩
theorem d_H_step_14 : decode me_H_step.2.1 14 = .ok (.ifCond .eq (17), 3) := by decide +kernel
theorem d_H_step_17 : decode me_H_step.2.1 17 = .ok (.aload_n 0, 1) := by decide +kernel
theorem d_H_step_18 : decode me_H_step.2.1 18 = .ok (.getfield 11, 3) := by decide +kernel
theorem g_H_step_18 : bm_gf me_H_step 18 0 0 := ⟨_, _, _, _, d_H_step_18, rfl, by decide, uw_H, fl_H_11⟩
theorem d_H_step_21 : decode me_H_step.2.1 21 = .ok (.iload_n 1, 1) := by decide +kernel
theorem d_H_step_22 : decode me_H_step.2.1 22 = .ok (.aaload, 1) := by decide +kernel
theorem d_H_step_23 : decode me_H_step.2.1 23 = .ok (.getfield 67, 3) := by decide +kernel
theorem g_H_step_23 : bm_gf me_H_step 23 6 1 := ⟨_, _, _, _, d_H_step_23, rfl, by decide, uw_R, fl_H_67⟩
theorem d_H_step_26 : decode me_H_step.2.1 26 = .ok (.bipush (12), 2) := by decide +kernel
theorem d_H_step_28 : decode me_H_step.2.1 28 = .ok (.if_icmp .lt (5), 3) := by decide +kernel
theorem d_H_step_31 : decode me_H_step.2.1 31 = .ok (.iconst (-1), 1) := by decide +kernel
theorem d_H_step_32 : decode me_H_step.2.1 32 = .ok (.ireturn, 1) := by decide +kernel
theorem d_H_step_33 : decode me_H_step.2.1 33 = .ok (.aload_n 0, 1) := by decide +kernel
theorem d_H_step_34 : decode me_H_step.2.1 34 = .ok (.getfield 11, 3) := by decide +kernel
theorem g_H_step_34 : bm_gf me_H_step 34 0 0 := ⟨_, _, _, _, d_H_step_34, rfl, by decide, uw_H, fl_H_11⟩
theorem d_H_step_37 : decode me_H_step.2.1 37 = .ok (.iload_n 1, 1) := by decide +kernel
theorem d_H_step_38 : decode me_H_step.2.1 38 = .ok (.aaload, 1) := by decide +kernel
theorem d_H_step_39 : decode me_H_step.2.1 39 = .ok (.new 70, 3) := by decide +kernel
theorem n_H_step_39 : bm_nw me_H_step 39 8 [.int 0, .int 0, .int 0, .int 0, .int 0, .int 0] := ⟨_, _, _, _, ty_S, d_H_step_39, rfl, uw_S, tk_S, lc_H_70, ic_BatchHall_Step, in_BatchHall_Step, by decide, rfl, by simp⟩
theorem d_H_step_42 : decode me_H_step.2.1 42 = .ok (.dup, 1) := by decide +kernel
theorem d_H_step_43 : decode me_H_step.2.1 43 = .ok (.iload_n 2, 1) := by decide +kernel
theorem d_H_step_44 : decode me_H_step.2.1 44 = .ok (.iload_n 3, 1) := by decide +kernel
theorem d_H_step_45 : decode me_H_step.2.1 45 = .ok (.iload 4, 2) := by decide +kernel
theorem d_H_step_47 : decode me_H_step.2.1 47 = .ok (.iload 5, 2) := by decide +kernel
theorem d_H_step_49 : decode me_H_step.2.1 49 = .ok (.invokespecial 72, 3) := by decide +kernel
theorem c_H_step_49 : bm_ii me_H_step me_S_init 49 4 := ⟨_, d_H_step_49, Or.inl ml_H_72, ⟨kc_S_init, in_BatchHall_Step, by decide +kernel, by decide, by decide⟩, ki_S_init, rfl, rfl⟩
theorem d_H_step_52 : decode me_H_step.2.1 52 = .ok (.invokevirtual 75, 3) := by decide +kernel
theorem c_H_step_52 : bm_iv me_H_step me_R_append 52 6 1 := ⟨_, d_H_step_52, Or.inl ml_H_75, ⟨kc_R_append, in_BatchHall_Recipe, by decide +kernel, by decide, by decide⟩, ki_R_append, ks_R_append, _, _, rfl⟩
theorem d_H_step_55 : decode me_H_step.2.1 55 = .ok (.ireturn, 1) := by decide +kernel
theorem d_H_link_0 : decode me_H_link.2.1 0 = .ok (.aload_n 0, 1) := by decide +kernel
theorem d_H_link_1 : decode me_H_link.2.1 1 = .ok (.iload_n 1, 1) := by decide +kernel
theorem d_H_link_2 : decode me_H_link.2.1 2 = .ok (.invokevirtual 59, 3) := by decide +kernel
theorem c_H_link_2 : bm_iv me_H_link me_H_isEditable 2 0 1 := ⟨_, d_H_link_2, Or.inl ml_H_59, ⟨kc_H_isEditable, in_BatchHall, by decide +kernel, by decide, by decide⟩, ki_H_isEditable, ks_H_isEditable, _, _, rfl⟩
theorem d_H_link_5 : decode me_H_link.2.1 5 = .ok (.ifCond .eq (19), 3) := by decide +kernel
theorem d_H_link_8 : decode me_H_link.2.1 8 = .ok (.iload_n 2, 1) := by decide +kernel
theorem d_H_link_9 : decode me_H_link.2.1 9 = .ok (.aload_n 0, 1) := by decide +kernel
theorem d_H_link_10 : decode me_H_link.2.1 10 = .ok (.getfield 11, 3) := by decide +kernel
theorem g_H_link_10 : bm_gf me_H_link 10 0 0 := ⟨_, _, _, _, d_H_link_10, rfl, by decide, uw_H, fl_H_11⟩
theorem d_H_link_13 : decode me_H_link.2.1 13 = .ok (.iload_n 1, 1) := by decide +kernel
theorem d_H_link_14 : decode me_H_link.2.1 14 = .ok (.aaload, 1) := by decide +kernel
theorem d_H_link_15 : decode me_H_link.2.1 15 = .ok (.getfield 67, 3) := by decide +kernel
theorem g_H_link_15 : bm_gf me_H_link 15 6 1 := ⟨_, _, _, _, d_H_link_15, rfl, by decide, uw_R, fl_H_67⟩
theorem d_H_link_18 : decode me_H_link.2.1 18 = .ok (.invokestatic 46, 3) := by decide +kernel
theorem c_H_link_18 : bm_is me_H_link me_H_isBelow 18 2 := ⟨_, d_H_link_18, Or.inl ml_H_46, ⟨kc_H_isBelow, in_BatchHall, by decide +kernel, by decide, by decide⟩, kt_H_isBelow⟩
theorem d_H_link_21 : decode me_H_link.2.1 21 = .ok (.ifCond .ne (5), 3) := by decide +kernel
theorem d_H_link_24 : decode me_H_link.2.1 24 = .ok (.iconst 0, 1) := by decide +kernel
theorem d_H_link_25 : decode me_H_link.2.1 25 = .ok (.ireturn, 1) := by decide +kernel
theorem d_H_link_26 : decode me_H_link.2.1 26 = .ok (.aload_n 0, 1) := by decide +kernel
theorem d_H_link_27 : decode me_H_link.2.1 27 = .ok (.getfield 11, 3) := by decide +kernel
theorem g_H_link_27 : bm_gf me_H_link 27 0 0 := ⟨_, _, _, _, d_H_link_27, rfl, by decide, uw_H, fl_H_11⟩
theorem d_H_link_30 : decode me_H_link.2.1 30 = .ok (.iload_n 1, 1) := by decide +kernel
theorem d_H_link_31 : decode me_H_link.2.1 31 = .ok (.aaload, 1) := by decide +kernel
theorem d_H_link_32 : decode me_H_link.2.1 32 = .ok (.getfield 79, 3) := by decide +kernel
theorem g_H_link_32 : bm_gf me_H_link 32 6 3 := ⟨_, _, _, _, d_H_link_32, rfl, by decide, uw_R, fl_H_79⟩
theorem d_H_link_35 : decode me_H_link.2.1 35 = .ok (.iload_n 2, 1) := by decide +kernel
theorem d_H_link_36 : decode me_H_link.2.1 36 = .ok (.aaload, 1) := by decide +kernel
theorem d_H_link_37 : decode me_H_link.2.1 37 = .ok (.astore 5, 2) := by decide +kernel
theorem d_H_link_39 : decode me_H_link.2.1 39 = .ok (.aload 5, 2) := by decide +kernel
theorem d_H_link_41 : decode me_H_link.2.1 41 = .ok (.iload_n 3, 1) := by decide +kernel
theorem d_H_link_42 : decode me_H_link.2.1 42 = .ok (.putfield 83, 3) := by decide +kernel
theorem p_H_link_42 : bm_pf me_H_link 42 8 4 .int := ⟨_, _, _, _, ty_S, d_H_link_42, rfl, by decide, uw_S, fl_H_83, tk_S, nm_S, rfl, Or.inl rfl⟩
theorem d_H_link_45 : decode me_H_link.2.1 45 = .ok (.aload 5, 2) := by decide +kernel
theorem d_H_link_47 : decode me_H_link.2.1 47 = .ok (.iload 4, 2) := by decide +kernel
theorem d_H_link_49 : decode me_H_link.2.1 49 = .ok (.putfield 86, 3) := by decide +kernel
theorem p_H_link_49 : bm_pf me_H_link 49 8 5 .int := ⟨_, _, _, _, ty_S, d_H_link_49, rfl, by decide, uw_S, fl_H_86, tk_S, nm_S, rfl, Or.inl rfl⟩
theorem d_H_link_52 : decode me_H_link.2.1 52 = .ok (.iconst 1, 1) := by decide +kernel
theorem d_H_link_53 : decode me_H_link.2.1 53 = .ok (.ireturn, 1) := by decide +kernel
theorem d_H_tick_0 : decode me_H_tick.2.1 0 = .ok (.iconst 0, 1) := by decide +kernel
theorem d_H_tick_1 : decode me_H_tick.2.1 1 = .ok (.istore_n 1, 1) := by decide +kernel
theorem d_H_tick_2 : decode me_H_tick.2.1 2 = .ok (.iload_n 1, 1) := by decide +kernel
theorem d_H_tick_3 : decode me_H_tick.2.1 3 = .ok (.aload_n 0, 1) := by decide +kernel
theorem d_H_tick_4 : decode me_H_tick.2.1 4 = .ok (.getfield 111, 3) := by decide +kernel
theorem g_H_tick_4 : bm_gf me_H_tick 4 0 2 := ⟨_, _, _, _, d_H_tick_4, rfl, by decide, uw_H, fl_H_111⟩
theorem d_H_tick_7 : decode me_H_tick.2.1 7 = .ok (.if_icmp .ge (54), 3) := by decide +kernel
theorem d_H_tick_10 : decode me_H_tick.2.1 10 = .ok (.aload_n 0, 1) := by decide +kernel
theorem d_H_tick_11 : decode me_H_tick.2.1 11 = .ok (.getfield 17, 3) := by decide +kernel
theorem g_H_tick_11 : bm_gf me_H_tick 11 0 1 := ⟨_, _, _, _, d_H_tick_11, rfl, by decide, uw_H, fl_H_17⟩
theorem d_H_tick_14 : decode me_H_tick.2.1 14 = .ok (.iload_n 1, 1) := by decide +kernel
theorem d_H_tick_15 : decode me_H_tick.2.1 15 = .ok (.aaload, 1) := by decide +kernel
theorem d_H_tick_16 : decode me_H_tick.2.1 16 = .ok (.astore_n 2, 1) := by decide +kernel
theorem d_H_tick_17 : decode me_H_tick.2.1 17 = .ok (.aload_n 2, 1) := by decide +kernel
theorem d_H_tick_18 : decode me_H_tick.2.1 18 = .ok (.getfield 123, 3) := by decide +kernel
theorem g_H_tick_18 : bm_gf me_H_tick 18 1 4 := ⟨_, _, _, _, d_H_tick_18, rfl, by decide, uw_B, fl_H_123⟩
theorem d_H_tick_21 : decode me_H_tick.2.1 21 = .ok (.iconst 2, 1) := by decide +kernel
theorem d_H_tick_22 : decode me_H_tick.2.1 22 = .ok (.if_icmp .eq (11), 3) := by decide +kernel
theorem d_H_tick_25 : decode me_H_tick.2.1 25 = .ok (.aload_n 2, 1) := by decide +kernel
theorem d_H_tick_26 : decode me_H_tick.2.1 26 = .ok (.getfield 123, 3) := by decide +kernel
theorem g_H_tick_26 : bm_gf me_H_tick 26 1 4 := ⟨_, _, _, _, d_H_tick_26, rfl, by decide, uw_B, fl_H_123⟩
theorem d_H_tick_29 : decode me_H_tick.2.1 29 = .ok (.iconst 4, 1) := by decide +kernel
theorem d_H_tick_30 : decode me_H_tick.2.1 30 = .ok (.if_icmp .ne (25), 3) := by decide +kernel
theorem d_H_tick_33 : decode me_H_tick.2.1 33 = .ok (.aload_n 0, 1) := by decide +kernel
theorem d_H_tick_34 : decode me_H_tick.2.1 34 = .ok (.getfield 31, 3) := by decide +kernel
theorem g_H_tick_34 : bm_gf me_H_tick 34 0 4 := ⟨_, _, _, _, d_H_tick_34, rfl, by decide, uw_H, fl_H_31⟩
theorem d_H_tick_37 : decode me_H_tick.2.1 37 = .ok (.aload_n 2, 1) := by decide +kernel
theorem d_H_tick_38 : decode me_H_tick.2.1 38 = .ok (.invokevirtual 135, 3) := by decide +kernel
theorem c_H_tick_38 : bm_iv me_H_tick me_F_advance 38 2 1 := ⟨_, d_H_tick_38, Or.inl ml_H_135, ⟨kc_F_advance, in_BatchHall_Floor, by decide +kernel, by decide, by decide⟩, ki_F_advance, ks_F_advance, _, _, rfl⟩
theorem d_H_tick_41 : decode me_H_tick.2.1 41 = .ok (.aload_n 2, 1) := by decide +kernel
theorem d_H_tick_42 : decode me_H_tick.2.1 42 = .ok (.invokevirtual 138, 3) := by decide +kernel
theorem c_H_tick_42 : bm_iv me_H_tick me_B_isOver 42 1 0 := ⟨_, d_H_tick_42, Or.inl ml_H_138, ⟨kc_B_isOver, in_BatchHall_Batch, by decide +kernel, by decide, by decide⟩, ki_B_isOver, ks_B_isOver, _, _, rfl⟩
theorem d_H_tick_45 : decode me_H_tick.2.1 45 = .ok (.ifCond .eq (10), 3) := by decide +kernel
theorem d_H_tick_48 : decode me_H_tick.2.1 48 = .ok (.aload_n 0, 1) := by decide +kernel
theorem d_H_tick_49 : decode me_H_tick.2.1 49 = .ok (.getfield 31, 3) := by decide +kernel
theorem g_H_tick_49 : bm_gf me_H_tick 49 0 4 := ⟨_, _, _, _, d_H_tick_49, rfl, by decide, uw_H, fl_H_31⟩
theorem d_H_tick_52 : decode me_H_tick.2.1 52 = .ok (.invokevirtual 132, 3) := by decide +kernel
theorem c_H_tick_52 : bm_iv me_H_tick me_F_serveWaiting 52 2 0 := ⟨_, d_H_tick_52, Or.inl ml_H_132, ⟨kc_F_serveWaiting, in_BatchHall_Floor, by decide +kernel, by decide, by decide⟩, ki_F_serveWaiting, ks_F_serveWaiting, _, _, rfl⟩
theorem d_H_tick_55 : decode me_H_tick.2.1 55 = .ok (.iinc 1 (1), 3) := by decide +kernel
theorem d_H_tick_58 : decode me_H_tick.2.1 58 = .ok (.goto (-56), 3) := by decide +kernel
theorem d_H_tick_61 : decode me_H_tick.2.1 61 = .ok (.aload_n 0, 1) := by decide +kernel
theorem d_H_tick_62 : decode me_H_tick.2.1 62 = .ok (.invokevirtual 142, 3) := by decide +kernel
theorem c_H_tick_62 : bm_iv me_H_tick me_H_countBusy 62 0 0 := ⟨_, d_H_tick_62, Or.inl ml_H_142, ⟨kc_H_countBusy, in_BatchHall, by decide +kernel, by decide, by decide⟩, ki_H_countBusy, ks_H_countBusy, _, _, rfl⟩
theorem d_H_tick_65 : decode me_H_tick.2.1 65 = .ok (.ireturn, 1) := by decide +kernel
theorem d_H_countBusy_0 : decode me_H_countBusy.2.1 0 = .ok (.iconst 0, 1) := by decide +kernel
theorem d_H_countBusy_1 : decode me_H_countBusy.2.1 1 = .ok (.istore_n 1, 1) := by decide +kernel
theorem d_H_countBusy_2 : decode me_H_countBusy.2.1 2 = .ok (.iconst 0, 1) := by decide +kernel
theorem d_H_countBusy_3 : decode me_H_countBusy.2.1 3 = .ok (.istore_n 2, 1) := by decide +kernel
theorem d_H_countBusy_4 : decode me_H_countBusy.2.1 4 = .ok (.iload_n 2, 1) := by decide +kernel
theorem d_H_countBusy_5 : decode me_H_countBusy.2.1 5 = .ok (.aload_n 0, 1) := by decide +kernel
theorem d_H_countBusy_6 : decode me_H_countBusy.2.1 6 = .ok (.getfield 111, 3) := by decide +kernel
theorem g_H_countBusy_6 : bm_gf me_H_countBusy 6 0 2 := ⟨_, _, _, _, d_H_countBusy_6, rfl, by decide, uw_H, fl_H_111⟩
theorem d_H_countBusy_9 : decode me_H_countBusy.2.1 9 = .ok (.if_icmp .ge (37), 3) := by decide +kernel
theorem d_H_countBusy_12 : decode me_H_countBusy.2.1 12 = .ok (.aload_n 0, 1) := by decide +kernel
theorem d_H_countBusy_13 : decode me_H_countBusy.2.1 13 = .ok (.getfield 17, 3) := by decide +kernel
theorem g_H_countBusy_13 : bm_gf me_H_countBusy 13 0 1 := ⟨_, _, _, _, d_H_countBusy_13, rfl, by decide, uw_H, fl_H_17⟩
theorem d_H_countBusy_16 : decode me_H_countBusy.2.1 16 = .ok (.iload_n 2, 1) := by decide +kernel
theorem d_H_countBusy_17 : decode me_H_countBusy.2.1 17 = .ok (.aaload, 1) := by decide +kernel
theorem d_H_countBusy_18 : decode me_H_countBusy.2.1 18 = .ok (.getfield 123, 3) := by decide +kernel
theorem g_H_countBusy_18 : bm_gf me_H_countBusy 18 1 4 := ⟨_, _, _, _, d_H_countBusy_18, rfl, by decide, uw_B, fl_H_123⟩
theorem d_H_countBusy_21 : decode me_H_countBusy.2.1 21 = .ok (.istore_n 3, 1) := by decide +kernel
theorem d_H_countBusy_22 : decode me_H_countBusy.2.1 22 = .ok (.iload_n 3, 1) := by decide +kernel
theorem d_H_countBusy_23 : decode me_H_countBusy.2.1 23 = .ok (.iconst 2, 1) := by decide +kernel
theorem d_H_countBusy_24 : decode me_H_countBusy.2.1 24 = .ok (.if_icmp .eq (13), 3) := by decide +kernel
theorem d_H_countBusy_27 : decode me_H_countBusy.2.1 27 = .ok (.iload_n 3, 1) := by decide +kernel
theorem d_H_countBusy_28 : decode me_H_countBusy.2.1 28 = .ok (.iconst 3, 1) := by decide +kernel
theorem d_H_countBusy_29 : decode me_H_countBusy.2.1 29 = .ok (.if_icmp .eq (8), 3) := by decide +kernel
theorem d_H_countBusy_32 : decode me_H_countBusy.2.1 32 = .ok (.iload_n 3, 1) := by decide +kernel
theorem d_H_countBusy_33 : decode me_H_countBusy.2.1 33 = .ok (.iconst 4, 1) := by decide +kernel
theorem d_H_countBusy_34 : decode me_H_countBusy.2.1 34 = .ok (.if_icmp .ne (6), 3) := by decide +kernel
theorem d_H_countBusy_37 : decode me_H_countBusy.2.1 37 = .ok (.iinc 1 (1), 3) := by decide +kernel
theorem d_H_countBusy_40 : decode me_H_countBusy.2.1 40 = .ok (.iinc 2 (1), 3) := by decide +kernel
theorem d_H_countBusy_43 : decode me_H_countBusy.2.1 43 = .ok (.goto (-39), 3) := by decide +kernel
theorem d_H_countBusy_46 : decode me_H_countBusy.2.1 46 = .ok (.iload_n 1, 1) := by decide +kernel
theorem d_H_countBusy_47 : decode me_H_countBusy.2.1 47 = .ok (.ireturn, 1) := by decide +kernel
theorem d_H_measure_0 : decode me_H_measure.2.1 0 = .ok (.iload_n 1, 1) := by decide +kernel
theorem d_H_measure_1 : decode me_H_measure.2.1 1 = .ok (.aload_n 0, 1) := by decide +kernel
theorem d_H_measure_2 : decode me_H_measure.2.1 2 = .ok (.getfield 111, 3) := by decide +kernel
theorem g_H_measure_2 : bm_gf me_H_measure 2 0 2 := ⟨_, _, _, _, d_H_measure_2, rfl, by decide, uw_H, fl_H_111⟩
theorem d_H_measure_5 : decode me_H_measure.2.1 5 = .ok (.invokestatic 46, 3) := by decide +kernel
theorem c_H_measure_5 : bm_is me_H_measure me_H_isBelow 5 2 := ⟨_, d_H_measure_5, Or.inl ml_H_46, ⟨kc_H_isBelow, in_BatchHall, by decide +kernel, by decide, by decide⟩, kt_H_isBelow⟩
theorem d_H_measure_8 : decode me_H_measure.2.1 8 = .ok (.ifCond .eq (23), 3) := by decide +kernel
theorem d_H_measure_11 : decode me_H_measure.2.1 11 = .ok (.iload_n 2, 1) := by decide +kernel
theorem d_H_measure_12 : decode me_H_measure.2.1 12 = .ok (.iconst 4, 1) := by decide +kernel
theorem d_H_measure_13 : decode me_H_measure.2.1 13 = .ok (.invokestatic 46, 3) := by decide +kernel
theorem c_H_measure_13 : bm_is me_H_measure me_H_isBelow 13 2 := ⟨_, d_H_measure_13, Or.inl ml_H_46, ⟨kc_H_isBelow, in_BatchHall, by decide +kernel, by decide, by decide⟩, kt_H_isBelow⟩
theorem d_H_measure_16 : decode me_H_measure.2.1 16 = .ok (.ifCond .eq (15), 3) := by decide +kernel
theorem d_H_measure_19 : decode me_H_measure.2.1 19 = .ok (.aload_n 0, 1) := by decide +kernel
theorem d_H_measure_20 : decode me_H_measure.2.1 20 = .ok (.getfield 17, 3) := by decide +kernel
theorem g_H_measure_20 : bm_gf me_H_measure 20 0 1 := ⟨_, _, _, _, d_H_measure_20, rfl, by decide, uw_H, fl_H_17⟩
theorem d_H_measure_23 : decode me_H_measure.2.1 23 = .ok (.iload_n 1, 1) := by decide +kernel
theorem d_H_measure_24 : decode me_H_measure.2.1 24 = .ok (.aaload, 1) := by decide +kernel
theorem d_H_measure_25 : decode me_H_measure.2.1 25 = .ok (.invokevirtual 138, 3) := by decide +kernel
theorem c_H_measure_25 : bm_iv me_H_measure me_B_isOver 25 1 0 := ⟨_, d_H_measure_25, Or.inl ml_H_138, ⟨kc_B_isOver, in_BatchHall_Batch, by decide +kernel, by decide, by decide⟩, ki_B_isOver, ks_B_isOver, _, _, rfl⟩
theorem d_H_measure_28 : decode me_H_measure.2.1 28 = .ok (.ifCond .eq (5), 3) := by decide +kernel
theorem d_H_measure_31 : decode me_H_measure.2.1 31 = .ok (.iconst 0, 1) := by decide +kernel
theorem d_H_measure_32 : decode me_H_measure.2.1 32 = .ok (.ireturn, 1) := by decide +kernel
theorem d_H_measure_33 : decode me_H_measure.2.1 33 = .ok (.aload_n 0, 1) := by decide +kernel
theorem d_H_measure_34 : decode me_H_measure.2.1 34 = .ok (.getfield 17, 3) := by decide +kernel
theorem g_H_measure_34 : bm_gf me_H_measure 34 0 1 := ⟨_, _, _, _, d_H_measure_34, rfl, by decide, uw_H, fl_H_17⟩
theorem d_H_measure_37 : decode me_H_measure.2.1 37 = .ok (.iload_n 1, 1) := by decide +kernel
theorem d_H_measure_38 : decode me_H_measure.2.1 38 = .ok (.aaload, 1) := by decide +kernel
theorem d_H_measure_39 : decode me_H_measure.2.1 39 = .ok (.iload_n 2, 1) := by decide +kernel
theorem d_H_measure_40 : decode me_H_measure.2.1 40 = .ok (.iload_n 3, 1) := by decide +kernel
theorem d_H_measure_41 : decode me_H_measure.2.1 41 = .ok (.invokevirtual 161, 3) := by decide +kernel
theorem c_H_measure_41 : bm_iv me_H_measure me_B_noteMeasured 41 1 2 := ⟨_, d_H_measure_41, Or.inl ml_H_161, ⟨kc_B_noteMeasured, in_BatchHall_Batch, by decide +kernel, by decide, by decide⟩, ki_B_noteMeasured, ks_B_noteMeasured, _, _, rfl⟩
theorem d_H_measure_44 : decode me_H_measure.2.1 44 = .ok (.iconst 1, 1) := by decide +kernel
theorem d_H_measure_45 : decode me_H_measure.2.1 45 = .ok (.ireturn, 1) := by decide +kernel
theorem d_H_batchIs_0 : decode me_H_batchIs.2.1 0 = .ok (.iload_n 1, 1) := by decide +kernel
theorem d_H_batchIs_1 : decode me_H_batchIs.2.1 1 = .ok (.aload_n 0, 1) := by decide +kernel
theorem d_H_batchIs_2 : decode me_H_batchIs.2.1 2 = .ok (.getfield 111, 3) := by decide +kernel
theorem g_H_batchIs_2 : bm_gf me_H_batchIs 2 0 2 := ⟨_, _, _, _, d_H_batchIs_2, rfl, by decide, uw_H, fl_H_111⟩
theorem d_H_batchIs_5 : decode me_H_batchIs.2.1 5 = .ok (.invokestatic 46, 3) := by decide +kernel
theorem c_H_batchIs_5 : bm_is me_H_batchIs me_H_isBelow 5 2 := ⟨_, d_H_batchIs_5, Or.inl ml_H_46, ⟨kc_H_isBelow, in_BatchHall, by decide +kernel, by decide, by decide⟩, kt_H_isBelow⟩
theorem d_H_batchIs_8 : decode me_H_batchIs.2.1 8 = .ok (.ifCond .ne (5), 3) := by decide +kernel
theorem d_H_batchIs_11 : decode me_H_batchIs.2.1 11 = .ok (.iconst (-1), 1) := by decide +kernel
theorem d_H_batchIs_12 : decode me_H_batchIs.2.1 12 = .ok (.ireturn, 1) := by decide +kernel
theorem d_H_batchIs_13 : decode me_H_batchIs.2.1 13 = .ok (.aload_n 0, 1) := by decide +kernel
theorem d_H_batchIs_14 : decode me_H_batchIs.2.1 14 = .ok (.getfield 17, 3) := by decide +kernel
theorem g_H_batchIs_14 : bm_gf me_H_batchIs 14 0 1 := ⟨_, _, _, _, d_H_batchIs_14, rfl, by decide, uw_H, fl_H_17⟩
theorem d_H_batchIs_17 : decode me_H_batchIs.2.1 17 = .ok (.iload_n 1, 1) := by decide +kernel
theorem d_H_batchIs_18 : decode me_H_batchIs.2.1 18 = .ok (.aaload, 1) := by decide +kernel
theorem d_H_batchIs_19 : decode me_H_batchIs.2.1 19 = .ok (.astore_n 3, 1) := by decide +kernel
theorem d_H_batchIs_20 : decode me_H_batchIs.2.1 20 = .ok (.iload_n 2, 1) := by decide +kernel
theorem d_H_batchIs_21 : decode me_H_batchIs.2.1 21 = .ok (.tableswitch (60) (0) (4) #[(35), (40), (45), (50), (55)], 35) := by decide +kernel
theorem d_H_batchIs_56 : decode me_H_batchIs.2.1 56 = .ok (.aload_n 3, 1) := by decide +kernel
theorem d_H_batchIs_57 : decode me_H_batchIs.2.1 57 = .ok (.getfield 123, 3) := by decide +kernel
theorem g_H_batchIs_57 : bm_gf me_H_batchIs 57 1 4 := ⟨_, _, _, _, d_H_batchIs_57, rfl, by decide, uw_B, fl_H_123⟩
theorem d_H_batchIs_60 : decode me_H_batchIs.2.1 60 = .ok (.ireturn, 1) := by decide +kernel
theorem d_H_batchIs_61 : decode me_H_batchIs.2.1 61 = .ok (.aload_n 3, 1) := by decide +kernel
theorem d_H_batchIs_62 : decode me_H_batchIs.2.1 62 = .ok (.getfield 165, 3) := by decide +kernel
theorem g_H_batchIs_62 : bm_gf me_H_batchIs 62 1 1 := ⟨_, _, _, _, d_H_batchIs_62, rfl, by decide, uw_B, fl_H_165⟩
theorem d_H_batchIs_65 : decode me_H_batchIs.2.1 65 = .ok (.ireturn, 1) := by decide +kernel
theorem d_H_batchIs_66 : decode me_H_batchIs.2.1 66 = .ok (.aload_n 3, 1) := by decide +kernel
theorem d_H_batchIs_67 : decode me_H_batchIs.2.1 67 = .ok (.getfield 168, 3) := by decide +kernel
theorem g_H_batchIs_67 : bm_gf me_H_batchIs 67 1 3 := ⟨_, _, _, _, d_H_batchIs_67, rfl, by decide, uw_B, fl_H_168⟩
theorem d_H_batchIs_70 : decode me_H_batchIs.2.1 70 = .ok (.ireturn, 1) := by decide +kernel
theorem d_H_batchIs_71 : decode me_H_batchIs.2.1 71 = .ok (.aload_n 3, 1) := by decide +kernel
theorem d_H_batchIs_72 : decode me_H_batchIs.2.1 72 = .ok (.getfield 171, 3) := by decide +kernel
theorem g_H_batchIs_72 : bm_gf me_H_batchIs 72 1 5 := ⟨_, _, _, _, d_H_batchIs_72, rfl, by decide, uw_B, fl_H_171⟩
theorem d_H_batchIs_75 : decode me_H_batchIs.2.1 75 = .ok (.ireturn, 1) := by decide +kernel
theorem d_H_batchIs_76 : decode me_H_batchIs.2.1 76 = .ok (.aload_n 3, 1) := by decide +kernel
theorem d_H_batchIs_77 : decode me_H_batchIs.2.1 77 = .ok (.invokevirtual 152, 3) := by decide +kernel
theorem c_H_batchIs_77 : bm_iv me_H_batchIs me_B_countBegun 77 1 0 := ⟨_, d_H_batchIs_77, Or.inl ml_H_152, ⟨kc_B_countBegun, in_BatchHall_Batch, by decide +kernel, by decide, by decide⟩, ki_B_countBegun, ks_B_countBegun, _, _, rfl⟩
theorem d_H_batchIs_80 : decode me_H_batchIs.2.1 80 = .ok (.ireturn, 1) := by decide +kernel
theorem d_H_batchIs_81 : decode me_H_batchIs.2.1 81 = .ok (.iconst (-1), 1) := by decide +kernel
theorem d_H_batchIs_82 : decode me_H_batchIs.2.1 82 = .ok (.ireturn, 1) := by decide +kernel
theorem d_H_token_0 : decode me_H_token.2.1 0 = .ok (.iload_n 1, 1) := by decide +kernel
theorem d_H_token_1 : decode me_H_token.2.1 1 = .ok (.aload_n 0, 1) := by decide +kernel
theorem d_H_token_2 : decode me_H_token.2.1 2 = .ok (.getfield 111, 3) := by decide +kernel
theorem g_H_token_2 : bm_gf me_H_token 2 0 2 := ⟨_, _, _, _, d_H_token_2, rfl, by decide, uw_H, fl_H_111⟩
theorem d_H_token_5 : decode me_H_token.2.1 5 = .ok (.invokestatic 46, 3) := by decide +kernel
theorem c_H_token_5 : bm_is me_H_token me_H_isBelow 5 2 := ⟨_, d_H_token_5, Or.inl ml_H_46, ⟨kc_H_isBelow, in_BatchHall, by decide +kernel, by decide, by decide⟩, kt_H_isBelow⟩
theorem d_H_token_8 : decode me_H_token.2.1 8 = .ok (.ifCond .eq (19), 3) := by decide +kernel
theorem d_H_token_11 : decode me_H_token.2.1 11 = .ok (.iload_n 2, 1) := by decide +kernel
theorem d_H_token_12 : decode me_H_token.2.1 12 = .ok (.aload_n 0, 1) := by decide +kernel
theorem d_H_token_13 : decode me_H_token.2.1 13 = .ok (.getfield 17, 3) := by decide +kernel
theorem g_H_token_13 : bm_gf me_H_token 13 0 1 := ⟨_, _, _, _, d_H_token_13, rfl, by decide, uw_H, fl_H_17⟩
theorem d_H_token_16 : decode me_H_token.2.1 16 = .ok (.iload_n 1, 1) := by decide +kernel
theorem d_H_token_17 : decode me_H_token.2.1 17 = .ok (.aaload, 1) := by decide +kernel
theorem d_H_token_18 : decode me_H_token.2.1 18 = .ok (.getfield 171, 3) := by decide +kernel
theorem g_H_token_18 : bm_gf me_H_token 18 1 5 := ⟨_, _, _, _, d_H_token_18, rfl, by decide, uw_B, fl_H_171⟩
theorem d_H_token_21 : decode me_H_token.2.1 21 = .ok (.invokestatic 46, 3) := by decide +kernel
theorem c_H_token_21 : bm_is me_H_token me_H_isBelow 21 2 := ⟨_, d_H_token_21, Or.inl ml_H_46, ⟨kc_H_isBelow, in_BatchHall, by decide +kernel, by decide, by decide⟩, kt_H_isBelow⟩
theorem d_H_token_24 : decode me_H_token.2.1 24 = .ok (.ifCond .ne (5), 3) := by decide +kernel
theorem d_H_token_27 : decode me_H_token.2.1 27 = .ok (.iconst (-1), 1) := by decide +kernel
theorem d_H_token_28 : decode me_H_token.2.1 28 = .ok (.ireturn, 1) := by decide +kernel
theorem d_H_token_29 : decode me_H_token.2.1 29 = .ok (.aload_n 0, 1) := by decide +kernel
theorem d_H_token_30 : decode me_H_token.2.1 30 = .ok (.getfield 17, 3) := by decide +kernel
theorem g_H_token_30 : bm_gf me_H_token 30 0 1 := ⟨_, _, _, _, d_H_token_30, rfl, by decide, uw_H, fl_H_17⟩
theorem d_H_token_33 : decode me_H_token.2.1 33 = .ok (.iload_n 1, 1) := by decide +kernel
theorem d_H_token_34 : decode me_H_token.2.1 34 = .ok (.aaload, 1) := by decide +kernel
theorem d_H_token_35 : decode me_H_token.2.1 35 = .ok (.getfield 174, 3) := by decide +kernel
theorem g_H_token_35 : bm_gf me_H_token 35 1 6 := ⟨_, _, _, _, d_H_token_35, rfl, by decide, uw_B, fl_H_174⟩
theorem d_H_token_38 : decode me_H_token.2.1 38 = .ok (.iload_n 2, 1) := by decide +kernel
theorem d_H_token_39 : decode me_H_token.2.1 39 = .ok (.aaload, 1) := by decide +kernel
theorem d_H_token_40 : decode me_H_token.2.1 40 = .ok (.astore_n 3, 1) := by decide +kernel
theorem d_H_token_41 : decode me_H_token.2.1 41 = .ok (.aload_n 3, 1) := by decide +kernel
theorem d_H_token_42 : decode me_H_token.2.1 42 = .ok (.getfield 178, 3) := by decide +kernel
theorem g_H_token_42 : bm_gf me_H_token 42 9 1 := ⟨_, _, _, _, d_H_token_42, rfl, by decide, uw_T, fl_H_178⟩
theorem d_H_token_45 : decode me_H_token.2.1 45 = .ok (.ifCond .eq (13), 3) := by decide +kernel
theorem d_H_token_48 : decode me_H_token.2.1 48 = .ok (.aload_n 3, 1) := by decide +kernel
theorem d_H_token_49 : decode me_H_token.2.1 49 = .ok (.getfield 183, 3) := by decide +kernel
theorem g_H_token_49 : bm_gf me_H_token 49 9 0 := ⟨_, _, _, _, d_H_token_49, rfl, by decide, uw_T, fl_H_183⟩
theorem d_H_token_52 : decode me_H_token.2.1 52 = .ok (.bipush (16), 2) := by decide +kernel
theorem d_H_token_54 : decode me_H_token.2.1 54 = .ok (.iadd, 1) := by decide +kernel
theorem d_H_token_55 : decode me_H_token.2.1 55 = .ok (.goto (7), 3) := by decide +kernel
theorem d_H_token_58 : decode me_H_token.2.1 58 = .ok (.aload_n 3, 1) := by decide +kernel
theorem d_H_token_59 : decode me_H_token.2.1 59 = .ok (.getfield 183, 3) := by decide +kernel
theorem g_H_token_59 : bm_gf me_H_token 59 9 0 := ⟨_, _, _, _, d_H_token_59, rfl, by decide, uw_T, fl_H_183⟩
theorem d_H_token_62 : decode me_H_token.2.1 62 = .ok (.ireturn, 1) := by decide +kernel
theorem d_H_unitOf_0 : decode me_H_unitOf.2.1 0 = .ok (.iload_n 1, 1) := by decide +kernel
theorem d_H_unitOf_1 : decode me_H_unitOf.2.1 1 = .ok (.aload_n 0, 1) := by decide +kernel
theorem d_H_unitOf_2 : decode me_H_unitOf.2.1 2 = .ok (.getfield 111, 3) := by decide +kernel
theorem g_H_unitOf_2 : bm_gf me_H_unitOf 2 0 2 := ⟨_, _, _, _, d_H_unitOf_2, rfl, by decide, uw_H, fl_H_111⟩
theorem d_H_unitOf_5 : decode me_H_unitOf.2.1 5 = .ok (.invokestatic 46, 3) := by decide +kernel
theorem c_H_unitOf_5 : bm_is me_H_unitOf me_H_isBelow 5 2 := ⟨_, d_H_unitOf_5, Or.inl ml_H_46, ⟨kc_H_isBelow, in_BatchHall, by decide +kernel, by decide, by decide⟩, kt_H_isBelow⟩
theorem d_H_unitOf_8 : decode me_H_unitOf.2.1 8 = .ok (.ifCond .eq (11), 3) := by decide +kernel
theorem d_H_unitOf_11 : decode me_H_unitOf.2.1 11 = .ok (.iload_n 2, 1) := by decide +kernel
theorem d_H_unitOf_12 : decode me_H_unitOf.2.1 12 = .ok (.iconst 3, 1) := by decide +kernel
theorem d_H_unitOf_13 : decode me_H_unitOf.2.1 13 = .ok (.invokestatic 46, 3) := by decide +kernel
theorem c_H_unitOf_13 : bm_is me_H_unitOf me_H_isBelow 13 2 := ⟨_, d_H_unitOf_13, Or.inl ml_H_46, ⟨kc_H_isBelow, in_BatchHall, by decide +kernel, by decide, by decide⟩, kt_H_isBelow⟩
theorem d_H_unitOf_16 : decode me_H_unitOf.2.1 16 = .ok (.ifCond .ne (5), 3) := by decide +kernel
theorem d_H_unitOf_19 : decode me_H_unitOf.2.1 19 = .ok (.iconst (-1), 1) := by decide +kernel
theorem d_H_unitOf_20 : decode me_H_unitOf.2.1 20 = .ok (.ireturn, 1) := by decide +kernel
theorem d_H_unitOf_21 : decode me_H_unitOf.2.1 21 = .ok (.aload_n 0, 1) := by decide +kernel
theorem d_H_unitOf_22 : decode me_H_unitOf.2.1 22 = .ok (.getfield 17, 3) := by decide +kernel
theorem g_H_unitOf_22 : bm_gf me_H_unitOf 22 0 1 := ⟨_, _, _, _, d_H_unitOf_22, rfl, by decide, uw_H, fl_H_17⟩
theorem d_H_unitOf_25 : decode me_H_unitOf.2.1 25 = .ok (.iload_n 1, 1) := by decide +kernel
theorem d_H_unitOf_26 : decode me_H_unitOf.2.1 26 = .ok (.aaload, 1) := by decide +kernel
theorem d_H_unitOf_27 : decode me_H_unitOf.2.1 27 = .ok (.getfield 186, 3) := by decide +kernel
theorem g_H_unitOf_27 : bm_gf me_H_unitOf 27 1 9 := ⟨_, _, _, _, d_H_unitOf_27, rfl, by decide, uw_B, fl_H_186⟩
theorem d_H_unitOf_30 : decode me_H_unitOf.2.1 30 = .ok (.iload_n 2, 1) := by decide +kernel
theorem d_H_unitOf_31 : decode me_H_unitOf.2.1 31 = .ok (.iaload, 1) := by decide +kernel
theorem d_H_unitOf_32 : decode me_H_unitOf.2.1 32 = .ok (.ireturn, 1) := by decide +kernel
theorem d_H_unitIs_0 : decode me_H_unitIs.2.1 0 = .ok (.iload_n 1, 1) := by decide +kernel
theorem d_H_unitIs_1 : decode me_H_unitIs.2.1 1 = .ok (.bipush (6), 2) := by decide +kernel
theorem d_H_unitIs_3 : decode me_H_unitIs.2.1 3 = .ok (.invokestatic 46, 3) := by decide +kernel
theorem c_H_unitIs_3 : bm_is me_H_unitIs me_H_isBelow 3 2 := ⟨_, d_H_unitIs_3, Or.inl ml_H_46, ⟨kc_H_isBelow, in_BatchHall, by decide +kernel, by decide, by decide⟩, kt_H_isBelow⟩
theorem d_H_unitIs_6 : decode me_H_unitIs.2.1 6 = .ok (.ifCond .ne (5), 3) := by decide +kernel
theorem d_H_unitIs_9 : decode me_H_unitIs.2.1 9 = .ok (.iconst (-1), 1) := by decide +kernel
theorem d_H_unitIs_10 : decode me_H_unitIs.2.1 10 = .ok (.ireturn, 1) := by decide +kernel
theorem d_H_unitIs_11 : decode me_H_unitIs.2.1 11 = .ok (.aload_n 0, 1) := by decide +kernel
theorem d_H_unitIs_12 : decode me_H_unitIs.2.1 12 = .ok (.getfield 39, 3) := by decide +kernel
theorem g_H_unitIs_12 : bm_gf me_H_unitIs 12 0 5 := ⟨_, _, _, _, d_H_unitIs_12, rfl, by decide, uw_H, fl_H_39⟩
theorem d_H_unitIs_15 : decode me_H_unitIs.2.1 15 = .ok (.iload_n 1, 1) := by decide +kernel
theorem d_H_unitIs_16 : decode me_H_unitIs.2.1 16 = .ok (.aaload, 1) := by decide +kernel
theorem d_H_unitIs_17 : decode me_H_unitIs.2.1 17 = .ok (.astore_n 3, 1) := by decide +kernel
theorem d_H_unitIs_18 : decode me_H_unitIs.2.1 18 = .ok (.iload_n 2, 1) := by decide +kernel
theorem d_H_unitIs_19 : decode me_H_unitIs.2.1 19 = .ok (.tableswitch (49) (0) (3) #[(29), (34), (39), (44)], 29) := by decide +kernel
theorem d_H_unitIs_48 : decode me_H_unitIs.2.1 48 = .ok (.aload_n 3, 1) := by decide +kernel
theorem d_H_unitIs_49 : decode me_H_unitIs.2.1 49 = .ok (.getfield 50, 3) := by decide +kernel
theorem g_H_unitIs_49 : bm_gf me_H_unitIs 49 10 1 := ⟨_, _, _, _, d_H_unitIs_49, rfl, by decide, uw_U, fl_H_50⟩
theorem d_H_unitIs_52 : decode me_H_unitIs.2.1 52 = .ok (.ireturn, 1) := by decide +kernel
theorem d_H_unitIs_53 : decode me_H_unitIs.2.1 53 = .ok (.aload_n 3, 1) := by decide +kernel
theorem d_H_unitIs_54 : decode me_H_unitIs.2.1 54 = .ok (.getfield 56, 3) := by decide +kernel
theorem g_H_unitIs_54 : bm_gf me_H_unitIs 54 10 0 := ⟨_, _, _, _, d_H_unitIs_54, rfl, by decide, uw_U, fl_H_56⟩
theorem d_H_unitIs_57 : decode me_H_unitIs.2.1 57 = .ok (.ireturn, 1) := by decide +kernel
theorem d_H_unitIs_58 : decode me_H_unitIs.2.1 58 = .ok (.aload_n 3, 1) := by decide +kernel
theorem d_H_unitIs_59 : decode me_H_unitIs.2.1 59 = .ok (.getfield 189, 3) := by decide +kernel
theorem g_H_unitIs_59 : bm_gf me_H_unitIs 59 10 2 := ⟨_, _, _, _, d_H_unitIs_59, rfl, by decide, uw_U, fl_H_189⟩
theorem d_H_unitIs_62 : decode me_H_unitIs.2.1 62 = .ok (.ireturn, 1) := by decide +kernel
theorem d_H_unitIs_63 : decode me_H_unitIs.2.1 63 = .ok (.aload_n 3, 1) := by decide +kernel
theorem d_H_unitIs_64 : decode me_H_unitIs.2.1 64 = .ok (.invokevirtual 192, 3) := by decide +kernel
theorem c_H_unitIs_64 : bm_iv me_H_unitIs me_U_total 64 10 0 := ⟨_, d_H_unitIs_64, Or.inl ml_H_192, ⟨kc_U_total, in_BatchHall_Unit, by decide +kernel, by decide, by decide⟩, ki_U_total, ks_U_total, _, _, rfl⟩
theorem d_H_unitIs_67 : decode me_H_unitIs.2.1 67 = .ok (.ireturn, 1) := by decide +kernel
theorem d_H_unitIs_68 : decode me_H_unitIs.2.1 68 = .ok (.iconst (-1), 1) := by decide +kernel
theorem d_H_unitIs_69 : decode me_H_unitIs.2.1 69 = .ok (.ireturn, 1) := by decide +kernel
theorem d_H_content_0 : decode me_H_content.2.1 0 = .ok (.iload_n 1, 1) := by decide +kernel
theorem d_H_content_1 : decode me_H_content.2.1 1 = .ok (.bipush (6), 2) := by decide +kernel
theorem d_H_content_3 : decode me_H_content.2.1 3 = .ok (.invokestatic 46, 3) := by decide +kernel
theorem c_H_content_3 : bm_is me_H_content me_H_isBelow 3 2 := ⟨_, d_H_content_3, Or.inl ml_H_46, ⟨kc_H_isBelow, in_BatchHall, by decide +kernel, by decide, by decide⟩, kt_H_isBelow⟩
theorem d_H_content_6 : decode me_H_content.2.1 6 = .ok (.ifCond .eq (19), 3) := by decide +kernel
theorem d_H_content_9 : decode me_H_content.2.1 9 = .ok (.iload_n 2, 1) := by decide +kernel
theorem d_H_content_10 : decode me_H_content.2.1 10 = .ok (.aload_n 0, 1) := by decide +kernel
theorem d_H_content_11 : decode me_H_content.2.1 11 = .ok (.getfield 39, 3) := by decide +kernel
theorem g_H_content_11 : bm_gf me_H_content 11 0 5 := ⟨_, _, _, _, d_H_content_11, rfl, by decide, uw_H, fl_H_39⟩
theorem d_H_content_14 : decode me_H_content.2.1 14 = .ok (.iload_n 1, 1) := by decide +kernel
theorem d_H_content_15 : decode me_H_content.2.1 15 = .ok (.aaload, 1) := by decide +kernel
theorem d_H_content_16 : decode me_H_content.2.1 16 = .ok (.getfield 189, 3) := by decide +kernel
theorem g_H_content_16 : bm_gf me_H_content 16 10 2 := ⟨_, _, _, _, d_H_content_16, rfl, by decide, uw_U, fl_H_189⟩
theorem d_H_content_19 : decode me_H_content.2.1 19 = .ok (.invokestatic 46, 3) := by decide +kernel
theorem c_H_content_19 : bm_is me_H_content me_H_isBelow 19 2 := ⟨_, d_H_content_19, Or.inl ml_H_46, ⟨kc_H_isBelow, in_BatchHall, by decide +kernel, by decide, by decide⟩, kt_H_isBelow⟩
theorem d_H_content_22 : decode me_H_content.2.1 22 = .ok (.ifCond .ne (5), 3) := by decide +kernel
theorem d_H_content_25 : decode me_H_content.2.1 25 = .ok (.iconst (-1), 1) := by decide +kernel
theorem d_H_content_26 : decode me_H_content.2.1 26 = .ok (.ireturn, 1) := by decide +kernel
theorem d_H_content_27 : decode me_H_content.2.1 27 = .ok (.iload_n 3, 1) := by decide +kernel
theorem d_H_content_28 : decode me_H_content.2.1 28 = .ok (.lookupswitch (52) #[((0), (28)), ((1), (40))], 28) := by decide +kernel
theorem d_H_content_56 : decode me_H_content.2.1 56 = .ok (.aload_n 0, 1) := by decide +kernel
theorem d_H_content_57 : decode me_H_content.2.1 57 = .ok (.getfield 39, 3) := by decide +kernel
theorem g_H_content_57 : bm_gf me_H_content 57 0 5 := ⟨_, _, _, _, d_H_content_57, rfl, by decide, uw_H, fl_H_39⟩
theorem d_H_content_60 : decode me_H_content.2.1 60 = .ok (.iload_n 1, 1) := by decide +kernel
theorem d_H_content_61 : decode me_H_content.2.1 61 = .ok (.aaload, 1) := by decide +kernel
theorem d_H_content_62 : decode me_H_content.2.1 62 = .ok (.getfield 195, 3) := by decide +kernel
theorem g_H_content_62 : bm_gf me_H_content 62 10 3 := ⟨_, _, _, _, d_H_content_62, rfl, by decide, uw_U, fl_H_195⟩
theorem d_H_content_65 : decode me_H_content.2.1 65 = .ok (.iload_n 2, 1) := by decide +kernel
theorem d_H_content_66 : decode me_H_content.2.1 66 = .ok (.iaload, 1) := by decide +kernel
theorem d_H_content_67 : decode me_H_content.2.1 67 = .ok (.ireturn, 1) := by decide +kernel
theorem d_H_content_68 : decode me_H_content.2.1 68 = .ok (.aload_n 0, 1) := by decide +kernel
theorem d_H_content_69 : decode me_H_content.2.1 69 = .ok (.getfield 39, 3) := by decide +kernel
theorem g_H_content_69 : bm_gf me_H_content 69 0 5 := ⟨_, _, _, _, d_H_content_69, rfl, by decide, uw_H, fl_H_39⟩
theorem d_H_content_72 : decode me_H_content.2.1 72 = .ok (.iload_n 1, 1) := by decide +kernel
theorem d_H_content_73 : decode me_H_content.2.1 73 = .ok (.aaload, 1) := by decide +kernel
theorem d_H_content_74 : decode me_H_content.2.1 74 = .ok (.getfield 198, 3) := by decide +kernel
theorem g_H_content_74 : bm_gf me_H_content 74 10 4 := ⟨_, _, _, _, d_H_content_74, rfl, by decide, uw_U, fl_H_198⟩
theorem d_H_content_77 : decode me_H_content.2.1 77 = .ok (.iload_n 2, 1) := by decide +kernel
theorem d_H_content_78 : decode me_H_content.2.1 78 = .ok (.iaload, 1) := by decide +kernel
theorem d_H_content_79 : decode me_H_content.2.1 79 = .ok (.ireturn, 1) := by decide +kernel
theorem d_H_content_80 : decode me_H_content.2.1 80 = .ok (.iconst (-1), 1) := by decide +kernel
theorem d_H_content_81 : decode me_H_content.2.1 81 = .ok (.ireturn, 1) := by decide +kernel
theorem d_H_lot_0 : decode me_H_lot.2.1 0 = .ok (.iload_n 1, 1) := by decide +kernel
theorem d_H_lot_1 : decode me_H_lot.2.1 1 = .ok (.aload_n 0, 1) := by decide +kernel
theorem d_H_lot_2 : decode me_H_lot.2.1 2 = .ok (.getfield 44, 3) := by decide +kernel
theorem g_H_lot_2 : bm_gf me_H_lot 2 0 6 := ⟨_, _, _, _, d_H_lot_2, rfl, by decide, uw_H, fl_H_44⟩
theorem d_H_lot_5 : decode me_H_lot.2.1 5 = .ok (.getfield 201, 3) := by decide +kernel
theorem g_H_lot_5 : bm_gf me_H_lot 5 4 0 := ⟨_, _, _, _, d_H_lot_5, rfl, by decide, uw_K, fl_H_201⟩
theorem d_H_lot_8 : decode me_H_lot.2.1 8 = .ok (.invokestatic 46, 3) := by decide +kernel
theorem c_H_lot_8 : bm_is me_H_lot me_H_isBelow 8 2 := ⟨_, d_H_lot_8, Or.inl ml_H_46, ⟨kc_H_isBelow, in_BatchHall, by decide +kernel, by decide, by decide⟩, kt_H_isBelow⟩
theorem d_H_lot_11 : decode me_H_lot.2.1 11 = .ok (.ifCond .ne (5), 3) := by decide +kernel
theorem d_H_lot_14 : decode me_H_lot.2.1 14 = .ok (.iconst (-1), 1) := by decide +kernel
theorem d_H_lot_15 : decode me_H_lot.2.1 15 = .ok (.ireturn, 1) := by decide +kernel
theorem d_H_lot_16 : decode me_H_lot.2.1 16 = .ok (.aload_n 0, 1) := by decide +kernel
theorem d_H_lot_17 : decode me_H_lot.2.1 17 = .ok (.getfield 44, 3) := by decide +kernel
theorem g_H_lot_17 : bm_gf me_H_lot 17 0 6 := ⟨_, _, _, _, d_H_lot_17, rfl, by decide, uw_H, fl_H_44⟩
theorem d_H_lot_20 : decode me_H_lot.2.1 20 = .ok (.getfield 206, 3) := by decide +kernel
theorem g_H_lot_20 : bm_gf me_H_lot 20 4 1 := ⟨_, _, _, _, d_H_lot_20, rfl, by decide, uw_K, fl_H_206⟩
theorem d_H_lot_23 : decode me_H_lot.2.1 23 = .ok (.iload_n 1, 1) := by decide +kernel
theorem d_H_lot_24 : decode me_H_lot.2.1 24 = .ok (.aaload, 1) := by decide +kernel
theorem d_H_lot_25 : decode me_H_lot.2.1 25 = .ok (.astore_n 3, 1) := by decide +kernel
theorem d_H_lot_26 : decode me_H_lot.2.1 26 = .ok (.iload_n 2, 1) := by decide +kernel
theorem d_H_lot_27 : decode me_H_lot.2.1 27 = .ok (.tableswitch (63) (0) (4) #[(33), (38), (43), (52), (58)], 33) := by decide +kernel
theorem d_H_lot_60 : decode me_H_lot.2.1 60 = .ok (.aload_n 3, 1) := by decide +kernel
theorem d_H_lot_61 : decode me_H_lot.2.1 61 = .ok (.getfield 210, 3) := by decide +kernel
theorem g_H_lot_61 : bm_gf me_H_lot 61 3 0 := ⟨_, _, _, _, d_H_lot_61, rfl, by decide, uw_L, fl_H_210⟩
theorem d_H_lot_64 : decode me_H_lot.2.1 64 = .ok (.ireturn, 1) := by decide +kernel
theorem d_H_lot_65 : decode me_H_lot.2.1 65 = .ok (.aload_n 3, 1) := by decide +kernel
theorem d_H_lot_66 : decode me_H_lot.2.1 66 = .ok (.getfield 215, 3) := by decide +kernel
theorem g_H_lot_66 : bm_gf me_H_lot 66 3 1 := ⟨_, _, _, _, d_H_lot_66, rfl, by decide, uw_L, fl_H_215⟩
theorem d_H_lot_69 : decode me_H_lot.2.1 69 = .ok (.ireturn, 1) := by decide +kernel
theorem d_H_lot_70 : decode me_H_lot.2.1 70 = .ok (.aload_n 0, 1) := by decide +kernel
theorem d_H_lot_71 : decode me_H_lot.2.1 71 = .ok (.getfield 31, 3) := by decide +kernel
theorem g_H_lot_71 : bm_gf me_H_lot 71 0 4 := ⟨_, _, _, _, d_H_lot_71, rfl, by decide, uw_H, fl_H_31⟩
theorem d_H_lot_74 : decode me_H_lot.2.1 74 = .ok (.iload_n 1, 1) := by decide +kernel
theorem d_H_lot_75 : decode me_H_lot.2.1 75 = .ok (.invokevirtual 218, 3) := by decide +kernel
theorem c_H_lot_75 : bm_iv me_H_lot me_F_amountOf 75 2 1 := ⟨_, d_H_lot_75, Or.inl ml_H_218, ⟨kc_F_amountOf, in_BatchHall_Floor, by decide +kernel, by decide, by decide⟩, ki_F_amountOf, ks_F_amountOf, _, _, rfl⟩
theorem d_H_lot_78 : decode me_H_lot.2.1 78 = .ok (.ireturn, 1) := by decide +kernel
theorem d_H_lot_79 : decode me_H_lot.2.1 79 = .ok (.aload_n 3, 1) := by decide +kernel
theorem d_H_lot_80 : decode me_H_lot.2.1 80 = .ok (.getfield 222, 3) := by decide +kernel
theorem g_H_lot_80 : bm_gf me_H_lot 80 3 2 := ⟨_, _, _, _, d_H_lot_80, rfl, by decide, uw_L, fl_H_222⟩
theorem d_H_lot_83 : decode me_H_lot.2.1 83 = .ok (.arraylength, 1) := by decide +kernel
theorem d_H_lot_84 : decode me_H_lot.2.1 84 = .ok (.ireturn, 1) := by decide +kernel
theorem d_H_lot_85 : decode me_H_lot.2.1 85 = .ok (.aload_n 3, 1) := by decide +kernel
theorem d_H_lot_86 : decode me_H_lot.2.1 86 = .ok (.getfield 225, 3) := by decide +kernel
theorem g_H_lot_86 : bm_gf me_H_lot 86 3 4 := ⟨_, _, _, _, d_H_lot_86, rfl, by decide, uw_L, fl_H_225⟩
theorem d_H_lot_89 : decode me_H_lot.2.1 89 = .ok (.ireturn, 1) := by decide +kernel
theorem d_H_lot_90 : decode me_H_lot.2.1 90 = .ok (.iconst (-1), 1) := by decide +kernel
theorem d_H_lot_91 : decode me_H_lot.2.1 91 = .ok (.ireturn, 1) := by decide +kernel
theorem d_H_from_0 : decode me_H_from.2.1 0 = .ok (.iload_n 1, 1) := by decide +kernel
theorem d_H_from_1 : decode me_H_from.2.1 1 = .ok (.aload_n 0, 1) := by decide +kernel
theorem d_H_from_2 : decode me_H_from.2.1 2 = .ok (.getfield 44, 3) := by decide +kernel
theorem g_H_from_2 : bm_gf me_H_from 2 0 6 := ⟨_, _, _, _, d_H_from_2, rfl, by decide, uw_H, fl_H_44⟩
theorem d_H_from_5 : decode me_H_from.2.1 5 = .ok (.getfield 201, 3) := by decide +kernel
theorem g_H_from_5 : bm_gf me_H_from 5 4 0 := ⟨_, _, _, _, d_H_from_5, rfl, by decide, uw_K, fl_H_201⟩
theorem d_H_from_8 : decode me_H_from.2.1 8 = .ok (.invokestatic 46, 3) := by decide +kernel
theorem c_H_from_8 : bm_is me_H_from me_H_isBelow 8 2 := ⟨_, d_H_from_8, Or.inl ml_H_46, ⟨kc_H_isBelow, in_BatchHall, by decide +kernel, by decide, by decide⟩, kt_H_isBelow⟩
theorem d_H_from_11 : decode me_H_from.2.1 11 = .ok (.ifCond .eq (23), 3) := by decide +kernel
theorem d_H_from_14 : decode me_H_from.2.1 14 = .ok (.iload_n 2, 1) := by decide +kernel
theorem d_H_from_15 : decode me_H_from.2.1 15 = .ok (.aload_n 0, 1) := by decide +kernel
theorem d_H_from_16 : decode me_H_from.2.1 16 = .ok (.getfield 44, 3) := by decide +kernel
theorem g_H_from_16 : bm_gf me_H_from 16 0 6 := ⟨_, _, _, _, d_H_from_16, rfl, by decide, uw_H, fl_H_44⟩
theorem d_H_from_19 : decode me_H_from.2.1 19 = .ok (.getfield 206, 3) := by decide +kernel
theorem g_H_from_19 : bm_gf me_H_from 19 4 1 := ⟨_, _, _, _, d_H_from_19, rfl, by decide, uw_K, fl_H_206⟩
theorem d_H_from_22 : decode me_H_from.2.1 22 = .ok (.iload_n 1, 1) := by decide +kernel
theorem d_H_from_23 : decode me_H_from.2.1 23 = .ok (.aaload, 1) := by decide +kernel
theorem d_H_from_24 : decode me_H_from.2.1 24 = .ok (.getfield 222, 3) := by decide +kernel
theorem g_H_from_24 : bm_gf me_H_from 24 3 2 := ⟨_, _, _, _, d_H_from_24, rfl, by decide, uw_L, fl_H_222⟩
theorem d_H_from_27 : decode me_H_from.2.1 27 = .ok (.arraylength, 1) := by decide +kernel
theorem d_H_from_28 : decode me_H_from.2.1 28 = .ok (.invokestatic 46, 3) := by decide +kernel
theorem c_H_from_28 : bm_is me_H_from me_H_isBelow 28 2 := ⟨_, d_H_from_28, Or.inl ml_H_46, ⟨kc_H_isBelow, in_BatchHall, by decide +kernel, by decide, by decide⟩, kt_H_isBelow⟩
theorem d_H_from_31 : decode me_H_from.2.1 31 = .ok (.ifCond .ne (5), 3) := by decide +kernel
theorem d_H_from_34 : decode me_H_from.2.1 34 = .ok (.iconst (-1), 1) := by decide +kernel
theorem d_H_from_35 : decode me_H_from.2.1 35 = .ok (.ireturn, 1) := by decide +kernel
theorem d_H_from_36 : decode me_H_from.2.1 36 = .ok (.iload_n 3, 1) := by decide +kernel
theorem d_H_from_37 : decode me_H_from.2.1 37 = .ok (.lookupswitch (57) #[((0), (27)), ((1), (42))], 27) := by decide +kernel
theorem d_H_from_64 : decode me_H_from.2.1 64 = .ok (.aload_n 0, 1) := by decide +kernel
theorem d_H_from_65 : decode me_H_from.2.1 65 = .ok (.getfield 44, 3) := by decide +kernel
theorem g_H_from_65 : bm_gf me_H_from 65 0 6 := ⟨_, _, _, _, d_H_from_65, rfl, by decide, uw_H, fl_H_44⟩
theorem d_H_from_68 : decode me_H_from.2.1 68 = .ok (.getfield 206, 3) := by decide +kernel
theorem g_H_from_68 : bm_gf me_H_from 68 4 1 := ⟨_, _, _, _, d_H_from_68, rfl, by decide, uw_K, fl_H_206⟩
theorem d_H_from_71 : decode me_H_from.2.1 71 = .ok (.iload_n 1, 1) := by decide +kernel
theorem d_H_from_72 : decode me_H_from.2.1 72 = .ok (.aaload, 1) := by decide +kernel
theorem d_H_from_73 : decode me_H_from.2.1 73 = .ok (.getfield 222, 3) := by decide +kernel
theorem g_H_from_73 : bm_gf me_H_from 73 3 2 := ⟨_, _, _, _, d_H_from_73, rfl, by decide, uw_L, fl_H_222⟩
theorem d_H_from_76 : decode me_H_from.2.1 76 = .ok (.iload_n 2, 1) := by decide +kernel
theorem d_H_from_77 : decode me_H_from.2.1 77 = .ok (.iaload, 1) := by decide +kernel
theorem d_H_from_78 : decode me_H_from.2.1 78 = .ok (.ireturn, 1) := by decide +kernel
theorem d_H_from_79 : decode me_H_from.2.1 79 = .ok (.aload_n 0, 1) := by decide +kernel
theorem d_H_from_80 : decode me_H_from.2.1 80 = .ok (.getfield 44, 3) := by decide +kernel
theorem g_H_from_80 : bm_gf me_H_from 80 0 6 := ⟨_, _, _, _, d_H_from_80, rfl, by decide, uw_H, fl_H_44⟩
theorem d_H_from_83 : decode me_H_from.2.1 83 = .ok (.getfield 206, 3) := by decide +kernel
theorem g_H_from_83 : bm_gf me_H_from 83 4 1 := ⟨_, _, _, _, d_H_from_83, rfl, by decide, uw_K, fl_H_206⟩
theorem d_H_from_86 : decode me_H_from.2.1 86 = .ok (.iload_n 1, 1) := by decide +kernel
theorem d_H_from_87 : decode me_H_from.2.1 87 = .ok (.aaload, 1) := by decide +kernel
theorem d_H_from_88 : decode me_H_from.2.1 88 = .ok (.getfield 228, 3) := by decide +kernel
theorem g_H_from_88 : bm_gf me_H_from 88 3 3 := ⟨_, _, _, _, d_H_from_88, rfl, by decide, uw_L, fl_H_228⟩
theorem d_H_from_91 : decode me_H_from.2.1 91 = .ok (.iload_n 2, 1) := by decide +kernel
theorem d_H_from_92 : decode me_H_from.2.1 92 = .ok (.iaload, 1) := by decide +kernel
theorem d_H_from_93 : decode me_H_from.2.1 93 = .ok (.ireturn, 1) := by decide +kernel
theorem d_H_from_94 : decode me_H_from.2.1 94 = .ok (.iconst (-1), 1) := by decide +kernel
theorem d_H_from_95 : decode me_H_from.2.1 95 = .ok (.ireturn, 1) := by decide +kernel
theorem d_H_trace_0 : decode me_H_trace.2.1 0 = .ok (.iload_n 1, 1) := by decide +kernel
theorem d_H_trace_1 : decode me_H_trace.2.1 1 = .ok (.aload_n 0, 1) := by decide +kernel
theorem d_H_trace_2 : decode me_H_trace.2.1 2 = .ok (.getfield 44, 3) := by decide +kernel
theorem g_H_trace_2 : bm_gf me_H_trace 2 0 6 := ⟨_, _, _, _, d_H_trace_2, rfl, by decide, uw_H, fl_H_44⟩
theorem d_H_trace_5 : decode me_H_trace.2.1 5 = .ok (.getfield 201, 3) := by decide +kernel
theorem g_H_trace_5 : bm_gf me_H_trace 5 4 0 := ⟨_, _, _, _, d_H_trace_5, rfl, by decide, uw_K, fl_H_201⟩
theorem d_H_trace_8 : decode me_H_trace.2.1 8 = .ok (.invokestatic 46, 3) := by decide +kernel
theorem c_H_trace_8 : bm_is me_H_trace me_H_isBelow 8 2 := ⟨_, d_H_trace_8, Or.inl ml_H_46, ⟨kc_H_isBelow, in_BatchHall, by decide +kernel, by decide, by decide⟩, kt_H_isBelow⟩
theorem d_H_trace_11 : decode me_H_trace.2.1 11 = .ok (.ifCond .eq (17), 3) := by decide +kernel
theorem d_H_trace_14 : decode me_H_trace.2.1 14 = .ok (.iload_n 3, 1) := by decide +kernel
theorem d_H_trace_15 : decode me_H_trace.2.1 15 = .ok (.aload_n 0, 1) := by decide +kernel
theorem d_H_trace_16 : decode me_H_trace.2.1 16 = .ok (.getfield 44, 3) := by decide +kernel
theorem g_H_trace_16 : bm_gf me_H_trace 16 0 6 := ⟨_, _, _, _, d_H_trace_16, rfl, by decide, uw_H, fl_H_44⟩
theorem d_H_trace_19 : decode me_H_trace.2.1 19 = .ok (.getfield 201, 3) := by decide +kernel
theorem g_H_trace_19 : bm_gf me_H_trace 19 4 0 := ⟨_, _, _, _, d_H_trace_19, rfl, by decide, uw_K, fl_H_201⟩
theorem d_H_trace_22 : decode me_H_trace.2.1 22 = .ok (.invokestatic 46, 3) := by decide +kernel
theorem c_H_trace_22 : bm_is me_H_trace me_H_isBelow 22 2 := ⟨_, d_H_trace_22, Or.inl ml_H_46, ⟨kc_H_isBelow, in_BatchHall, by decide +kernel, by decide, by decide⟩, kt_H_isBelow⟩
theorem d_H_trace_25 : decode me_H_trace.2.1 25 = .ok (.ifCond .ne (5), 3) := by decide +kernel
theorem d_H_trace_28 : decode me_H_trace.2.1 28 = .ok (.iconst (-1), 1) := by decide +kernel
theorem d_H_trace_29 : decode me_H_trace.2.1 29 = .ok (.ireturn, 1) := by decide +kernel
theorem d_H_trace_30 : decode me_H_trace.2.1 30 = .ok (.iload_n 2, 1) := by decide +kernel
theorem d_H_trace_31 : decode me_H_trace.2.1 31 = .ok (.ifCond .eq (14), 3) := by decide +kernel
theorem d_H_trace_34 : decode me_H_trace.2.1 34 = .ok (.aload_n 0, 1) := by decide +kernel
theorem d_H_trace_35 : decode me_H_trace.2.1 35 = .ok (.getfield 44, 3) := by decide +kernel
theorem g_H_trace_35 : bm_gf me_H_trace 35 0 6 := ⟨_, _, _, _, d_H_trace_35, rfl, by decide, uw_H, fl_H_44⟩
theorem d_H_trace_38 : decode me_H_trace.2.1 38 = .ok (.iload_n 1, 1) := by decide +kernel
theorem d_H_trace_39 : decode me_H_trace.2.1 39 = .ok (.invokevirtual 231, 3) := by decide +kernel
theorem c_H_trace_39 : bm_iv me_H_trace me_K_markOutcomes 39 4 1 := ⟨_, d_H_trace_39, Or.inl ml_H_231, ⟨kc_K_markOutcomes, in_BatchHall_LotBook, by decide +kernel, by decide, by decide⟩, ki_K_markOutcomes, ks_K_markOutcomes, _, _, rfl⟩
theorem d_H_trace_42 : decode me_H_trace.2.1 42 = .ok (.goto (11), 3) := by decide +kernel
theorem d_H_trace_45 : decode me_H_trace.2.1 45 = .ok (.aload_n 0, 1) := by decide +kernel
theorem d_H_trace_46 : decode me_H_trace.2.1 46 = .ok (.getfield 44, 3) := by decide +kernel
theorem g_H_trace_46 : bm_gf me_H_trace 46 0 6 := ⟨_, _, _, _, d_H_trace_46, rfl, by decide, uw_H, fl_H_44⟩
theorem d_H_trace_49 : decode me_H_trace.2.1 49 = .ok (.iload_n 1, 1) := by decide +kernel
theorem d_H_trace_50 : decode me_H_trace.2.1 50 = .ok (.invokevirtual 235, 3) := by decide +kernel
theorem c_H_trace_50 : bm_iv me_H_trace me_K_markOrigins 50 4 1 := ⟨_, d_H_trace_50, Or.inl ml_H_235, ⟨kc_K_markOrigins, in_BatchHall_LotBook, by decide +kernel, by decide, by decide⟩, ki_K_markOrigins, ks_K_markOrigins, _, _, rfl⟩
theorem d_H_trace_53 : decode me_H_trace.2.1 53 = .ok (.aload_n 0, 1) := by decide +kernel
theorem d_H_trace_54 : decode me_H_trace.2.1 54 = .ok (.getfield 44, 3) := by decide +kernel
theorem g_H_trace_54 : bm_gf me_H_trace 54 0 6 := ⟨_, _, _, _, d_H_trace_54, rfl, by decide, uw_H, fl_H_44⟩
theorem d_H_trace_57 : decode me_H_trace.2.1 57 = .ok (.iload_n 3, 1) := by decide +kernel
theorem d_H_trace_58 : decode me_H_trace.2.1 58 = .ok (.invokevirtual 238, 3) := by decide +kernel
theorem c_H_trace_58 : bm_iv me_H_trace me_K_findMarked 58 4 1 := ⟨_, d_H_trace_58, Or.inl ml_H_238, ⟨kc_K_findMarked, in_BatchHall_LotBook, by decide +kernel, by decide, by decide⟩, ki_K_findMarked, ks_K_findMarked, _, _, rfl⟩
theorem d_H_trace_61 : decode me_H_trace.2.1 61 = .ok (.ireturn, 1) := by decide +kernel
theorem d_H_lots_0 : decode me_H_lots.2.1 0 = .ok (.aload_n 0, 1) := by decide +kernel
theorem d_H_lots_1 : decode me_H_lots.2.1 1 = .ok (.getfield 44, 3) := by decide +kernel
theorem g_H_lots_1 : bm_gf me_H_lots 1 0 6 := ⟨_, _, _, _, d_H_lots_1, rfl, by decide, uw_H, fl_H_44⟩
theorem d_H_lots_4 : decode me_H_lots.2.1 4 = .ok (.getfield 201, 3) := by decide +kernel
theorem g_H_lots_4 : bm_gf me_H_lots 4 4 0 := ⟨_, _, _, _, d_H_lots_4, rfl, by decide, uw_K, fl_H_201⟩
theorem d_H_lots_7 : decode me_H_lots.2.1 7 = .ok (.ireturn, 1) := by decide +kernel
