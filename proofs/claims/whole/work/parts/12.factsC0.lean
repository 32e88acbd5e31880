theorem d_C_init_0 : decode me_C_init.2.1 0 = .ok (.aload_n 0, 1) := by decide +kernel
theorem d_C_init_1 : decode me_C_init.2.1 1 = .ok (.invokespecial 3, 3) := by decide +kernel
theorem c_C_init_1 : bm_io me_C_init 1 := ⟨_, d_C_init_1, ml_C_3, ki_obj, kc_obj, by decide, by decide⟩
theorem d_C_init_4 : decode me_C_init.2.1 4 = .ok (.aload_n 0, 1) := by decide +kernel
theorem d_C_init_5 : decode me_C_init.2.1 5 = .ok (.bipush (12), 2) := by decide +kernel
theorem d_C_init_7 : decode me_C_init.2.1 7 = .ok (.newarray .int, 2) := by decide +kernel
theorem n_C_init_7 : bm_na me_C_init 7 0 .int := ⟨_, d_C_init_7, rfl, ac_int, rfl, by decide⟩
theorem d_C_init_9 : decode me_C_init.2.1 9 = .ok (.putfield 9, 3) := by decide +kernel
theorem p_C_init_9 : bm_pf me_C_init 9 7 0 (.array .int) := ⟨_, _, _, _, ty_C, d_C_init_9, rfl, by decide, uw_C, fl_C_9, tk_C, nm_C, rfl, Or.inr ⟨rfl, rfl, rfl⟩⟩
theorem d_C_init_12 : decode me_C_init.2.1 12 = .ok (.aload_n 0, 1) := by decide +kernel
theorem d_C_init_13 : decode me_C_init.2.1 13 = .ok (.bipush (12), 2) := by decide +kernel
theorem d_C_init_15 : decode me_C_init.2.1 15 = .ok (.newarray .int, 2) := by decide +kernel
theorem n_C_init_15 : bm_na me_C_init 15 0 .int := ⟨_, d_C_init_15, rfl, ac_int, rfl, by decide⟩
theorem d_C_init_17 : decode me_C_init.2.1 17 = .ok (.putfield 15, 3) := by decide +kernel
theorem p_C_init_17 : bm_pf me_C_init 17 7 1 (.array .int) := ⟨_, _, _, _, ty_C, d_C_init_17, rfl, by decide, uw_C, fl_C_15, tk_C, nm_C, rfl, Or.inr ⟨rfl, rfl, rfl⟩⟩
theorem d_C_init_20 : decode me_C_init.2.1 20 = .ok (.aload_n 0, 1) := by decide +kernel
theorem d_C_init_21 : decode me_C_init.2.1 21 = .ok (.bipush (12), 2) := by decide +kernel
theorem d_C_init_23 : decode me_C_init.2.1 23 = .ok (.newarray .int, 2) := by decide +kernel
theorem n_C_init_23 : bm_na me_C_init 23 0 .int := ⟨_, d_C_init_23, rfl, ac_int, rfl, by decide⟩
theorem d_C_init_25 : decode me_C_init.2.1 25 = .ok (.putfield 18, 3) := by decide +kernel
theorem p_C_init_25 : bm_pf me_C_init 25 7 2 (.array .int) := ⟨_, _, _, _, ty_C, d_C_init_25, rfl, by decide, uw_C, fl_C_18, tk_C, nm_C, rfl, Or.inr ⟨rfl, rfl, rfl⟩⟩
theorem d_C_init_28 : decode me_C_init.2.1 28 = .ok (.aload_n 0, 1) := by decide +kernel
theorem d_C_init_29 : decode me_C_init.2.1 29 = .ok (.bipush (25), 2) := by decide +kernel
theorem d_C_init_31 : decode me_C_init.2.1 31 = .ok (.newarray .int, 2) := by decide +kernel
theorem n_C_init_31 : bm_na me_C_init 31 0 .int := ⟨_, d_C_init_31, rfl, ac_int, rfl, by decide⟩
theorem d_C_init_33 : decode me_C_init.2.1 33 = .ok (.putfield 21, 3) := by decide +kernel
theorem p_C_init_33 : bm_pf me_C_init 33 7 3 (.array .int) := ⟨_, _, _, _, ty_C, d_C_init_33, rfl, by decide, uw_C, fl_C_21, tk_C, nm_C, rfl, Or.inr ⟨rfl, rfl, rfl⟩⟩
theorem d_C_init_36 : decode me_C_init.2.1 36 = .ok (.aload_n 0, 1) := by decide +kernel
theorem d_C_init_37 : decode me_C_init.2.1 37 = .ok (.bipush (12), 2) := by decide +kernel
theorem d_C_init_39 : decode me_C_init.2.1 39 = .ok (.newarray .int, 2) := by decide +kernel
theorem n_C_init_39 : bm_na me_C_init 39 0 .int := ⟨_, d_C_init_39, rfl, ac_int, rfl, by decide⟩
theorem d_C_init_41 : decode me_C_init.2.1 41 = .ok (.putfield 24, 3) := by decide +kernel
theorem p_C_init_41 : bm_pf me_C_init 41 7 4 (.array .int) := ⟨_, _, _, _, ty_C, d_C_init_41, rfl, by decide, uw_C, fl_C_24, tk_C, nm_C, rfl, Or.inr ⟨rfl, rfl, rfl⟩⟩
theorem d_C_init_44 : decode me_C_init.2.1 44 = .ok (.aload_n 0, 1) := by decide +kernel
theorem d_C_init_45 : decode me_C_init.2.1 45 = .ok (.bipush (25), 2) := by decide +kernel
theorem d_C_init_47 : decode me_C_init.2.1 47 = .ok (.newarray .int, 2) := by decide +kernel
theorem n_C_init_47 : bm_na me_C_init 47 0 .int := ⟨_, d_C_init_47, rfl, ac_int, rfl, by decide⟩
theorem d_C_init_49 : decode me_C_init.2.1 49 = .ok (.putfield 27, 3) := by decide +kernel
theorem p_C_init_49 : bm_pf me_C_init 49 7 5 (.array .int) := ⟨_, _, _, _, ty_C, d_C_init_49, rfl, by decide, uw_C, fl_C_27, tk_C, nm_C, rfl, Or.inr ⟨rfl, rfl, rfl⟩⟩
theorem d_C_init_52 : decode me_C_init.2.1 52 = .ok (.return_, 1) := by decide +kernel
theorem d_C_findFault_0 : decode me_C_findFault.2.1 0 = .ok (.aload_n 0, 1) := by decide +kernel
theorem d_C_findFault_1 : decode me_C_findFault.2.1 1 = .ok (.aload_n 1, 1) := by decide +kernel
theorem d_C_findFault_2 : decode me_C_findFault.2.1 2 = .ok (.invokevirtual 30, 3) := by decide +kernel
theorem c_C_findFault_2 : bm_iv me_C_findFault me_C_isSound 2 7 1 := ⟨_, d_C_findFault_2, Or.inl ml_C_30, ⟨kc_C_isSound, in_BatchHall_ReleaseCheck, by decide +kernel, by decide, by decide⟩, ki_C_isSound, ks_C_isSound, _, _, rfl⟩
theorem d_C_findFault_5 : decode me_C_findFault.2.1 5 = .ok (.ifCond .ne (5), 3) := by decide +kernel
theorem d_C_findFault_8 : decode me_C_findFault.2.1 8 = .ok (.iconst 1, 1) := by decide +kernel
theorem d_C_findFault_9 : decode me_C_findFault.2.1 9 = .ok (.ireturn, 1) := by decide +kernel
theorem d_C_findFault_10 : decode me_C_findFault.2.1 10 = .ok (.aload_n 0, 1) := by decide +kernel
theorem d_C_findFault_11 : decode me_C_findFault.2.1 11 = .ok (.aload_n 1, 1) := by decide +kernel
theorem d_C_findFault_12 : decode me_C_findFault.2.1 12 = .ok (.invokevirtual 34, 3) := by decide +kernel
theorem c_C_findFault_12 : bm_iv me_C_findFault me_C_isAllReached 12 7 1 := ⟨_, d_C_findFault_12, Or.inl ml_C_34, ⟨kc_C_isAllReached, in_BatchHall_ReleaseCheck, by decide +kernel, by decide, by decide⟩, ki_C_isAllReached, ks_C_isAllReached, _, _, rfl⟩
theorem d_C_findFault_15 : decode me_C_findFault.2.1 15 = .ok (.ifCond .ne (5), 3) := by decide +kernel
theorem d_C_findFault_18 : decode me_C_findFault.2.1 18 = .ok (.iconst 2, 1) := by decide +kernel
theorem d_C_findFault_19 : decode me_C_findFault.2.1 19 = .ok (.ireturn, 1) := by decide +kernel
theorem d_C_findFault_20 : decode me_C_findFault.2.1 20 = .ok (.aload_n 0, 1) := by decide +kernel
theorem d_C_findFault_21 : decode me_C_findFault.2.1 21 = .ok (.aload_n 1, 1) := by decide +kernel
theorem d_C_findFault_22 : decode me_C_findFault.2.1 22 = .ok (.invokevirtual 37, 3) := by decide +kernel
theorem c_C_findFault_22 : bm_iv me_C_findFault me_C_isWellBranched 22 7 1 := ⟨_, d_C_findFault_22, Or.inl ml_C_37, ⟨kc_C_isWellBranched, in_BatchHall_ReleaseCheck, by decide +kernel, by decide, by decide⟩, ki_C_isWellBranched, ks_C_isWellBranched, _, _, rfl⟩
theorem d_C_findFault_25 : decode me_C_findFault.2.1 25 = .ok (.ifCond .ne (5), 3) := by decide +kernel
theorem d_C_findFault_28 : decode me_C_findFault.2.1 28 = .ok (.iconst 3, 1) := by decide +kernel
theorem d_C_findFault_29 : decode me_C_findFault.2.1 29 = .ok (.ireturn, 1) := by decide +kernel
theorem d_C_findFault_30 : decode me_C_findFault.2.1 30 = .ok (.aload_n 0, 1) := by decide +kernel
theorem d_C_findFault_31 : decode me_C_findFault.2.1 31 = .ok (.aload_n 1, 1) := by decide +kernel
theorem d_C_findFault_32 : decode me_C_findFault.2.1 32 = .ok (.invokevirtual 40, 3) := by decide +kernel
theorem c_C_findFault_32 : bm_iv me_C_findFault me_C_isMeasuredForChoices 32 7 1 := ⟨_, d_C_findFault_32, Or.inl ml_C_40, ⟨kc_C_isMeasuredForChoices, in_BatchHall_ReleaseCheck, by decide +kernel, by decide, by decide⟩, ki_C_isMeasuredForChoices, ks_C_isMeasuredForChoices, _, _, rfl⟩
theorem d_C_findFault_35 : decode me_C_findFault.2.1 35 = .ok (.ifCond .ne (5), 3) := by decide +kernel
theorem d_C_findFault_38 : decode me_C_findFault.2.1 38 = .ok (.iconst 4, 1) := by decide +kernel
theorem d_C_findFault_39 : decode me_C_findFault.2.1 39 = .ok (.ireturn, 1) := by decide +kernel
theorem d_C_findFault_40 : decode me_C_findFault.2.1 40 = .ok (.aload_n 0, 1) := by decide +kernel
theorem d_C_findFault_41 : decode me_C_findFault.2.1 41 = .ok (.aload_n 1, 1) := by decide +kernel
theorem d_C_findFault_42 : decode me_C_findFault.2.1 42 = .ok (.aload_n 2, 1) := by decide +kernel
theorem d_C_findFault_43 : decode me_C_findFault.2.1 43 = .ok (.invokevirtual 43, 3) := by decide +kernel
theorem c_C_findFault_43 : bm_iv me_C_findFault me_C_hasEnoughUnits 43 7 2 := ⟨_, d_C_findFault_43, Or.inl ml_C_43, ⟨kc_C_hasEnoughUnits, in_BatchHall_ReleaseCheck, by decide +kernel, by decide, by decide⟩, ki_C_hasEnoughUnits, ks_C_hasEnoughUnits, _, _, rfl⟩
theorem d_C_findFault_46 : decode me_C_findFault.2.1 46 = .ok (.ifCond .eq (7), 3) := by decide +kernel
theorem d_C_findFault_49 : decode me_C_findFault.2.1 49 = .ok (.iconst 0, 1) := by decide +kernel
theorem d_C_findFault_50 : decode me_C_findFault.2.1 50 = .ok (.goto (4), 3) := by decide +kernel
theorem d_C_findFault_53 : decode me_C_findFault.2.1 53 = .ok (.iconst 5, 1) := by decide +kernel
theorem d_C_findFault_54 : decode me_C_findFault.2.1 54 = .ok (.ireturn, 1) := by decide +kernel
theorem d_C_isSound_0 : decode me_C_isSound.2.1 0 = .ok (.iconst 0, 1) := by decide +kernel
theorem d_C_isSound_1 : decode me_C_isSound.2.1 1 = .ok (.istore_n 2, 1) := by decide +kernel
theorem d_C_isSound_2 : decode me_C_isSound.2.1 2 = .ok (.iload_n 2, 1) := by decide +kernel
theorem d_C_isSound_3 : decode me_C_isSound.2.1 3 = .ok (.aload_n 1, 1) := by decide +kernel
theorem d_C_isSound_4 : decode me_C_isSound.2.1 4 = .ok (.getfield 47, 3) := by decide +kernel
theorem g_C_isSound_4 : bm_gf me_C_isSound 4 6 1 := ⟨_, _, _, _, d_C_isSound_4, rfl, by decide, uw_R, fl_C_47⟩
theorem d_C_isSound_7 : decode me_C_isSound.2.1 7 = .ok (.if_icmp .ge (34), 3) := by decide +kernel
theorem d_C_isSound_10 : decode me_C_isSound.2.1 10 = .ok (.aload_n 0, 1) := by decide +kernel
theorem d_C_isSound_11 : decode me_C_isSound.2.1 11 = .ok (.aload_n 1, 1) := by decide +kernel
theorem d_C_isSound_12 : decode me_C_isSound.2.1 12 = .ok (.aload_n 1, 1) := by decide +kernel
theorem d_C_isSound_13 : decode me_C_isSound.2.1 13 = .ok (.getfield 53, 3) := by decide +kernel
theorem g_C_isSound_13 : bm_gf me_C_isSound 13 6 3 := ⟨_, _, _, _, d_C_isSound_13, rfl, by decide, uw_R, fl_C_53⟩
theorem d_C_isSound_16 : decode me_C_isSound.2.1 16 = .ok (.iload_n 2, 1) := by decide +kernel
theorem d_C_isSound_17 : decode me_C_isSound.2.1 17 = .ok (.aaload, 1) := by decide +kernel
theorem d_C_isSound_18 : decode me_C_isSound.2.1 18 = .ok (.invokevirtual 57, 3) := by decide +kernel
theorem c_C_isSound_18 : bm_iv me_C_isSound me_C_hasSoundNumbers 18 7 2 := ⟨_, d_C_isSound_18, Or.inl ml_C_57, ⟨kc_C_hasSoundNumbers, in_BatchHall_ReleaseCheck, by decide +kernel, by decide, by decide⟩, ki_C_hasSoundNumbers, ks_C_hasSoundNumbers, _, _, rfl⟩
theorem d_C_isSound_21 : decode me_C_isSound.2.1 21 = .ok (.ifCond .eq (12), 3) := by decide +kernel
theorem d_C_isSound_24 : decode me_C_isSound.2.1 24 = .ok (.aload_n 0, 1) := by decide +kernel
theorem d_C_isSound_25 : decode me_C_isSound.2.1 25 = .ok (.aload_n 1, 1) := by decide +kernel
theorem d_C_isSound_26 : decode me_C_isSound.2.1 26 = .ok (.iload_n 2, 1) := by decide +kernel
theorem d_C_isSound_27 : decode me_C_isSound.2.1 27 = .ok (.invokevirtual 61, 3) := by decide +kernel
theorem c_C_isSound_27 : bm_iv me_C_isSound me_C_hasSoundLinks 27 7 2 := ⟨_, d_C_isSound_27, Or.inl ml_C_61, ⟨kc_C_hasSoundLinks, in_BatchHall_ReleaseCheck, by decide +kernel, by decide, by decide⟩, ki_C_hasSoundLinks, ks_C_hasSoundLinks, _, _, rfl⟩
theorem d_C_isSound_30 : decode me_C_isSound.2.1 30 = .ok (.ifCond .ne (5), 3) := by decide +kernel
theorem d_C_isSound_33 : decode me_C_isSound.2.1 33 = .ok (.iconst 0, 1) := by decide +kernel
theorem d_C_isSound_34 : decode me_C_isSound.2.1 34 = .ok (.ireturn, 1) := by decide +kernel
theorem d_C_isSound_35 : decode me_C_isSound.2.1 35 = .ok (.iinc 2 (1), 3) := by decide +kernel
theorem d_C_isSound_38 : decode me_C_isSound.2.1 38 = .ok (.goto (-36), 3) := by decide +kernel
theorem d_C_isSound_41 : decode me_C_isSound.2.1 41 = .ok (.aload_n 1, 1) := by decide +kernel
theorem d_C_isSound_42 : decode me_C_isSound.2.1 42 = .ok (.getfield 47, 3) := by decide +kernel
theorem g_C_isSound_42 : bm_gf me_C_isSound 42 6 1 := ⟨_, _, _, _, d_C_isSound_42, rfl, by decide, uw_R, fl_C_47⟩
theorem d_C_isSound_45 : decode me_C_isSound.2.1 45 = .ok (.ifCond .le (7), 3) := by decide +kernel
theorem d_C_isSound_48 : decode me_C_isSound.2.1 48 = .ok (.iconst 1, 1) := by decide +kernel
theorem d_C_isSound_49 : decode me_C_isSound.2.1 49 = .ok (.goto (4), 3) := by decide +kernel
theorem d_C_isSound_52 : decode me_C_isSound.2.1 52 = .ok (.iconst 0, 1) := by decide +kernel
theorem d_C_isSound_53 : decode me_C_isSound.2.1 53 = .ok (.ireturn, 1) := by decide +kernel
theorem d_C_hasSoundNumbers_0 : decode me_C_hasSoundNumbers.2.1 0 = .ok (.aload_n 2, 1) := by decide +kernel
theorem d_C_hasSoundNumbers_1 : decode me_C_hasSoundNumbers.2.1 1 = .ok (.getfield 65, 3) := by decide +kernel
theorem g_C_hasSoundNumbers_1 : bm_gf me_C_hasSoundNumbers 1 8 0 := ⟨_, _, _, _, d_C_hasSoundNumbers_1, rfl, by decide, uw_S, fl_C_65⟩
theorem d_C_hasSoundNumbers_4 : decode me_C_hasSoundNumbers.2.1 4 = .ok (.tableswitch (244) (0) (8) #[(52), (95), (129), (95), (185), (244), (244), (213), (222)], 52) := by decide +kernel
theorem d_C_hasSoundNumbers_56 : decode me_C_hasSoundNumbers.2.1 56 = .ok (.aload_n 1, 1) := by decide +kernel
theorem d_C_hasSoundNumbers_57 : decode me_C_hasSoundNumbers.2.1 57 = .ok (.aload_n 2, 1) := by decide +kernel
theorem d_C_hasSoundNumbers_58 : decode me_C_hasSoundNumbers.2.1 58 = .ok (.getfield 70, 3) := by decide +kernel
theorem g_C_hasSoundNumbers_58 : bm_gf me_C_hasSoundNumbers 58 8 1 := ⟨_, _, _, _, d_C_hasSoundNumbers_58, rfl, by decide, uw_S, fl_C_70⟩
theorem d_C_hasSoundNumbers_61 : decode me_C_hasSoundNumbers.2.1 61 = .ok (.invokevirtual 73, 3) := by decide +kernel
theorem c_C_hasSoundNumbers_61 : bm_iv me_C_hasSoundNumbers me_R_hasRole 61 6 1 := ⟨_, d_C_hasSoundNumbers_61, Or.inl ml_C_73, ⟨kc_R_hasRole, in_BatchHall_Recipe, by decide +kernel, by decide, by decide⟩, ki_R_hasRole, ks_R_hasRole, _, _, rfl⟩
theorem d_C_hasSoundNumbers_64 : decode me_C_hasSoundNumbers.2.1 64 = .ok (.ifCond .eq (33), 3) := by decide +kernel
theorem d_C_hasSoundNumbers_67 : decode me_C_hasSoundNumbers.2.1 67 = .ok (.aload_n 2, 1) := by decide +kernel
theorem d_C_hasSoundNumbers_68 : decode me_C_hasSoundNumbers.2.1 68 = .ok (.getfield 77, 3) := by decide +kernel
theorem g_C_hasSoundNumbers_68 : bm_gf me_C_hasSoundNumbers 68 8 2 := ⟨_, _, _, _, d_C_hasSoundNumbers_68, rfl, by decide, uw_S, fl_C_77⟩
theorem d_C_hasSoundNumbers_71 : decode me_C_hasSoundNumbers.2.1 71 = .ok (.sipush (501), 3) := by decide +kernel
theorem d_C_hasSoundNumbers_74 : decode me_C_hasSoundNumbers.2.1 74 = .ok (.invokestatic 80, 3) := by decide +kernel
theorem c_C_hasSoundNumbers_74 : bm_is me_C_hasSoundNumbers me_H_isBelow 74 2 := ⟨_, d_C_hasSoundNumbers_74, Or.inr ⟨"BatchHall", by decide +kernel⟩, ⟨kc_H_isBelow, in_BatchHall, by decide +kernel, by decide, by decide⟩, kt_H_isBelow⟩
theorem d_C_hasSoundNumbers_77 : decode me_C_hasSoundNumbers.2.1 77 = .ok (.ifCond .eq (20), 3) := by decide +kernel
theorem d_C_hasSoundNumbers_80 : decode me_C_hasSoundNumbers.2.1 80 = .ok (.aload_n 2, 1) := by decide +kernel
theorem d_C_hasSoundNumbers_81 : decode me_C_hasSoundNumbers.2.1 81 = .ok (.getfield 84, 3) := by decide +kernel
theorem g_C_hasSoundNumbers_81 : bm_gf me_C_hasSoundNumbers 81 8 3 := ⟨_, _, _, _, d_C_hasSoundNumbers_81, rfl, by decide, uw_S, fl_C_84⟩
theorem d_C_hasSoundNumbers_84 : decode me_C_hasSoundNumbers.2.1 84 = .ok (.sipush (501), 3) := by decide +kernel
theorem d_C_hasSoundNumbers_87 : decode me_C_hasSoundNumbers.2.1 87 = .ok (.invokestatic 80, 3) := by decide +kernel
theorem c_C_hasSoundNumbers_87 : bm_is me_C_hasSoundNumbers me_H_isBelow 87 2 := ⟨_, d_C_hasSoundNumbers_87, Or.inr ⟨"BatchHall", by decide +kernel⟩, ⟨kc_H_isBelow, in_BatchHall, by decide +kernel, by decide, by decide⟩, kt_H_isBelow⟩
theorem d_C_hasSoundNumbers_90 : decode me_C_hasSoundNumbers.2.1 90 = .ok (.ifCond .eq (7), 3) := by decide +kernel
theorem d_C_hasSoundNumbers_93 : decode me_C_hasSoundNumbers.2.1 93 = .ok (.iconst 1, 1) := by decide +kernel
theorem d_C_hasSoundNumbers_94 : decode me_C_hasSoundNumbers.2.1 94 = .ok (.goto (4), 3) := by decide +kernel
theorem d_C_hasSoundNumbers_97 : decode me_C_hasSoundNumbers.2.1 97 = .ok (.iconst 0, 1) := by decide +kernel
theorem d_C_hasSoundNumbers_98 : decode me_C_hasSoundNumbers.2.1 98 = .ok (.ireturn, 1) := by decide +kernel
theorem d_C_hasSoundNumbers_99 : decode me_C_hasSoundNumbers.2.1 99 = .ok (.aload_n 1, 1) := by decide +kernel
theorem d_C_hasSoundNumbers_100 : decode me_C_hasSoundNumbers.2.1 100 = .ok (.aload_n 2, 1) := by decide +kernel
theorem d_C_hasSoundNumbers_101 : decode me_C_hasSoundNumbers.2.1 101 = .ok (.getfield 70, 3) := by decide +kernel
theorem g_C_hasSoundNumbers_101 : bm_gf me_C_hasSoundNumbers 101 8 1 := ⟨_, _, _, _, d_C_hasSoundNumbers_101, rfl, by decide, uw_S, fl_C_70⟩
theorem d_C_hasSoundNumbers_104 : decode me_C_hasSoundNumbers.2.1 104 = .ok (.invokevirtual 73, 3) := by decide +kernel
theorem c_C_hasSoundNumbers_104 : bm_iv me_C_hasSoundNumbers me_R_hasRole 104 6 1 := ⟨_, d_C_hasSoundNumbers_104, Or.inl ml_C_73, ⟨kc_R_hasRole, in_BatchHall_Recipe, by decide +kernel, by decide, by decide⟩, ki_R_hasRole, ks_R_hasRole, _, _, rfl⟩
theorem d_C_hasSoundNumbers_107 : decode me_C_hasSoundNumbers.2.1 107 = .ok (.ifCond .eq (24), 3) := by decide +kernel
theorem d_C_hasSoundNumbers_110 : decode me_C_hasSoundNumbers.2.1 110 = .ok (.aload_n 2, 1) := by decide +kernel
theorem d_C_hasSoundNumbers_111 : decode me_C_hasSoundNumbers.2.1 111 = .ok (.getfield 77, 3) := by decide +kernel
theorem g_C_hasSoundNumbers_111 : bm_gf me_C_hasSoundNumbers 111 8 2 := ⟨_, _, _, _, d_C_hasSoundNumbers_111, rfl, by decide, uw_S, fl_C_77⟩
theorem d_C_hasSoundNumbers_114 : decode me_C_hasSoundNumbers.2.1 114 = .ok (.iconst 1, 1) := by decide +kernel
theorem d_C_hasSoundNumbers_115 : decode me_C_hasSoundNumbers.2.1 115 = .ok (.if_icmp .lt (16), 3) := by decide +kernel
theorem d_C_hasSoundNumbers_118 : decode me_C_hasSoundNumbers.2.1 118 = .ok (.aload_n 2, 1) := by decide +kernel
theorem d_C_hasSoundNumbers_119 : decode me_C_hasSoundNumbers.2.1 119 = .ok (.getfield 77, 3) := by decide +kernel
theorem g_C_hasSoundNumbers_119 : bm_gf me_C_hasSoundNumbers 119 8 2 := ⟨_, _, _, _, d_C_hasSoundNumbers_119, rfl, by decide, uw_S, fl_C_77⟩
theorem d_C_hasSoundNumbers_122 : decode me_C_hasSoundNumbers.2.1 122 = .ok (.bipush (20), 2) := by decide +kernel
theorem d_C_hasSoundNumbers_124 : decode me_C_hasSoundNumbers.2.1 124 = .ok (.if_icmp .gt (7), 3) := by decide +kernel
theorem d_C_hasSoundNumbers_127 : decode me_C_hasSoundNumbers.2.1 127 = .ok (.iconst 1, 1) := by decide +kernel
theorem d_C_hasSoundNumbers_128 : decode me_C_hasSoundNumbers.2.1 128 = .ok (.goto (4), 3) := by decide +kernel
theorem d_C_hasSoundNumbers_131 : decode me_C_hasSoundNumbers.2.1 131 = .ok (.iconst 0, 1) := by decide +kernel
theorem d_C_hasSoundNumbers_132 : decode me_C_hasSoundNumbers.2.1 132 = .ok (.ireturn, 1) := by decide +kernel
theorem d_C_hasSoundNumbers_133 : decode me_C_hasSoundNumbers.2.1 133 = .ok (.aload_n 1, 1) := by decide +kernel
theorem d_C_hasSoundNumbers_134 : decode me_C_hasSoundNumbers.2.1 134 = .ok (.aload_n 2, 1) := by decide +kernel
theorem d_C_hasSoundNumbers_135 : decode me_C_hasSoundNumbers.2.1 135 = .ok (.getfield 70, 3) := by decide +kernel
theorem g_C_hasSoundNumbers_135 : bm_gf me_C_hasSoundNumbers 135 8 1 := ⟨_, _, _, _, d_C_hasSoundNumbers_135, rfl, by decide, uw_S, fl_C_70⟩
theorem d_C_hasSoundNumbers_138 : decode me_C_hasSoundNumbers.2.1 138 = .ok (.invokevirtual 73, 3) := by decide +kernel
theorem c_C_hasSoundNumbers_138 : bm_iv me_C_hasSoundNumbers me_R_hasRole 138 6 1 := ⟨_, d_C_hasSoundNumbers_138, Or.inl ml_C_73, ⟨kc_R_hasRole, in_BatchHall_Recipe, by decide +kernel, by decide, by decide⟩, ki_R_hasRole, ks_R_hasRole, _, _, rfl⟩
theorem d_C_hasSoundNumbers_141 : decode me_C_hasSoundNumbers.2.1 141 = .ok (.ifCond .eq (46), 3) := by decide +kernel
theorem d_C_hasSoundNumbers_144 : decode me_C_hasSoundNumbers.2.1 144 = .ok (.aload_n 1, 1) := by decide +kernel
theorem d_C_hasSoundNumbers_145 : decode me_C_hasSoundNumbers.2.1 145 = .ok (.aload_n 2, 1) := by decide +kernel
theorem d_C_hasSoundNumbers_146 : decode me_C_hasSoundNumbers.2.1 146 = .ok (.getfield 77, 3) := by decide +kernel
theorem g_C_hasSoundNumbers_146 : bm_gf me_C_hasSoundNumbers 146 8 2 := ⟨_, _, _, _, d_C_hasSoundNumbers_146, rfl, by decide, uw_S, fl_C_77⟩
theorem d_C_hasSoundNumbers_149 : decode me_C_hasSoundNumbers.2.1 149 = .ok (.invokevirtual 73, 3) := by decide +kernel
theorem c_C_hasSoundNumbers_149 : bm_iv me_C_hasSoundNumbers me_R_hasRole 149 6 1 := ⟨_, d_C_hasSoundNumbers_149, Or.inl ml_C_73, ⟨kc_R_hasRole, in_BatchHall_Recipe, by decide +kernel, by decide, by decide⟩, ki_R_hasRole, ks_R_hasRole, _, _, rfl⟩
theorem d_C_hasSoundNumbers_152 : decode me_C_hasSoundNumbers.2.1 152 = .ok (.ifCond .eq (35), 3) := by decide +kernel
theorem d_C_hasSoundNumbers_155 : decode me_C_hasSoundNumbers.2.1 155 = .ok (.aload_n 2, 1) := by decide +kernel
theorem d_C_hasSoundNumbers_156 : decode me_C_hasSoundNumbers.2.1 156 = .ok (.getfield 70, 3) := by decide +kernel
theorem g_C_hasSoundNumbers_156 : bm_gf me_C_hasSoundNumbers 156 8 1 := ⟨_, _, _, _, d_C_hasSoundNumbers_156, rfl, by decide, uw_S, fl_C_70⟩
theorem d_C_hasSoundNumbers_159 : decode me_C_hasSoundNumbers.2.1 159 = .ok (.aload_n 2, 1) := by decide +kernel
theorem d_C_hasSoundNumbers_160 : decode me_C_hasSoundNumbers.2.1 160 = .ok (.getfield 77, 3) := by decide +kernel
theorem g_C_hasSoundNumbers_160 : bm_gf me_C_hasSoundNumbers 160 8 2 := ⟨_, _, _, _, d_C_hasSoundNumbers_160, rfl, by decide, uw_S, fl_C_77⟩
theorem d_C_hasSoundNumbers_163 : decode me_C_hasSoundNumbers.2.1 163 = .ok (.if_icmp .eq (24), 3) := by decide +kernel
theorem d_C_hasSoundNumbers_166 : decode me_C_hasSoundNumbers.2.1 166 = .ok (.aload_n 2, 1) := by decide +kernel
theorem d_C_hasSoundNumbers_167 : decode me_C_hasSoundNumbers.2.1 167 = .ok (.getfield 84, 3) := by decide +kernel
theorem g_C_hasSoundNumbers_167 : bm_gf me_C_hasSoundNumbers 167 8 3 := ⟨_, _, _, _, d_C_hasSoundNumbers_167, rfl, by decide, uw_S, fl_C_84⟩
theorem d_C_hasSoundNumbers_170 : decode me_C_hasSoundNumbers.2.1 170 = .ok (.iconst 1, 1) := by decide +kernel
theorem d_C_hasSoundNumbers_171 : decode me_C_hasSoundNumbers.2.1 171 = .ok (.if_icmp .lt (16), 3) := by decide +kernel
theorem d_C_hasSoundNumbers_174 : decode me_C_hasSoundNumbers.2.1 174 = .ok (.aload_n 2, 1) := by decide +kernel
theorem d_C_hasSoundNumbers_175 : decode me_C_hasSoundNumbers.2.1 175 = .ok (.getfield 84, 3) := by decide +kernel
theorem g_C_hasSoundNumbers_175 : bm_gf me_C_hasSoundNumbers 175 8 3 := ⟨_, _, _, _, d_C_hasSoundNumbers_175, rfl, by decide, uw_S, fl_C_84⟩
theorem d_C_hasSoundNumbers_178 : decode me_C_hasSoundNumbers.2.1 178 = .ok (.bipush (100), 2) := by decide +kernel
theorem d_C_hasSoundNumbers_180 : decode me_C_hasSoundNumbers.2.1 180 = .ok (.if_icmp .gt (7), 3) := by decide +kernel
theorem d_C_hasSoundNumbers_183 : decode me_C_hasSoundNumbers.2.1 183 = .ok (.iconst 1, 1) := by decide +kernel
theorem d_C_hasSoundNumbers_184 : decode me_C_hasSoundNumbers.2.1 184 = .ok (.goto (4), 3) := by decide +kernel
theorem d_C_hasSoundNumbers_187 : decode me_C_hasSoundNumbers.2.1 187 = .ok (.iconst 0, 1) := by decide +kernel
theorem d_C_hasSoundNumbers_188 : decode me_C_hasSoundNumbers.2.1 188 = .ok (.ireturn, 1) := by decide +kernel
theorem d_C_hasSoundNumbers_189 : decode me_C_hasSoundNumbers.2.1 189 = .ok (.aload_n 1, 1) := by decide +kernel
theorem d_C_hasSoundNumbers_190 : decode me_C_hasSoundNumbers.2.1 190 = .ok (.aload_n 2, 1) := by decide +kernel
theorem d_C_hasSoundNumbers_191 : decode me_C_hasSoundNumbers.2.1 191 = .ok (.getfield 70, 3) := by decide +kernel
theorem g_C_hasSoundNumbers_191 : bm_gf me_C_hasSoundNumbers 191 8 1 := ⟨_, _, _, _, d_C_hasSoundNumbers_191, rfl, by decide, uw_S, fl_C_70⟩
theorem d_C_hasSoundNumbers_194 : decode me_C_hasSoundNumbers.2.1 194 = .ok (.invokevirtual 73, 3) := by decide +kernel
theorem c_C_hasSoundNumbers_194 : bm_iv me_C_hasSoundNumbers me_R_hasRole 194 6 1 := ⟨_, d_C_hasSoundNumbers_194, Or.inl ml_C_73, ⟨kc_R_hasRole, in_BatchHall_Recipe, by decide +kernel, by decide, by decide⟩, ki_R_hasRole, ks_R_hasRole, _, _, rfl⟩
theorem d_C_hasSoundNumbers_197 : decode me_C_hasSoundNumbers.2.1 197 = .ok (.ifCond .eq (18), 3) := by decide +kernel
theorem d_C_hasSoundNumbers_200 : decode me_C_hasSoundNumbers.2.1 200 = .ok (.aload_n 2, 1) := by decide +kernel
theorem d_C_hasSoundNumbers_201 : decode me_C_hasSoundNumbers.2.1 201 = .ok (.getfield 77, 3) := by decide +kernel
theorem g_C_hasSoundNumbers_201 : bm_gf me_C_hasSoundNumbers 201 8 2 := ⟨_, _, _, _, d_C_hasSoundNumbers_201, rfl, by decide, uw_S, fl_C_77⟩
theorem d_C_hasSoundNumbers_204 : decode me_C_hasSoundNumbers.2.1 204 = .ok (.iconst 4, 1) := by decide +kernel
theorem d_C_hasSoundNumbers_205 : decode me_C_hasSoundNumbers.2.1 205 = .ok (.invokestatic 80, 3) := by decide +kernel
theorem c_C_hasSoundNumbers_205 : bm_is me_C_hasSoundNumbers me_H_isBelow 205 2 := ⟨_, d_C_hasSoundNumbers_205, Or.inr ⟨"BatchHall", by decide +kernel⟩, ⟨kc_H_isBelow, in_BatchHall, by decide +kernel, by decide, by decide⟩, kt_H_isBelow⟩
theorem d_C_hasSoundNumbers_208 : decode me_C_hasSoundNumbers.2.1 208 = .ok (.ifCond .eq (7), 3) := by decide +kernel
theorem d_C_hasSoundNumbers_211 : decode me_C_hasSoundNumbers.2.1 211 = .ok (.iconst 1, 1) := by decide +kernel
theorem d_C_hasSoundNumbers_212 : decode me_C_hasSoundNumbers.2.1 212 = .ok (.goto (4), 3) := by decide +kernel
theorem d_C_hasSoundNumbers_215 : decode me_C_hasSoundNumbers.2.1 215 = .ok (.iconst 0, 1) := by decide +kernel
theorem d_C_hasSoundNumbers_216 : decode me_C_hasSoundNumbers.2.1 216 = .ok (.ireturn, 1) := by decide +kernel
theorem d_C_hasSoundNumbers_217 : decode me_C_hasSoundNumbers.2.1 217 = .ok (.aload_n 2, 1) := by decide +kernel
theorem d_C_hasSoundNumbers_218 : decode me_C_hasSoundNumbers.2.1 218 = .ok (.getfield 70, 3) := by decide +kernel
theorem g_C_hasSoundNumbers_218 : bm_gf me_C_hasSoundNumbers 218 8 1 := ⟨_, _, _, _, d_C_hasSoundNumbers_218, rfl, by decide, uw_S, fl_C_70⟩
theorem d_C_hasSoundNumbers_221 : decode me_C_hasSoundNumbers.2.1 221 = .ok (.iconst 4, 1) := by decide +kernel
theorem d_C_hasSoundNumbers_222 : decode me_C_hasSoundNumbers.2.1 222 = .ok (.invokestatic 80, 3) := by decide +kernel
theorem c_C_hasSoundNumbers_222 : bm_is me_C_hasSoundNumbers me_H_isBelow 222 2 := ⟨_, d_C_hasSoundNumbers_222, Or.inr ⟨"BatchHall", by decide +kernel⟩, ⟨kc_H_isBelow, in_BatchHall, by decide +kernel, by decide, by decide⟩, kt_H_isBelow⟩
theorem d_C_hasSoundNumbers_225 : decode me_C_hasSoundNumbers.2.1 225 = .ok (.ireturn, 1) := by decide +kernel
theorem d_C_hasSoundNumbers_226 : decode me_C_hasSoundNumbers.2.1 226 = .ok (.aload_n 2, 1) := by decide +kernel
theorem d_C_hasSoundNumbers_227 : decode me_C_hasSoundNumbers.2.1 227 = .ok (.getfield 70, 3) := by decide +kernel
theorem g_C_hasSoundNumbers_227 : bm_gf me_C_hasSoundNumbers 227 8 1 := ⟨_, _, _, _, d_C_hasSoundNumbers_227, rfl, by decide, uw_S, fl_C_70⟩
theorem d_C_hasSoundNumbers_230 : decode me_C_hasSoundNumbers.2.1 230 = .ok (.iconst 1, 1) := by decide +kernel
theorem d_C_hasSoundNumbers_231 : decode me_C_hasSoundNumbers.2.1 231 = .ok (.if_icmp .lt (15), 3) := by decide +kernel
theorem d_C_hasSoundNumbers_234 : decode me_C_hasSoundNumbers.2.1 234 = .ok (.aload_n 2, 1) := by decide +kernel
theorem d_C_hasSoundNumbers_235 : decode me_C_hasSoundNumbers.2.1 235 = .ok (.getfield 70, 3) := by decide +kernel
theorem g_C_hasSoundNumbers_235 : bm_gf me_C_hasSoundNumbers 235 8 1 := ⟨_, _, _, _, d_C_hasSoundNumbers_235, rfl, by decide, uw_S, fl_C_70⟩
theorem d_C_hasSoundNumbers_238 : decode me_C_hasSoundNumbers.2.1 238 = .ok (.iconst 5, 1) := by decide +kernel
theorem d_C_hasSoundNumbers_239 : decode me_C_hasSoundNumbers.2.1 239 = .ok (.if_icmp .gt (7), 3) := by decide +kernel
theorem d_C_hasSoundNumbers_242 : decode me_C_hasSoundNumbers.2.1 242 = .ok (.iconst 1, 1) := by decide +kernel
theorem d_C_hasSoundNumbers_243 : decode me_C_hasSoundNumbers.2.1 243 = .ok (.goto (4), 3) := by decide +kernel
theorem d_C_hasSoundNumbers_246 : decode me_C_hasSoundNumbers.2.1 246 = .ok (.iconst 0, 1) := by decide +kernel
theorem d_C_hasSoundNumbers_247 : decode me_C_hasSoundNumbers.2.1 247 = .ok (.ireturn, 1) := by decide +kernel
theorem d_C_hasSoundNumbers_248 : decode me_C_hasSoundNumbers.2.1 248 = .ok (.iconst 1, 1) := by decide +kernel
theorem d_C_hasSoundNumbers_249 : decode me_C_hasSoundNumbers.2.1 249 = .ok (.ireturn, 1) := by decide +kernel
theorem d_C_hasSoundLinks_0 : decode me_C_hasSoundLinks.2.1 0 = .ok (.aload_n 1, 1) := by decide +kernel
theorem d_C_hasSoundLinks_1 : decode me_C_hasSoundLinks.2.1 1 = .ok (.getfield 53, 3) := by decide +kernel
theorem g_C_hasSoundLinks_1 : bm_gf me_C_hasSoundLinks 1 6 3 := ⟨_, _, _, _, d_C_hasSoundLinks_1, rfl, by decide, uw_R, fl_C_53⟩
theorem d_C_hasSoundLinks_4 : decode me_C_hasSoundLinks.2.1 4 = .ok (.iload_n 2, 1) := by decide +kernel
theorem d_C_hasSoundLinks_5 : decode me_C_hasSoundLinks.2.1 5 = .ok (.aaload, 1) := by decide +kernel
theorem d_C_hasSoundLinks_6 : decode me_C_hasSoundLinks.2.1 6 = .ok (.astore_n 3, 1) := by decide +kernel
theorem d_C_hasSoundLinks_7 : decode me_C_hasSoundLinks.2.1 7 = .ok (.aload_n 3, 1) := by decide +kernel
theorem d_C_hasSoundLinks_8 : decode me_C_hasSoundLinks.2.1 8 = .ok (.getfield 65, 3) := by decide +kernel
theorem g_C_hasSoundLinks_8 : bm_gf me_C_hasSoundLinks 8 8 0 := ⟨_, _, _, _, d_C_hasSoundLinks_8, rfl, by decide, uw_S, fl_C_65⟩
theorem d_C_hasSoundLinks_11 : decode me_C_hasSoundLinks.2.1 11 = .ok (.bipush (9), 2) := by decide +kernel
theorem d_C_hasSoundLinks_13 : decode me_C_hasSoundLinks.2.1 13 = .ok (.if_icmp .ne (5), 3) := by decide +kernel
theorem d_C_hasSoundLinks_16 : decode me_C_hasSoundLinks.2.1 16 = .ok (.iconst 1, 1) := by decide +kernel
theorem d_C_hasSoundLinks_17 : decode me_C_hasSoundLinks.2.1 17 = .ok (.ireturn, 1) := by decide +kernel
theorem d_C_hasSoundLinks_18 : decode me_C_hasSoundLinks.2.1 18 = .ok (.aload_n 3, 1) := by decide +kernel
theorem d_C_hasSoundLinks_19 : decode me_C_hasSoundLinks.2.1 19 = .ok (.getfield 87, 3) := by decide +kernel
theorem g_C_hasSoundLinks_19 : bm_gf me_C_hasSoundLinks 19 8 4 := ⟨_, _, _, _, d_C_hasSoundLinks_19, rfl, by decide, uw_S, fl_C_87⟩
theorem d_C_hasSoundLinks_22 : decode me_C_hasSoundLinks.2.1 22 = .ok (.iload_n 2, 1) := by decide +kernel
theorem d_C_hasSoundLinks_23 : decode me_C_hasSoundLinks.2.1 23 = .ok (.if_icmp .le (14), 3) := by decide +kernel
theorem d_C_hasSoundLinks_26 : decode me_C_hasSoundLinks.2.1 26 = .ok (.aload_n 3, 1) := by decide +kernel
theorem d_C_hasSoundLinks_27 : decode me_C_hasSoundLinks.2.1 27 = .ok (.getfield 87, 3) := by decide +kernel
theorem g_C_hasSoundLinks_27 : bm_gf me_C_hasSoundLinks 27 8 4 := ⟨_, _, _, _, d_C_hasSoundLinks_27, rfl, by decide, uw_S, fl_C_87⟩
theorem d_C_hasSoundLinks_30 : decode me_C_hasSoundLinks.2.1 30 = .ok (.aload_n 1, 1) := by decide +kernel
theorem d_C_hasSoundLinks_31 : decode me_C_hasSoundLinks.2.1 31 = .ok (.getfield 47, 3) := by decide +kernel
theorem g_C_hasSoundLinks_31 : bm_gf me_C_hasSoundLinks 31 6 1 := ⟨_, _, _, _, d_C_hasSoundLinks_31, rfl, by decide, uw_R, fl_C_47⟩
theorem d_C_hasSoundLinks_34 : decode me_C_hasSoundLinks.2.1 34 = .ok (.if_icmp .lt (5), 3) := by decide +kernel
theorem d_C_hasSoundLinks_37 : decode me_C_hasSoundLinks.2.1 37 = .ok (.iconst 0, 1) := by decide +kernel
theorem d_C_hasSoundLinks_38 : decode me_C_hasSoundLinks.2.1 38 = .ok (.ireturn, 1) := by decide +kernel
theorem d_C_hasSoundLinks_39 : decode me_C_hasSoundLinks.2.1 39 = .ok (.aload_n 3, 1) := by decide +kernel
theorem d_C_hasSoundLinks_40 : decode me_C_hasSoundLinks.2.1 40 = .ok (.getfield 65, 3) := by decide +kernel
theorem g_C_hasSoundLinks_40 : bm_gf me_C_hasSoundLinks 40 8 0 := ⟨_, _, _, _, d_C_hasSoundLinks_40, rfl, by decide, uw_S, fl_C_65⟩
theorem d_C_hasSoundLinks_43 : decode me_C_hasSoundLinks.2.1 43 = .ok (.tableswitch (63) (5) (8) #[(29), (63), (29), (54)], 29) := by decide +kernel
theorem d_C_hasSoundLinks_72 : decode me_C_hasSoundLinks.2.1 72 = .ok (.aload_n 3, 1) := by decide +kernel
theorem d_C_hasSoundLinks_73 : decode me_C_hasSoundLinks.2.1 73 = .ok (.getfield 90, 3) := by decide +kernel
theorem g_C_hasSoundLinks_73 : bm_gf me_C_hasSoundLinks 73 8 5 := ⟨_, _, _, _, d_C_hasSoundLinks_73, rfl, by decide, uw_S, fl_C_90⟩
theorem d_C_hasSoundLinks_76 : decode me_C_hasSoundLinks.2.1 76 = .ok (.iload_n 2, 1) := by decide +kernel
theorem d_C_hasSoundLinks_77 : decode me_C_hasSoundLinks.2.1 77 = .ok (.if_icmp .le (18), 3) := by decide +kernel
theorem d_C_hasSoundLinks_80 : decode me_C_hasSoundLinks.2.1 80 = .ok (.aload_n 3, 1) := by decide +kernel
theorem d_C_hasSoundLinks_81 : decode me_C_hasSoundLinks.2.1 81 = .ok (.getfield 90, 3) := by decide +kernel
theorem g_C_hasSoundLinks_81 : bm_gf me_C_hasSoundLinks 81 8 5 := ⟨_, _, _, _, d_C_hasSoundLinks_81, rfl, by decide, uw_S, fl_C_90⟩
theorem d_C_hasSoundLinks_84 : decode me_C_hasSoundLinks.2.1 84 = .ok (.aload_n 1, 1) := by decide +kernel
theorem d_C_hasSoundLinks_85 : decode me_C_hasSoundLinks.2.1 85 = .ok (.getfield 47, 3) := by decide +kernel
theorem g_C_hasSoundLinks_85 : bm_gf me_C_hasSoundLinks 85 6 1 := ⟨_, _, _, _, d_C_hasSoundLinks_85, rfl, by decide, uw_R, fl_C_47⟩
theorem d_C_hasSoundLinks_88 : decode me_C_hasSoundLinks.2.1 88 = .ok (.if_icmp .ge (7), 3) := by decide +kernel
theorem d_C_hasSoundLinks_91 : decode me_C_hasSoundLinks.2.1 91 = .ok (.iconst 1, 1) := by decide +kernel
theorem d_C_hasSoundLinks_92 : decode me_C_hasSoundLinks.2.1 92 = .ok (.goto (4), 3) := by decide +kernel
theorem d_C_hasSoundLinks_95 : decode me_C_hasSoundLinks.2.1 95 = .ok (.iconst 0, 1) := by decide +kernel
theorem d_C_hasSoundLinks_96 : decode me_C_hasSoundLinks.2.1 96 = .ok (.ireturn, 1) := by decide +kernel
theorem d_C_hasSoundLinks_97 : decode me_C_hasSoundLinks.2.1 97 = .ok (.aload_n 3, 1) := by decide +kernel
theorem d_C_hasSoundLinks_98 : decode me_C_hasSoundLinks.2.1 98 = .ok (.getfield 90, 3) := by decide +kernel
theorem g_C_hasSoundLinks_98 : bm_gf me_C_hasSoundLinks 98 8 5 := ⟨_, _, _, _, d_C_hasSoundLinks_98, rfl, by decide, uw_S, fl_C_90⟩
theorem d_C_hasSoundLinks_101 : decode me_C_hasSoundLinks.2.1 101 = .ok (.iload_n 2, 1) := by decide +kernel
theorem d_C_hasSoundLinks_102 : decode me_C_hasSoundLinks.2.1 102 = .ok (.invokestatic 80, 3) := by decide +kernel
theorem c_C_hasSoundLinks_102 : bm_is me_C_hasSoundLinks me_H_isBelow 102 2 := ⟨_, d_C_hasSoundLinks_102, Or.inr ⟨"BatchHall", by decide +kernel⟩, ⟨kc_H_isBelow, in_BatchHall, by decide +kernel, by decide, by decide⟩, kt_H_isBelow⟩
theorem d_C_hasSoundLinks_105 : decode me_C_hasSoundLinks.2.1 105 = .ok (.ireturn, 1) := by decide +kernel
theorem d_C_hasSoundLinks_106 : decode me_C_hasSoundLinks.2.1 106 = .ok (.iconst 1, 1) := by decide +kernel
theorem d_C_hasSoundLinks_107 : decode me_C_hasSoundLinks.2.1 107 = .ok (.ireturn, 1) := by decide +kernel
theorem d_C_isAllReached_0 : decode me_C_isAllReached.2.1 0 = .ok (.aload_n 0, 1) := by decide +kernel
theorem d_C_isAllReached_1 : decode me_C_isAllReached.2.1 1 = .ok (.getfield 9, 3) := by decide +kernel
theorem g_C_isAllReached_1 : bm_gf me_C_isAllReached 1 7 0 := ⟨_, _, _, _, d_C_isAllReached_1, rfl, by decide, uw_C, fl_C_9⟩
theorem d_C_isAllReached_4 : decode me_C_isAllReached.2.1 4 = .ok (.iconst 0, 1) := by decide +kernel
theorem d_C_isAllReached_5 : decode me_C_isAllReached.2.1 5 = .ok (.invokestatic 93, 3) := by decide +kernel
theorem c_C_isAllReached_5 : bm_is me_C_isAllReached me_A_fill 5 2 := ⟨_, d_C_isAllReached_5, Or.inl ml_C_93, ⟨kc_A_fill, in_java_util_Arrays, by decide +kernel, by decide, by decide⟩, kt_A_fill⟩
theorem d_C_isAllReached_8 : decode me_C_isAllReached.2.1 8 = .ok (.aload_n 0, 1) := by decide +kernel
theorem d_C_isAllReached_9 : decode me_C_isAllReached.2.1 9 = .ok (.getfield 9, 3) := by decide +kernel
theorem g_C_isAllReached_9 : bm_gf me_C_isAllReached 9 7 0 := ⟨_, _, _, _, d_C_isAllReached_9, rfl, by decide, uw_C, fl_C_9⟩
theorem d_C_isAllReached_12 : decode me_C_isAllReached.2.1 12 = .ok (.iconst 0, 1) := by decide +kernel
theorem d_C_isAllReached_13 : decode me_C_isAllReached.2.1 13 = .ok (.iconst 1, 1) := by decide +kernel
theorem d_C_isAllReached_14 : decode me_C_isAllReached.2.1 14 = .ok (.iastore, 1) := by decide +kernel
theorem d_C_isAllReached_15 : decode me_C_isAllReached.2.1 15 = .ok (.iconst 0, 1) := by decide +kernel
theorem d_C_isAllReached_16 : decode me_C_isAllReached.2.1 16 = .ok (.istore_n 2, 1) := by decide +kernel
theorem d_C_isAllReached_17 : decode me_C_isAllReached.2.1 17 = .ok (.iload_n 2, 1) := by decide +kernel
theorem d_C_isAllReached_18 : decode me_C_isAllReached.2.1 18 = .ok (.aload_n 1, 1) := by decide +kernel
theorem d_C_isAllReached_19 : decode me_C_isAllReached.2.1 19 = .ok (.getfield 47, 3) := by decide +kernel
theorem g_C_isAllReached_19 : bm_gf me_C_isAllReached 19 6 1 := ⟨_, _, _, _, d_C_isAllReached_19, rfl, by decide, uw_R, fl_C_47⟩
theorem d_C_isAllReached_22 : decode me_C_isAllReached.2.1 22 = .ok (.if_icmp .ge (63), 3) := by decide +kernel
theorem d_C_isAllReached_25 : decode me_C_isAllReached.2.1 25 = .ok (.iconst 0, 1) := by decide +kernel
theorem d_C_isAllReached_26 : decode me_C_isAllReached.2.1 26 = .ok (.istore_n 3, 1) := by decide +kernel
theorem d_C_isAllReached_27 : decode me_C_isAllReached.2.1 27 = .ok (.iload_n 3, 1) := by decide +kernel
theorem d_C_isAllReached_28 : decode me_C_isAllReached.2.1 28 = .ok (.aload_n 1, 1) := by decide +kernel
theorem d_C_isAllReached_29 : decode me_C_isAllReached.2.1 29 = .ok (.getfield 47, 3) := by decide +kernel
theorem g_C_isAllReached_29 : bm_gf me_C_isAllReached 29 6 1 := ⟨_, _, _, _, d_C_isAllReached_29, rfl, by decide, uw_R, fl_C_47⟩
theorem d_C_isAllReached_32 : decode me_C_isAllReached.2.1 32 = .ok (.if_icmp .ge (47), 3) := by decide +kernel
theorem d_C_isAllReached_35 : decode me_C_isAllReached.2.1 35 = .ok (.aload_n 0, 1) := by decide +kernel
theorem d_C_isAllReached_36 : decode me_C_isAllReached.2.1 36 = .ok (.getfield 9, 3) := by decide +kernel
theorem g_C_isAllReached_36 : bm_gf me_C_isAllReached 36 7 0 := ⟨_, _, _, _, d_C_isAllReached_36, rfl, by decide, uw_C, fl_C_9⟩
theorem d_C_isAllReached_39 : decode me_C_isAllReached.2.1 39 = .ok (.iload_n 3, 1) := by decide +kernel
theorem d_C_isAllReached_40 : decode me_C_isAllReached.2.1 40 = .ok (.iaload, 1) := by decide +kernel
theorem d_C_isAllReached_41 : decode me_C_isAllReached.2.1 41 = .ok (.iconst 1, 1) := by decide +kernel
theorem d_C_isAllReached_42 : decode me_C_isAllReached.2.1 42 = .ok (.if_icmp .ne (31), 3) := by decide +kernel
theorem d_C_isAllReached_45 : decode me_C_isAllReached.2.1 45 = .ok (.aload_n 0, 1) := by decide +kernel
theorem d_C_isAllReached_46 : decode me_C_isAllReached.2.1 46 = .ok (.aload_n 1, 1) := by decide +kernel
theorem d_C_isAllReached_47 : decode me_C_isAllReached.2.1 47 = .ok (.getfield 53, 3) := by decide +kernel
theorem g_C_isAllReached_47 : bm_gf me_C_isAllReached 47 6 3 := ⟨_, _, _, _, d_C_isAllReached_47, rfl, by decide, uw_R, fl_C_53⟩
theorem d_C_isAllReached_50 : decode me_C_isAllReached.2.1 50 = .ok (.iload_n 3, 1) := by decide +kernel
theorem d_C_isAllReached_51 : decode me_C_isAllReached.2.1 51 = .ok (.aaload, 1) := by decide +kernel
theorem d_C_isAllReached_52 : decode me_C_isAllReached.2.1 52 = .ok (.iconst 0, 1) := by decide +kernel
theorem d_C_isAllReached_53 : decode me_C_isAllReached.2.1 53 = .ok (.invokevirtual 99, 3) := by decide +kernel
theorem c_C_isAllReached_53 : bm_iv me_C_isAllReached me_S_wayOut 53 8 1 := ⟨_, d_C_isAllReached_53, Or.inl ml_C_99, ⟨kc_S_wayOut, in_BatchHall_Step, by decide +kernel, by decide, by decide⟩, ki_S_wayOut, ks_S_wayOut, _, _, rfl⟩
theorem d_C_isAllReached_56 : decode me_C_isAllReached.2.1 56 = .ok (.invokevirtual 103, 3) := by decide +kernel
theorem c_C_isAllReached_56 : bm_iv me_C_isAllReached me_C_reach 56 7 1 := ⟨_, d_C_isAllReached_56, Or.inl ml_C_103, ⟨kc_C_reach, in_BatchHall_ReleaseCheck, by decide +kernel, by decide, by decide⟩, ki_C_reach, ks_C_reach, _, _, rfl⟩
theorem d_C_isAllReached_59 : decode me_C_isAllReached.2.1 59 = .ok (.aload_n 0, 1) := by decide +kernel
theorem d_C_isAllReached_60 : decode me_C_isAllReached.2.1 60 = .ok (.aload_n 1, 1) := by decide +kernel
theorem d_C_isAllReached_61 : decode me_C_isAllReached.2.1 61 = .ok (.getfield 53, 3) := by decide +kernel
theorem g_C_isAllReached_61 : bm_gf me_C_isAllReached 61 6 3 := ⟨_, _, _, _, d_C_isAllReached_61, rfl, by decide, uw_R, fl_C_53⟩
theorem d_C_isAllReached_64 : decode me_C_isAllReached.2.1 64 = .ok (.iload_n 3, 1) := by decide +kernel
theorem d_C_isAllReached_65 : decode me_C_isAllReached.2.1 65 = .ok (.aaload, 1) := by decide +kernel
theorem d_C_isAllReached_66 : decode me_C_isAllReached.2.1 66 = .ok (.iconst 1, 1) := by decide +kernel
theorem d_C_isAllReached_67 : decode me_C_isAllReached.2.1 67 = .ok (.invokevirtual 99, 3) := by decide +kernel
theorem c_C_isAllReached_67 : bm_iv me_C_isAllReached me_S_wayOut 67 8 1 := ⟨_, d_C_isAllReached_67, Or.inl ml_C_99, ⟨kc_S_wayOut, in_BatchHall_Step, by decide +kernel, by decide, by decide⟩, ki_S_wayOut, ks_S_wayOut, _, _, rfl⟩
theorem d_C_isAllReached_70 : decode me_C_isAllReached.2.1 70 = .ok (.invokevirtual 103, 3) := by decide +kernel
theorem c_C_isAllReached_70 : bm_iv me_C_isAllReached me_C_reach 70 7 1 := ⟨_, d_C_isAllReached_70, Or.inl ml_C_103, ⟨kc_C_reach, in_BatchHall_ReleaseCheck, by decide +kernel, by decide, by decide⟩, ki_C_reach, ks_C_reach, _, _, rfl⟩
theorem d_C_isAllReached_73 : decode me_C_isAllReached.2.1 73 = .ok (.iinc 3 (1), 3) := by decide +kernel
theorem d_C_isAllReached_76 : decode me_C_isAllReached.2.1 76 = .ok (.goto (-49), 3) := by decide +kernel
theorem d_C_isAllReached_79 : decode me_C_isAllReached.2.1 79 = .ok (.iinc 2 (1), 3) := by decide +kernel
theorem d_C_isAllReached_82 : decode me_C_isAllReached.2.1 82 = .ok (.goto (-65), 3) := by decide +kernel
theorem d_C_isAllReached_85 : decode me_C_isAllReached.2.1 85 = .ok (.iconst 0, 1) := by decide +kernel
theorem d_C_isAllReached_86 : decode me_C_isAllReached.2.1 86 = .ok (.istore_n 2, 1) := by decide +kernel
theorem d_C_isAllReached_87 : decode me_C_isAllReached.2.1 87 = .ok (.iconst 0, 1) := by decide +kernel
theorem d_C_isAllReached_88 : decode me_C_isAllReached.2.1 88 = .ok (.istore_n 3, 1) := by decide +kernel
theorem d_C_isAllReached_89 : decode me_C_isAllReached.2.1 89 = .ok (.iload_n 3, 1) := by decide +kernel
theorem d_C_isAllReached_90 : decode me_C_isAllReached.2.1 90 = .ok (.aload_n 1, 1) := by decide +kernel
theorem d_C_isAllReached_91 : decode me_C_isAllReached.2.1 91 = .ok (.getfield 47, 3) := by decide +kernel
theorem g_C_isAllReached_91 : bm_gf me_C_isAllReached 91 6 1 := ⟨_, _, _, _, d_C_isAllReached_91, rfl, by decide, uw_R, fl_C_47⟩
theorem d_C_isAllReached_94 : decode me_C_isAllReached.2.1 94 = .ok (.if_icmp .ge (18), 3) := by decide +kernel
theorem d_C_isAllReached_97 : decode me_C_isAllReached.2.1 97 = .ok (.iload_n 2, 1) := by decide +kernel
theorem d_C_isAllReached_98 : decode me_C_isAllReached.2.1 98 = .ok (.aload_n 0, 1) := by decide +kernel
theorem d_C_isAllReached_99 : decode me_C_isAllReached.2.1 99 = .ok (.getfield 9, 3) := by decide +kernel
theorem g_C_isAllReached_99 : bm_gf me_C_isAllReached 99 7 0 := ⟨_, _, _, _, d_C_isAllReached_99, rfl, by decide, uw_C, fl_C_9⟩
theorem d_C_isAllReached_102 : decode me_C_isAllReached.2.1 102 = .ok (.iload_n 3, 1) := by decide +kernel
theorem d_C_isAllReached_103 : decode me_C_isAllReached.2.1 103 = .ok (.iaload, 1) := by decide +kernel
theorem d_C_isAllReached_104 : decode me_C_isAllReached.2.1 104 = .ok (.iadd, 1) := by decide +kernel
theorem d_C_isAllReached_105 : decode me_C_isAllReached.2.1 105 = .ok (.istore_n 2, 1) := by decide +kernel
theorem d_C_isAllReached_106 : decode me_C_isAllReached.2.1 106 = .ok (.iinc 3 (1), 3) := by decide +kernel
theorem d_C_isAllReached_109 : decode me_C_isAllReached.2.1 109 = .ok (.goto (-20), 3) := by decide +kernel
theorem d_C_isAllReached_112 : decode me_C_isAllReached.2.1 112 = .ok (.iload_n 2, 1) := by decide +kernel
theorem d_C_isAllReached_113 : decode me_C_isAllReached.2.1 113 = .ok (.aload_n 1, 1) := by decide +kernel
theorem d_C_isAllReached_114 : decode me_C_isAllReached.2.1 114 = .ok (.getfield 47, 3) := by decide +kernel
theorem g_C_isAllReached_114 : bm_gf me_C_isAllReached 114 6 1 := ⟨_, _, _, _, d_C_isAllReached_114, rfl, by decide, uw_R, fl_C_47⟩
theorem d_C_isAllReached_117 : decode me_C_isAllReached.2.1 117 = .ok (.if_icmp .ne (7), 3) := by decide +kernel
theorem d_C_isAllReached_120 : decode me_C_isAllReached.2.1 120 = .ok (.iconst 1, 1) := by decide +kernel
theorem d_C_isAllReached_121 : decode me_C_isAllReached.2.1 121 = .ok (.goto (4), 3) := by decide +kernel
theorem d_C_isAllReached_124 : decode me_C_isAllReached.2.1 124 = .ok (.iconst 0, 1) := by decide +kernel
theorem d_C_isAllReached_125 : decode me_C_isAllReached.2.1 125 = .ok (.ireturn, 1) := by decide +kernel
theorem d_C_reach_0 : decode me_C_reach.2.1 0 = .ok (.iload_n 1, 1) := by decide +kernel
theorem d_C_reach_1 : decode me_C_reach.2.1 1 = .ok (.bipush (12), 2) := by decide +kernel
theorem d_C_reach_3 : decode me_C_reach.2.1 3 = .ok (.invokestatic 80, 3) := by decide +kernel
theorem c_C_reach_3 : bm_is me_C_reach me_H_isBelow 3 2 := ⟨_, d_C_reach_3, Or.inr ⟨"BatchHall", by decide +kernel⟩, ⟨kc_H_isBelow, in_BatchHall, by decide +kernel, by decide, by decide⟩, kt_H_isBelow⟩
theorem d_C_reach_6 : decode me_C_reach.2.1 6 = .ok (.ifCond .eq (10), 3) := by decide +kernel
theorem d_C_reach_9 : decode me_C_reach.2.1 9 = .ok (.aload_n 0, 1) := by decide +kernel
theorem d_C_reach_10 : decode me_C_reach.2.1 10 = .ok (.getfield 9, 3) := by decide +kernel
theorem g_C_reach_10 : bm_gf me_C_reach 10 7 0 := ⟨_, _, _, _, d_C_reach_10, rfl, by decide, uw_C, fl_C_9⟩
theorem d_C_reach_13 : decode me_C_reach.2.1 13 = .ok (.iload_n 1, 1) := by decide +kernel
theorem d_C_reach_14 : decode me_C_reach.2.1 14 = .ok (.iconst 1, 1) := by decide +kernel
theorem d_C_reach_15 : decode me_C_reach.2.1 15 = .ok (.iastore, 1) := by decide +kernel
theorem d_C_reach_16 : decode me_C_reach.2.1 16 = .ok (.return_, 1) := by decide +kernel
theorem d_C_isWellBranched_0 : decode me_C_isWellBranched.2.1 0 = .ok (.aload_n 0, 1) := by decide +kernel
theorem d_C_isWellBranched_1 : decode me_C_isWellBranched.2.1 1 = .ok (.getfield 15, 3) := by decide +kernel
theorem g_C_isWellBranched_1 : bm_gf me_C_isWellBranched 1 7 1 := ⟨_, _, _, _, d_C_isWellBranched_1, rfl, by decide, uw_C, fl_C_15⟩
theorem d_C_isWellBranched_4 : decode me_C_isWellBranched.2.1 4 = .ok (.iconst (-1), 1) := by decide +kernel
theorem d_C_isWellBranched_5 : decode me_C_isWellBranched.2.1 5 = .ok (.invokestatic 93, 3) := by decide +kernel
theorem c_C_isWellBranched_5 : bm_is me_C_isWellBranched me_A_fill 5 2 := ⟨_, d_C_isWellBranched_5, Or.inl ml_C_93, ⟨kc_A_fill, in_java_util_Arrays, by decide +kernel, by decide, by decide⟩, kt_A_fill⟩
theorem d_C_isWellBranched_8 : decode me_C_isWellBranched.2.1 8 = .ok (.aload_n 0, 1) := by decide +kernel
theorem d_C_isWellBranched_9 : decode me_C_isWellBranched.2.1 9 = .ok (.getfield 18, 3) := by decide +kernel
theorem g_C_isWellBranched_9 : bm_gf me_C_isWellBranched 9 7 2 := ⟨_, _, _, _, d_C_isWellBranched_9, rfl, by decide, uw_C, fl_C_18⟩
theorem d_C_isWellBranched_12 : decode me_C_isWellBranched.2.1 12 = .ok (.iconst (-1), 1) := by decide +kernel
theorem d_C_isWellBranched_13 : decode me_C_isWellBranched.2.1 13 = .ok (.invokestatic 93, 3) := by decide +kernel
theorem c_C_isWellBranched_13 : bm_is me_C_isWellBranched me_A_fill 13 2 := ⟨_, d_C_isWellBranched_13, Or.inl ml_C_93, ⟨kc_A_fill, in_java_util_Arrays, by decide +kernel, by decide, by decide⟩, kt_A_fill⟩
theorem d_C_isWellBranched_16 : decode me_C_isWellBranched.2.1 16 = .ok (.aload_n 0, 1) := by decide +kernel
theorem d_C_isWellBranched_17 : decode me_C_isWellBranched.2.1 17 = .ok (.getfield 21, 3) := by decide +kernel
theorem g_C_isWellBranched_17 : bm_gf me_C_isWellBranched 17 7 3 := ⟨_, _, _, _, d_C_isWellBranched_17, rfl, by decide, uw_C, fl_C_21⟩
theorem d_C_isWellBranched_20 : decode me_C_isWellBranched.2.1 20 = .ok (.iconst (-1), 1) := by decide +kernel
theorem d_C_isWellBranched_21 : decode me_C_isWellBranched.2.1 21 = .ok (.invokestatic 93, 3) := by decide +kernel
theorem c_C_isWellBranched_21 : bm_is me_C_isWellBranched me_A_fill 21 2 := ⟨_, d_C_isWellBranched_21, Or.inl ml_C_93, ⟨kc_A_fill, in_java_util_Arrays, by decide +kernel, by decide, by decide⟩, kt_A_fill⟩
theorem d_C_isWellBranched_24 : decode me_C_isWellBranched.2.1 24 = .ok (.aload_n 0, 1) := by decide +kernel
theorem d_C_isWellBranched_25 : decode me_C_isWellBranched.2.1 25 = .ok (.getfield 15, 3) := by decide +kernel
theorem g_C_isWellBranched_25 : bm_gf me_C_isWellBranched 25 7 1 := ⟨_, _, _, _, d_C_isWellBranched_25, rfl, by decide, uw_C, fl_C_15⟩
theorem d_C_isWellBranched_28 : decode me_C_isWellBranched.2.1 28 = .ok (.iconst 0, 1) := by decide +kernel
theorem d_C_isWellBranched_29 : decode me_C_isWellBranched.2.1 29 = .ok (.iconst 0, 1) := by decide +kernel
theorem d_C_isWellBranched_30 : decode me_C_isWellBranched.2.1 30 = .ok (.iastore, 1) := by decide +kernel
theorem d_C_isWellBranched_31 : decode me_C_isWellBranched.2.1 31 = .ok (.iconst 0, 1) := by decide +kernel
theorem d_C_isWellBranched_32 : decode me_C_isWellBranched.2.1 32 = .ok (.istore_n 2, 1) := by decide +kernel
theorem d_C_isWellBranched_33 : decode me_C_isWellBranched.2.1 33 = .ok (.iload_n 2, 1) := by decide +kernel
theorem d_C_isWellBranched_34 : decode me_C_isWellBranched.2.1 34 = .ok (.aload_n 1, 1) := by decide +kernel
theorem d_C_isWellBranched_35 : decode me_C_isWellBranched.2.1 35 = .ok (.getfield 47, 3) := by decide +kernel
theorem g_C_isWellBranched_35 : bm_gf me_C_isWellBranched 35 6 1 := ⟨_, _, _, _, d_C_isWellBranched_35, rfl, by decide, uw_R, fl_C_47⟩
theorem d_C_isWellBranched_38 : decode me_C_isWellBranched.2.1 38 = .ok (.if_icmp .ge (46), 3) := by decide +kernel
theorem d_C_isWellBranched_41 : decode me_C_isWellBranched.2.1 41 = .ok (.iconst 0, 1) := by decide +kernel
theorem d_C_isWellBranched_42 : decode me_C_isWellBranched.2.1 42 = .ok (.istore_n 3, 1) := by decide +kernel
theorem d_C_isWellBranched_43 : decode me_C_isWellBranched.2.1 43 = .ok (.iload_n 3, 1) := by decide +kernel
theorem d_C_isWellBranched_44 : decode me_C_isWellBranched.2.1 44 = .ok (.aload_n 1, 1) := by decide +kernel
theorem d_C_isWellBranched_45 : decode me_C_isWellBranched.2.1 45 = .ok (.getfield 47, 3) := by decide +kernel
theorem g_C_isWellBranched_45 : bm_gf me_C_isWellBranched 45 6 1 := ⟨_, _, _, _, d_C_isWellBranched_45, rfl, by decide, uw_R, fl_C_47⟩
theorem d_C_isWellBranched_48 : decode me_C_isWellBranched.2.1 48 = .ok (.if_icmp .ge (30), 3) := by decide +kernel
theorem d_C_isWellBranched_51 : decode me_C_isWellBranched.2.1 51 = .ok (.aload_n 0, 1) := by decide +kernel
theorem d_C_isWellBranched_52 : decode me_C_isWellBranched.2.1 52 = .ok (.getfield 15, 3) := by decide +kernel
theorem g_C_isWellBranched_52 : bm_gf me_C_isWellBranched 52 7 1 := ⟨_, _, _, _, d_C_isWellBranched_52, rfl, by decide, uw_C, fl_C_15⟩
theorem d_C_isWellBranched_55 : decode me_C_isWellBranched.2.1 55 = .ok (.iload_n 3, 1) := by decide +kernel
theorem d_C_isWellBranched_56 : decode me_C_isWellBranched.2.1 56 = .ok (.iaload, 1) := by decide +kernel
theorem d_C_isWellBranched_57 : decode me_C_isWellBranched.2.1 57 = .ok (.iconst (-1), 1) := by decide +kernel
theorem d_C_isWellBranched_58 : decode me_C_isWellBranched.2.1 58 = .ok (.if_icmp .eq (14), 3) := by decide +kernel
theorem d_C_isWellBranched_61 : decode me_C_isWellBranched.2.1 61 = .ok (.aload_n 0, 1) := by decide +kernel
theorem d_C_isWellBranched_62 : decode me_C_isWellBranched.2.1 62 = .ok (.aload_n 1, 1) := by decide +kernel
theorem d_C_isWellBranched_63 : decode me_C_isWellBranched.2.1 63 = .ok (.iload_n 3, 1) := by decide +kernel
theorem d_C_isWellBranched_64 : decode me_C_isWellBranched.2.1 64 = .ok (.invokevirtual 107, 3) := by decide +kernel
theorem c_C_isWellBranched_64 : bm_iv me_C_isWellBranched me_C_spreadBranch 64 7 2 := ⟨_, d_C_isWellBranched_64, Or.inl ml_C_107, ⟨kc_C_spreadBranch, in_BatchHall_ReleaseCheck, by decide +kernel, by decide, by decide⟩, ki_C_spreadBranch, ks_C_spreadBranch, _, _, rfl⟩
theorem d_C_isWellBranched_67 : decode me_C_isWellBranched.2.1 67 = .ok (.ifCond .ne (5), 3) := by decide +kernel
theorem d_C_isWellBranched_70 : decode me_C_isWellBranched.2.1 70 = .ok (.iconst 0, 1) := by decide +kernel
theorem d_C_isWellBranched_71 : decode me_C_isWellBranched.2.1 71 = .ok (.ireturn, 1) := by decide +kernel
theorem d_C_isWellBranched_72 : decode me_C_isWellBranched.2.1 72 = .ok (.iinc 3 (1), 3) := by decide +kernel
theorem d_C_isWellBranched_75 : decode me_C_isWellBranched.2.1 75 = .ok (.goto (-32), 3) := by decide +kernel
theorem d_C_isWellBranched_78 : decode me_C_isWellBranched.2.1 78 = .ok (.iinc 2 (1), 3) := by decide +kernel
theorem d_C_isWellBranched_81 : decode me_C_isWellBranched.2.1 81 = .ok (.goto (-48), 3) := by decide +kernel
theorem d_C_isWellBranched_84 : decode me_C_isWellBranched.2.1 84 = .ok (.iconst 0, 1) := by decide +kernel
theorem d_C_isWellBranched_85 : decode me_C_isWellBranched.2.1 85 = .ok (.istore_n 2, 1) := by decide +kernel
theorem d_C_isWellBranched_86 : decode me_C_isWellBranched.2.1 86 = .ok (.iload_n 2, 1) := by decide +kernel
theorem d_C_isWellBranched_87 : decode me_C_isWellBranched.2.1 87 = .ok (.aload_n 1, 1) := by decide +kernel
theorem d_C_isWellBranched_88 : decode me_C_isWellBranched.2.1 88 = .ok (.getfield 47, 3) := by decide +kernel
theorem g_C_isWellBranched_88 : bm_gf me_C_isWellBranched 88 6 1 := ⟨_, _, _, _, d_C_isWellBranched_88, rfl, by decide, uw_R, fl_C_47⟩
theorem d_C_isWellBranched_91 : decode me_C_isWellBranched.2.1 91 = .ok (.if_icmp .ge (28), 3) := by decide +kernel
theorem d_C_isWellBranched_94 : decode me_C_isWellBranched.2.1 94 = .ok (.aload_n 0, 1) := by decide +kernel
theorem d_C_isWellBranched_95 : decode me_C_isWellBranched.2.1 95 = .ok (.aload_n 1, 1) := by decide +kernel
theorem d_C_isWellBranched_96 : decode me_C_isWellBranched.2.1 96 = .ok (.getfield 53, 3) := by decide +kernel
theorem g_C_isWellBranched_96 : bm_gf me_C_isWellBranched 96 6 3 := ⟨_, _, _, _, d_C_isWellBranched_96, rfl, by decide, uw_R, fl_C_53⟩
theorem d_C_isWellBranched_99 : decode me_C_isWellBranched.2.1 99 = .ok (.iload_n 2, 1) := by decide +kernel
theorem d_C_isWellBranched_100 : decode me_C_isWellBranched.2.1 100 = .ok (.aaload, 1) := by decide +kernel
theorem d_C_isWellBranched_101 : decode me_C_isWellBranched.2.1 101 = .ok (.getfield 65, 3) := by decide +kernel
theorem g_C_isWellBranched_101 : bm_gf me_C_isWellBranched 101 8 0 := ⟨_, _, _, _, d_C_isWellBranched_101, rfl, by decide, uw_S, fl_C_65⟩
theorem d_C_isWellBranched_104 : decode me_C_isWellBranched.2.1 104 = .ok (.iload_n 2, 1) := by decide +kernel
theorem d_C_isWellBranched_105 : decode me_C_isWellBranched.2.1 105 = .ok (.invokevirtual 110, 3) := by decide +kernel
theorem c_C_isWellBranched_105 : bm_iv me_C_isWellBranched me_C_endsWell 105 7 2 := ⟨_, d_C_isWellBranched_105, Or.inl ml_C_110, ⟨kc_C_endsWell, in_BatchHall_ReleaseCheck, by decide +kernel, by decide, by decide⟩, ki_C_endsWell, ks_C_endsWell, _, _, rfl⟩
theorem d_C_isWellBranched_108 : decode me_C_isWellBranched.2.1 108 = .ok (.ifCond .ne (5), 3) := by decide +kernel
theorem d_C_isWellBranched_111 : decode me_C_isWellBranched.2.1 111 = .ok (.iconst 0, 1) := by decide +kernel
theorem d_C_isWellBranched_112 : decode me_C_isWellBranched.2.1 112 = .ok (.ireturn, 1) := by decide +kernel
theorem d_C_isWellBranched_113 : decode me_C_isWellBranched.2.1 113 = .ok (.iinc 2 (1), 3) := by decide +kernel
theorem d_C_isWellBranched_116 : decode me_C_isWellBranched.2.1 116 = .ok (.goto (-30), 3) := by decide +kernel
theorem d_C_isWellBranched_119 : decode me_C_isWellBranched.2.1 119 = .ok (.iconst 1, 1) := by decide +kernel
theorem d_C_isWellBranched_120 : decode me_C_isWellBranched.2.1 120 = .ok (.ireturn, 1) := by decide +kernel
theorem d_C_spreadBranch_0 : decode me_C_spreadBranch.2.1 0 = .ok (.aload_n 1, 1) := by decide +kernel
theorem d_C_spreadBranch_1 : decode me_C_spreadBranch.2.1 1 = .ok (.getfield 53, 3) := by decide +kernel
theorem g_C_spreadBranch_1 : bm_gf me_C_spreadBranch 1 6 3 := ⟨_, _, _, _, d_C_spreadBranch_1, rfl, by decide, uw_R, fl_C_53⟩
theorem d_C_spreadBranch_4 : decode me_C_spreadBranch.2.1 4 = .ok (.iload_n 2, 1) := by decide +kernel
theorem d_C_spreadBranch_5 : decode me_C_spreadBranch.2.1 5 = .ok (.aaload, 1) := by decide +kernel
theorem d_C_spreadBranch_6 : decode me_C_spreadBranch.2.1 6 = .ok (.astore_n 3, 1) := by decide +kernel
theorem d_C_spreadBranch_7 : decode me_C_spreadBranch.2.1 7 = .ok (.aload_n 0, 1) := by decide +kernel
theorem d_C_spreadBranch_8 : decode me_C_spreadBranch.2.1 8 = .ok (.getfield 15, 3) := by decide +kernel
theorem g_C_spreadBranch_8 : bm_gf me_C_spreadBranch 8 7 1 := ⟨_, _, _, _, d_C_spreadBranch_8, rfl, by decide, uw_C, fl_C_15⟩
theorem d_C_spreadBranch_11 : decode me_C_spreadBranch.2.1 11 = .ok (.iload_n 2, 1) := by decide +kernel
theorem d_C_spreadBranch_12 : decode me_C_spreadBranch.2.1 12 = .ok (.iaload, 1) := by decide +kernel
theorem d_C_spreadBranch_13 : decode me_C_spreadBranch.2.1 13 = .ok (.istore 4, 2) := by decide +kernel
theorem d_C_spreadBranch_15 : decode me_C_spreadBranch.2.1 15 = .ok (.aload_n 3, 1) := by decide +kernel
theorem d_C_spreadBranch_16 : decode me_C_spreadBranch.2.1 16 = .ok (.getfield 65, 3) := by decide +kernel
theorem g_C_spreadBranch_16 : bm_gf me_C_spreadBranch 16 8 0 := ⟨_, _, _, _, d_C_spreadBranch_16, rfl, by decide, uw_S, fl_C_65⟩
theorem d_C_spreadBranch_19 : decode me_C_spreadBranch.2.1 19 = .ok (.iconst 5, 1) := by decide +kernel
theorem d_C_spreadBranch_20 : decode me_C_spreadBranch.2.1 20 = .ok (.if_icmp .ne (7), 3) := by decide +kernel
theorem d_C_spreadBranch_23 : decode me_C_spreadBranch.2.1 23 = .ok (.iconst 1, 1) := by decide +kernel
theorem d_C_spreadBranch_24 : decode me_C_spreadBranch.2.1 24 = .ok (.goto (4), 3) := by decide +kernel
theorem d_C_spreadBranch_27 : decode me_C_spreadBranch.2.1 27 = .ok (.iconst 0, 1) := by decide +kernel
theorem d_C_spreadBranch_28 : decode me_C_spreadBranch.2.1 28 = .ok (.istore 5, 2) := by decide +kernel
theorem d_C_spreadBranch_30 : decode me_C_spreadBranch.2.1 30 = .ok (.aload_n 0, 1) := by decide +kernel
theorem d_C_spreadBranch_31 : decode me_C_spreadBranch.2.1 31 = .ok (.aload_n 1, 1) := by decide +kernel
theorem d_C_spreadBranch_32 : decode me_C_spreadBranch.2.1 32 = .ok (.aload_n 3, 1) := by decide +kernel
theorem d_C_spreadBranch_33 : decode me_C_spreadBranch.2.1 33 = .ok (.iconst 0, 1) := by decide +kernel
theorem d_C_spreadBranch_34 : decode me_C_spreadBranch.2.1 34 = .ok (.invokevirtual 99, 3) := by decide +kernel
theorem c_C_spreadBranch_34 : bm_iv me_C_spreadBranch me_S_wayOut 34 8 1 := ⟨_, d_C_spreadBranch_34, Or.inl ml_C_99, ⟨kc_S_wayOut, in_BatchHall_Step, by decide +kernel, by decide, by decide⟩, ki_S_wayOut, ks_S_wayOut, _, _, rfl⟩
theorem d_C_spreadBranch_37 : decode me_C_spreadBranch.2.1 37 = .ok (.iload 5, 2) := by decide +kernel
theorem d_C_spreadBranch_39 : decode me_C_spreadBranch.2.1 39 = .ok (.ifCond .eq (11), 3) := by decide +kernel
theorem d_C_spreadBranch_42 : decode me_C_spreadBranch.2.1 42 = .ok (.iconst 2, 1) := by decide +kernel
theorem d_C_spreadBranch_43 : decode me_C_spreadBranch.2.1 43 = .ok (.iload_n 2, 1) := by decide +kernel
theorem d_C_spreadBranch_44 : decode me_C_spreadBranch.2.1 44 = .ok (.imul, 1) := by decide +kernel
theorem d_C_spreadBranch_45 : decode me_C_spreadBranch.2.1 45 = .ok (.iconst 1, 1) := by decide +kernel
theorem d_C_spreadBranch_46 : decode me_C_spreadBranch.2.1 46 = .ok (.iadd, 1) := by decide +kernel
theorem d_C_spreadBranch_47 : decode me_C_spreadBranch.2.1 47 = .ok (.goto (5), 3) := by decide +kernel
theorem d_C_spreadBranch_50 : decode me_C_spreadBranch.2.1 50 = .ok (.iload 4, 2) := by decide +kernel
theorem d_C_spreadBranch_52 : decode me_C_spreadBranch.2.1 52 = .ok (.iload 5, 2) := by decide +kernel
theorem d_C_spreadBranch_54 : decode me_C_spreadBranch.2.1 54 = .ok (.invokevirtual 113, 3) := by decide +kernel
theorem c_C_spreadBranch_54 : bm_iv me_C_spreadBranch me_C_enterBranch 54 7 4 := ⟨_, d_C_spreadBranch_54, Or.inl ml_C_113, ⟨kc_C_enterBranch, in_BatchHall_ReleaseCheck, by decide +kernel, by decide, by decide⟩, ki_C_enterBranch, ks_C_enterBranch, _, _, rfl⟩
theorem d_C_spreadBranch_57 : decode me_C_spreadBranch.2.1 57 = .ok (.ifCond .eq (37), 3) := by decide +kernel
theorem d_C_spreadBranch_60 : decode me_C_spreadBranch.2.1 60 = .ok (.aload_n 0, 1) := by decide +kernel
theorem d_C_spreadBranch_61 : decode me_C_spreadBranch.2.1 61 = .ok (.aload_n 1, 1) := by decide +kernel
theorem d_C_spreadBranch_62 : decode me_C_spreadBranch.2.1 62 = .ok (.aload_n 3, 1) := by decide +kernel
theorem d_C_spreadBranch_63 : decode me_C_spreadBranch.2.1 63 = .ok (.iconst 1, 1) := by decide +kernel
theorem d_C_spreadBranch_64 : decode me_C_spreadBranch.2.1 64 = .ok (.invokevirtual 99, 3) := by decide +kernel
theorem c_C_spreadBranch_64 : bm_iv me_C_spreadBranch me_S_wayOut 64 8 1 := ⟨_, d_C_spreadBranch_64, Or.inl ml_C_99, ⟨kc_S_wayOut, in_BatchHall_Step, by decide +kernel, by decide, by decide⟩, ki_S_wayOut, ks_S_wayOut, _, _, rfl⟩
theorem d_C_spreadBranch_67 : decode me_C_spreadBranch.2.1 67 = .ok (.iload 5, 2) := by decide +kernel
theorem d_C_spreadBranch_69 : decode me_C_spreadBranch.2.1 69 = .ok (.ifCond .eq (11), 3) := by decide +kernel
theorem d_C_spreadBranch_72 : decode me_C_spreadBranch.2.1 72 = .ok (.iconst 2, 1) := by decide +kernel
theorem d_C_spreadBranch_73 : decode me_C_spreadBranch.2.1 73 = .ok (.iload_n 2, 1) := by decide +kernel
theorem d_C_spreadBranch_74 : decode me_C_spreadBranch.2.1 74 = .ok (.imul, 1) := by decide +kernel
theorem d_C_spreadBranch_75 : decode me_C_spreadBranch.2.1 75 = .ok (.iconst 2, 1) := by decide +kernel
theorem d_C_spreadBranch_76 : decode me_C_spreadBranch.2.1 76 = .ok (.iadd, 1) := by decide +kernel
theorem d_C_spreadBranch_77 : decode me_C_spreadBranch.2.1 77 = .ok (.goto (5), 3) := by decide +kernel
theorem d_C_spreadBranch_80 : decode me_C_spreadBranch.2.1 80 = .ok (.iload 4, 2) := by decide +kernel
theorem d_C_spreadBranch_82 : decode me_C_spreadBranch.2.1 82 = .ok (.iload 5, 2) := by decide +kernel
theorem d_C_spreadBranch_84 : decode me_C_spreadBranch.2.1 84 = .ok (.invokevirtual 113, 3) := by decide +kernel
theorem c_C_spreadBranch_84 : bm_iv me_C_spreadBranch me_C_enterBranch 84 7 4 := ⟨_, d_C_spreadBranch_84, Or.inl ml_C_113, ⟨kc_C_enterBranch, in_BatchHall_ReleaseCheck, by decide +kernel, by decide, by decide⟩, ki_C_enterBranch, ks_C_enterBranch, _, _, rfl⟩
theorem d_C_spreadBranch_87 : decode me_C_spreadBranch.2.1 87 = .ok (.ifCond .eq (7), 3) := by decide +kernel
theorem d_C_spreadBranch_90 : decode me_C_spreadBranch.2.1 90 = .ok (.iconst 1, 1) := by decide +kernel
theorem d_C_spreadBranch_91 : decode me_C_spreadBranch.2.1 91 = .ok (.goto (4), 3) := by decide +kernel
theorem d_C_spreadBranch_94 : decode me_C_spreadBranch.2.1 94 = .ok (.iconst 0, 1) := by decide +kernel
theorem d_C_spreadBranch_95 : decode me_C_spreadBranch.2.1 95 = .ok (.ireturn, 1) := by decide +kernel
theorem d_C_enterBranch_0 : decode me_C_enterBranch.2.1 0 = .ok (.iload_n 2, 1) := by decide +kernel
theorem d_C_enterBranch_1 : decode me_C_enterBranch.2.1 1 = .ok (.aload_n 1, 1) := by decide +kernel
theorem d_C_enterBranch_2 : decode me_C_enterBranch.2.1 2 = .ok (.getfield 47, 3) := by decide +kernel
theorem g_C_enterBranch_2 : bm_gf me_C_enterBranch 2 6 1 := ⟨_, _, _, _, d_C_enterBranch_2, rfl, by decide, uw_R, fl_C_47⟩
theorem d_C_enterBranch_5 : decode me_C_enterBranch.2.1 5 = .ok (.invokestatic 80, 3) := by decide +kernel
theorem c_C_enterBranch_5 : bm_is me_C_enterBranch me_H_isBelow 5 2 := ⟨_, d_C_enterBranch_5, Or.inr ⟨"BatchHall", by decide +kernel⟩, ⟨kc_H_isBelow, in_BatchHall, by decide +kernel, by decide, by decide⟩, kt_H_isBelow⟩
theorem d_C_enterBranch_8 : decode me_C_enterBranch.2.1 8 = .ok (.ifCond .ne (5), 3) := by decide +kernel
theorem d_C_enterBranch_11 : decode me_C_enterBranch.2.1 11 = .ok (.iconst 1, 1) := by decide +kernel
theorem d_C_enterBranch_12 : decode me_C_enterBranch.2.1 12 = .ok (.ireturn, 1) := by decide +kernel
theorem d_C_enterBranch_13 : decode me_C_enterBranch.2.1 13 = .ok (.aload_n 1, 1) := by decide +kernel
theorem d_C_enterBranch_14 : decode me_C_enterBranch.2.1 14 = .ok (.getfield 53, 3) := by decide +kernel
theorem g_C_enterBranch_14 : bm_gf me_C_enterBranch 14 6 3 := ⟨_, _, _, _, d_C_enterBranch_14, rfl, by decide, uw_R, fl_C_53⟩
theorem d_C_enterBranch_17 : decode me_C_enterBranch.2.1 17 = .ok (.iload_n 2, 1) := by decide +kernel
theorem d_C_enterBranch_18 : decode me_C_enterBranch.2.1 18 = .ok (.aaload, 1) := by decide +kernel
theorem d_C_enterBranch_19 : decode me_C_enterBranch.2.1 19 = .ok (.getfield 65, 3) := by decide +kernel
theorem g_C_enterBranch_19 : bm_gf me_C_enterBranch 19 8 0 := ⟨_, _, _, _, d_C_enterBranch_19, rfl, by decide, uw_S, fl_C_65⟩
theorem d_C_enterBranch_22 : decode me_C_enterBranch.2.1 22 = .ok (.bipush (6), 2) := by decide +kernel
theorem d_C_enterBranch_24 : decode me_C_enterBranch.2.1 24 = .ok (.if_icmp .ne (23), 3) := by decide +kernel
theorem d_C_enterBranch_27 : decode me_C_enterBranch.2.1 27 = .ok (.iload 4, 2) := by decide +kernel
theorem d_C_enterBranch_29 : decode me_C_enterBranch.2.1 29 = .ok (.ifCond .ne (16), 3) := by decide +kernel
theorem d_C_enterBranch_32 : decode me_C_enterBranch.2.1 32 = .ok (.aload_n 0, 1) := by decide +kernel
theorem d_C_enterBranch_33 : decode me_C_enterBranch.2.1 33 = .ok (.iload_n 2, 1) := by decide +kernel
theorem d_C_enterBranch_34 : decode me_C_enterBranch.2.1 34 = .ok (.iload_n 3, 1) := by decide +kernel
theorem d_C_enterBranch_35 : decode me_C_enterBranch.2.1 35 = .ok (.invokevirtual 117, 3) := by decide +kernel
theorem c_C_enterBranch_35 : bm_iv me_C_enterBranch me_C_joinBranch 35 7 2 := ⟨_, d_C_enterBranch_35, Or.inl ml_C_117, ⟨kc_C_joinBranch, in_BatchHall_ReleaseCheck, by decide +kernel, by decide, by decide⟩, ki_C_joinBranch, ks_C_joinBranch, _, _, rfl⟩
theorem d_C_enterBranch_38 : decode me_C_enterBranch.2.1 38 = .ok (.ifCond .eq (7), 3) := by decide +kernel
theorem d_C_enterBranch_41 : decode me_C_enterBranch.2.1 41 = .ok (.iconst 1, 1) := by decide +kernel
theorem d_C_enterBranch_42 : decode me_C_enterBranch.2.1 42 = .ok (.goto (4), 3) := by decide +kernel
theorem d_C_enterBranch_45 : decode me_C_enterBranch.2.1 45 = .ok (.iconst 0, 1) := by decide +kernel
theorem d_C_enterBranch_46 : decode me_C_enterBranch.2.1 46 = .ok (.ireturn, 1) := by decide +kernel
theorem d_C_enterBranch_47 : decode me_C_enterBranch.2.1 47 = .ok (.aload_n 0, 1) := by decide +kernel
theorem d_C_enterBranch_48 : decode me_C_enterBranch.2.1 48 = .ok (.getfield 15, 3) := by decide +kernel
theorem g_C_enterBranch_48 : bm_gf me_C_enterBranch 48 7 1 := ⟨_, _, _, _, d_C_enterBranch_48, rfl, by decide, uw_C, fl_C_15⟩
theorem d_C_enterBranch_51 : decode me_C_enterBranch.2.1 51 = .ok (.iload_n 2, 1) := by decide +kernel
theorem d_C_enterBranch_52 : decode me_C_enterBranch.2.1 52 = .ok (.iaload, 1) := by decide +kernel
theorem d_C_enterBranch_53 : decode me_C_enterBranch.2.1 53 = .ok (.iconst (-1), 1) := by decide +kernel
theorem d_C_enterBranch_54 : decode me_C_enterBranch.2.1 54 = .ok (.if_icmp .ne (10), 3) := by decide +kernel
theorem d_C_enterBranch_57 : decode me_C_enterBranch.2.1 57 = .ok (.aload_n 0, 1) := by decide +kernel
theorem d_C_enterBranch_58 : decode me_C_enterBranch.2.1 58 = .ok (.getfield 15, 3) := by decide +kernel
theorem g_C_enterBranch_58 : bm_gf me_C_enterBranch 58 7 1 := ⟨_, _, _, _, d_C_enterBranch_58, rfl, by decide, uw_C, fl_C_15⟩
theorem d_C_enterBranch_61 : decode me_C_enterBranch.2.1 61 = .ok (.iload_n 2, 1) := by decide +kernel
theorem d_C_enterBranch_62 : decode me_C_enterBranch.2.1 62 = .ok (.iload_n 3, 1) := by decide +kernel
theorem d_C_enterBranch_63 : decode me_C_enterBranch.2.1 63 = .ok (.iastore, 1) := by decide +kernel
theorem d_C_enterBranch_64 : decode me_C_enterBranch.2.1 64 = .ok (.aload_n 0, 1) := by decide +kernel
theorem d_C_enterBranch_65 : decode me_C_enterBranch.2.1 65 = .ok (.getfield 15, 3) := by decide +kernel
theorem g_C_enterBranch_65 : bm_gf me_C_enterBranch 65 7 1 := ⟨_, _, _, _, d_C_enterBranch_65, rfl, by decide, uw_C, fl_C_15⟩
theorem d_C_enterBranch_68 : decode me_C_enterBranch.2.1 68 = .ok (.iload_n 2, 1) := by decide +kernel
theorem d_C_enterBranch_69 : decode me_C_enterBranch.2.1 69 = .ok (.iaload, 1) := by decide +kernel
theorem d_C_enterBranch_70 : decode me_C_enterBranch.2.1 70 = .ok (.iload_n 3, 1) := by decide +kernel
theorem d_C_enterBranch_71 : decode me_C_enterBranch.2.1 71 = .ok (.if_icmp .ne (7), 3) := by decide +kernel
theorem d_C_enterBranch_74 : decode me_C_enterBranch.2.1 74 = .ok (.iconst 1, 1) := by decide +kernel
theorem d_C_enterBranch_75 : decode me_C_enterBranch.2.1 75 = .ok (.goto (4), 3) := by decide +kernel
theorem d_C_enterBranch_78 : decode me_C_enterBranch.2.1 78 = .ok (.iconst 0, 1) := by decide +kernel
theorem d_C_enterBranch_79 : decode me_C_enterBranch.2.1 79 = .ok (.ireturn, 1) := by decide +kernel
theorem d_C_joinBranch_0 : decode me_C_joinBranch.2.1 0 = .ok (.iload_n 2, 1) := by decide +kernel
theorem d_C_joinBranch_1 : decode me_C_joinBranch.2.1 1 = .ok (.ifCond .ne (5), 3) := by decide +kernel
theorem d_C_joinBranch_4 : decode me_C_joinBranch.2.1 4 = .ok (.iconst 0, 1) := by decide +kernel
theorem d_C_joinBranch_5 : decode me_C_joinBranch.2.1 5 = .ok (.ireturn, 1) := by decide +kernel
theorem d_C_joinBranch_6 : decode me_C_joinBranch.2.1 6 = .ok (.iload_n 2, 1) := by decide +kernel
theorem d_C_joinBranch_7 : decode me_C_joinBranch.2.1 7 = .ok (.iconst 1, 1) := by decide +kernel
theorem d_C_joinBranch_8 : decode me_C_joinBranch.2.1 8 = .ok (.isub, 1) := by decide +kernel
theorem d_C_joinBranch_9 : decode me_C_joinBranch.2.1 9 = .ok (.iconst 2, 1) := by decide +kernel
theorem d_C_joinBranch_10 : decode me_C_joinBranch.2.1 10 = .ok (.idiv, 1) := by decide +kernel
theorem d_C_joinBranch_11 : decode me_C_joinBranch.2.1 11 = .ok (.istore_n 3, 1) := by decide +kernel
theorem d_C_joinBranch_12 : decode me_C_joinBranch.2.1 12 = .ok (.aload_n 0, 1) := by decide +kernel
theorem d_C_joinBranch_13 : decode me_C_joinBranch.2.1 13 = .ok (.getfield 15, 3) := by decide +kernel
theorem g_C_joinBranch_13 : bm_gf me_C_joinBranch 13 7 1 := ⟨_, _, _, _, d_C_joinBranch_13, rfl, by decide, uw_C, fl_C_15⟩
theorem d_C_joinBranch_16 : decode me_C_joinBranch.2.1 16 = .ok (.iload_n 1, 1) := by decide +kernel
theorem d_C_joinBranch_17 : decode me_C_joinBranch.2.1 17 = .ok (.iaload, 1) := by decide +kernel
theorem d_C_joinBranch_18 : decode me_C_joinBranch.2.1 18 = .ok (.iconst (-1), 1) := by decide +kernel
theorem d_C_joinBranch_19 : decode me_C_joinBranch.2.1 19 = .ok (.if_icmp .ne (22), 3) := by decide +kernel
theorem d_C_joinBranch_22 : decode me_C_joinBranch.2.1 22 = .ok (.aload_n 0, 1) := by decide +kernel
theorem d_C_joinBranch_23 : decode me_C_joinBranch.2.1 23 = .ok (.getfield 15, 3) := by decide +kernel
theorem g_C_joinBranch_23 : bm_gf me_C_joinBranch 23 7 1 := ⟨_, _, _, _, d_C_joinBranch_23, rfl, by decide, uw_C, fl_C_15⟩
theorem d_C_joinBranch_26 : decode me_C_joinBranch.2.1 26 = .ok (.iload_n 1, 1) := by decide +kernel
theorem d_C_joinBranch_27 : decode me_C_joinBranch.2.1 27 = .ok (.aload_n 0, 1) := by decide +kernel
theorem d_C_joinBranch_28 : decode me_C_joinBranch.2.1 28 = .ok (.getfield 15, 3) := by decide +kernel
theorem g_C_joinBranch_28 : bm_gf me_C_joinBranch 28 7 1 := ⟨_, _, _, _, d_C_joinBranch_28, rfl, by decide, uw_C, fl_C_15⟩
theorem d_C_joinBranch_31 : decode me_C_joinBranch.2.1 31 = .ok (.iload_n 3, 1) := by decide +kernel
theorem d_C_joinBranch_32 : decode me_C_joinBranch.2.1 32 = .ok (.iaload, 1) := by decide +kernel
theorem d_C_joinBranch_33 : decode me_C_joinBranch.2.1 33 = .ok (.iastore, 1) := by decide +kernel
theorem d_C_joinBranch_34 : decode me_C_joinBranch.2.1 34 = .ok (.aload_n 0, 1) := by decide +kernel
theorem d_C_joinBranch_35 : decode me_C_joinBranch.2.1 35 = .ok (.getfield 18, 3) := by decide +kernel
theorem g_C_joinBranch_35 : bm_gf me_C_joinBranch 35 7 2 := ⟨_, _, _, _, d_C_joinBranch_35, rfl, by decide, uw_C, fl_C_18⟩
theorem d_C_joinBranch_38 : decode me_C_joinBranch.2.1 38 = .ok (.iload_n 1, 1) := by decide +kernel
theorem d_C_joinBranch_39 : decode me_C_joinBranch.2.1 39 = .ok (.iload_n 3, 1) := by decide +kernel
theorem d_C_joinBranch_40 : decode me_C_joinBranch.2.1 40 = .ok (.iastore, 1) := by decide +kernel
theorem d_C_joinBranch_41 : decode me_C_joinBranch.2.1 41 = .ok (.aload_n 0, 1) := by decide +kernel
theorem d_C_joinBranch_42 : decode me_C_joinBranch.2.1 42 = .ok (.getfield 21, 3) := by decide +kernel
theorem g_C_joinBranch_42 : bm_gf me_C_joinBranch 42 7 3 := ⟨_, _, _, _, d_C_joinBranch_42, rfl, by decide, uw_C, fl_C_21⟩
theorem d_C_joinBranch_45 : decode me_C_joinBranch.2.1 45 = .ok (.iload_n 2, 1) := by decide +kernel
theorem d_C_joinBranch_46 : decode me_C_joinBranch.2.1 46 = .ok (.iaload, 1) := by decide +kernel
theorem d_C_joinBranch_47 : decode me_C_joinBranch.2.1 47 = .ok (.iconst (-1), 1) := by decide +kernel
theorem d_C_joinBranch_48 : decode me_C_joinBranch.2.1 48 = .ok (.if_icmp .ne (10), 3) := by decide +kernel
theorem d_C_joinBranch_51 : decode me_C_joinBranch.2.1 51 = .ok (.aload_n 0, 1) := by decide +kernel
theorem d_C_joinBranch_52 : decode me_C_joinBranch.2.1 52 = .ok (.getfield 21, 3) := by decide +kernel
theorem g_C_joinBranch_52 : bm_gf me_C_joinBranch 52 7 3 := ⟨_, _, _, _, d_C_joinBranch_52, rfl, by decide, uw_C, fl_C_21⟩
theorem d_C_joinBranch_55 : decode me_C_joinBranch.2.1 55 = .ok (.iload_n 2, 1) := by decide +kernel
theorem d_C_joinBranch_56 : decode me_C_joinBranch.2.1 56 = .ok (.iload_n 1, 1) := by decide +kernel
theorem d_C_joinBranch_57 : decode me_C_joinBranch.2.1 57 = .ok (.iastore, 1) := by decide +kernel
theorem d_C_joinBranch_58 : decode me_C_joinBranch.2.1 58 = .ok (.aload_n 0, 1) := by decide +kernel
theorem d_C_joinBranch_59 : decode me_C_joinBranch.2.1 59 = .ok (.getfield 18, 3) := by decide +kernel
theorem g_C_joinBranch_59 : bm_gf me_C_joinBranch 59 7 2 := ⟨_, _, _, _, d_C_joinBranch_59, rfl, by decide, uw_C, fl_C_18⟩
theorem d_C_joinBranch_62 : decode me_C_joinBranch.2.1 62 = .ok (.iload_n 1, 1) := by decide +kernel
theorem d_C_joinBranch_63 : decode me_C_joinBranch.2.1 63 = .ok (.iaload, 1) := by decide +kernel
theorem d_C_joinBranch_64 : decode me_C_joinBranch.2.1 64 = .ok (.iload_n 3, 1) := by decide +kernel
theorem d_C_joinBranch_65 : decode me_C_joinBranch.2.1 65 = .ok (.if_icmp .ne (17), 3) := by decide +kernel
theorem d_C_joinBranch_68 : decode me_C_joinBranch.2.1 68 = .ok (.aload_n 0, 1) := by decide +kernel
theorem d_C_joinBranch_69 : decode me_C_joinBranch.2.1 69 = .ok (.getfield 21, 3) := by decide +kernel
theorem g_C_joinBranch_69 : bm_gf me_C_joinBranch 69 7 3 := ⟨_, _, _, _, d_C_joinBranch_69, rfl, by decide, uw_C, fl_C_21⟩
theorem d_C_joinBranch_72 : decode me_C_joinBranch.2.1 72 = .ok (.iload_n 2, 1) := by decide +kernel
theorem d_C_joinBranch_73 : decode me_C_joinBranch.2.1 73 = .ok (.iaload, 1) := by decide +kernel
theorem d_C_joinBranch_74 : decode me_C_joinBranch.2.1 74 = .ok (.iload_n 1, 1) := by decide +kernel
theorem d_C_joinBranch_75 : decode me_C_joinBranch.2.1 75 = .ok (.if_icmp .ne (7), 3) := by decide +kernel
theorem d_C_joinBranch_78 : decode me_C_joinBranch.2.1 78 = .ok (.iconst 1, 1) := by decide +kernel
theorem d_C_joinBranch_79 : decode me_C_joinBranch.2.1 79 = .ok (.goto (4), 3) := by decide +kernel
theorem d_C_joinBranch_82 : decode me_C_joinBranch.2.1 82 = .ok (.iconst 0, 1) := by decide +kernel
theorem d_C_joinBranch_83 : decode me_C_joinBranch.2.1 83 = .ok (.ireturn, 1) := by decide +kernel
