theorem d_F_init_0 : decode me_F_init.2.1 0 = .ok (.aload_n 0, 1) := by decide +kernel
theorem d_F_init_1 : decode me_F_init.2.1 1 = .ok (.invokespecial 3, 3) := by decide +kernel
theorem c_F_init_1 : bm_io me_F_init 1 := ⟨_, d_F_init_1, ml_F_3, ki_obj, kc_obj, by decide, by decide⟩
theorem d_F_init_4 : decode me_F_init.2.1 4 = .ok (.aload_n 0, 1) := by decide +kernel
theorem d_F_init_5 : decode me_F_init.2.1 5 = .ok (.bipush (6), 2) := by decide +kernel
theorem d_F_init_7 : decode me_F_init.2.1 7 = .ok (.anewarray 9, 3) := by decide +kernel
theorem n_F_init_7 : bm_nq me_F_init 7 5 := ⟨_, _, d_F_init_7, lc_F_9, by decide +kernel, rfl⟩
theorem d_F_init_10 : decode me_F_init.2.1 10 = .ok (.putfield 11, 3) := by decide +kernel
theorem p_F_init_10 : bm_pf me_F_init 10 2 0 (.array (.object "BatchHall$Unit")) := ⟨_, _, _, _, ty_F, d_F_init_10, rfl, by decide, uw_F, fl_F_11, tk_F, nm_F, rfl, Or.inr ⟨rfl, rfl, rfl⟩⟩
theorem d_F_init_13 : decode me_F_init.2.1 13 = .ok (.aload_n 0, 1) := by decide +kernel
theorem d_F_init_14 : decode me_F_init.2.1 14 = .ok (.new 17, 3) := by decide +kernel
theorem n_F_init_14 : bm_nw me_F_init 14 4 [.int 0, .null, .null] := ⟨_, _, _, _, ty_K, d_F_init_14, rfl, uw_K, tk_K, lc_F_17, ic_BatchHall_LotBook, in_BatchHall_LotBook, by decide, rfl, by simp⟩
theorem d_F_init_17 : decode me_F_init.2.1 17 = .ok (.dup, 1) := by decide +kernel
theorem d_F_init_18 : decode me_F_init.2.1 18 = .ok (.invokespecial 19, 3) := by decide +kernel
theorem c_F_init_18 : bm_ii me_F_init me_K_init 18 0 := ⟨_, d_F_init_18, Or.inr ⟨"BatchHall", by decide +kernel⟩, ⟨kc_K_init, in_BatchHall_LotBook, by decide +kernel, by decide, by decide⟩, ki_K_init, rfl, rfl⟩
theorem d_F_init_21 : decode me_F_init.2.1 21 = .ok (.putfield 20, 3) := by decide +kernel
theorem p_F_init_21 : bm_pf me_F_init 21 2 1 (.object "BatchHall$LotBook") := ⟨_, _, _, _, ty_F, d_F_init_21, rfl, by decide, uw_F, fl_F_20, tk_F, nm_F, rfl, Or.inr ⟨rfl, rfl, rfl⟩⟩
theorem d_F_init_24 : decode me_F_init.2.1 24 = .ok (.aload_n 0, 1) := by decide +kernel
theorem d_F_init_25 : decode me_F_init.2.1 25 = .ok (.new 24, 3) := by decide +kernel
theorem n_F_init_25 : bm_nw me_F_init 25 5 [.null, .null] := ⟨_, _, _, _, ty_V, d_F_init_25, rfl, uw_V, tk_V, lc_F_24, ic_BatchHall_Mover, in_BatchHall_Mover, by decide, rfl, by simp⟩
theorem d_F_init_28 : decode me_F_init.2.1 28 = .ok (.dup, 1) := by decide +kernel
theorem d_F_init_29 : decode me_F_init.2.1 29 = .ok (.invokespecial 26, 3) := by decide +kernel
theorem c_F_init_29 : bm_ii me_F_init me_V_init 29 0 := ⟨_, d_F_init_29, Or.inr ⟨"BatchHall", by decide +kernel⟩, ⟨kc_V_init, in_BatchHall_Mover, by decide +kernel, by decide, by decide⟩, ki_V_init, rfl, rfl⟩
theorem d_F_init_32 : decode me_F_init.2.1 32 = .ok (.putfield 27, 3) := by decide +kernel
theorem p_F_init_32 : bm_pf me_F_init 32 2 2 (.object "BatchHall$Mover") := ⟨_, _, _, _, ty_F, d_F_init_32, rfl, by decide, uw_F, fl_F_27, tk_F, nm_F, rfl, Or.inr ⟨rfl, rfl, rfl⟩⟩
theorem d_F_init_35 : decode me_F_init.2.1 35 = .ok (.aload_n 0, 1) := by decide +kernel
theorem d_F_init_36 : decode me_F_init.2.1 36 = .ok (.bipush (16), 2) := by decide +kernel
theorem d_F_init_38 : decode me_F_init.2.1 38 = .ok (.anewarray 31, 3) := by decide +kernel
theorem n_F_init_38 : bm_nq me_F_init 38 4 := ⟨_, _, d_F_init_38, lc_F_31, by decide +kernel, rfl⟩
theorem d_F_init_41 : decode me_F_init.2.1 41 = .ok (.putfield 33, 3) := by decide +kernel
theorem p_F_init_41 : bm_pf me_F_init 41 2 3 (.array (.object "BatchHall$Batch")) := ⟨_, _, _, _, ty_F, d_F_init_41, rfl, by decide, uw_F, fl_F_33, tk_F, nm_F, rfl, Or.inr ⟨rfl, rfl, rfl⟩⟩
theorem d_F_init_44 : decode me_F_init.2.1 44 = .ok (.aload_n 0, 1) := by decide +kernel
theorem d_F_init_45 : decode me_F_init.2.1 45 = .ok (.iconst 3, 1) := by decide +kernel
theorem d_F_init_46 : decode me_F_init.2.1 46 = .ok (.newarray .int, 2) := by decide +kernel
theorem n_F_init_46 : bm_na me_F_init 46 0 .int := ⟨_, d_F_init_46, rfl, ac_int, rfl, by decide⟩
theorem d_F_init_48 : decode me_F_init.2.1 48 = .ok (.putfield 37, 3) := by decide +kernel
theorem p_F_init_48 : bm_pf me_F_init 48 2 5 (.array .int) := ⟨_, _, _, _, ty_F, d_F_init_48, rfl, by decide, uw_F, fl_F_37, tk_F, nm_F, rfl, Or.inr ⟨rfl, rfl, rfl⟩⟩
theorem d_F_init_51 : decode me_F_init.2.1 51 = .ok (.iconst 0, 1) := by decide +kernel
theorem d_F_init_52 : decode me_F_init.2.1 52 = .ok (.istore_n 1, 1) := by decide +kernel
theorem d_F_init_53 : decode me_F_init.2.1 53 = .ok (.iload_n 1, 1) := by decide +kernel
theorem d_F_init_54 : decode me_F_init.2.1 54 = .ok (.bipush (6), 2) := by decide +kernel
theorem d_F_init_56 : decode me_F_init.2.1 56 = .ok (.if_icmp .ge (22), 3) := by decide +kernel
theorem d_F_init_59 : decode me_F_init.2.1 59 = .ok (.aload_n 0, 1) := by decide +kernel
theorem d_F_init_60 : decode me_F_init.2.1 60 = .ok (.getfield 11, 3) := by decide +kernel
theorem g_F_init_60 : bm_gf me_F_init 60 2 0 := ⟨_, _, _, _, d_F_init_60, rfl, by decide, uw_F, fl_F_11⟩
theorem d_F_init_63 : decode me_F_init.2.1 63 = .ok (.iload_n 1, 1) := by decide +kernel
theorem d_F_init_64 : decode me_F_init.2.1 64 = .ok (.new 9, 3) := by decide +kernel
theorem n_F_init_64 : bm_nw me_F_init 64 10 [.int 0, .int 0, .int 0, .null, .null] := ⟨_, _, _, _, ty_U, d_F_init_64, rfl, uw_U, tk_U, lc_F_9, ic_BatchHall_Unit, in_BatchHall_Unit, by decide, rfl, by simp⟩
theorem d_F_init_67 : decode me_F_init.2.1 67 = .ok (.dup, 1) := by decide +kernel
theorem d_F_init_68 : decode me_F_init.2.1 68 = .ok (.invokespecial 41, 3) := by decide +kernel
theorem c_F_init_68 : bm_ii me_F_init me_U_init 68 0 := ⟨_, d_F_init_68, Or.inr ⟨"BatchHall", by decide +kernel⟩, ⟨kc_U_init, in_BatchHall_Unit, by decide +kernel, by decide, by decide⟩, ki_U_init, rfl, rfl⟩
theorem d_F_init_71 : decode me_F_init.2.1 71 = .ok (.aastore, 1) := by decide +kernel
theorem d_F_init_72 : decode me_F_init.2.1 72 = .ok (.iinc 1 (1), 3) := by decide +kernel
theorem d_F_init_75 : decode me_F_init.2.1 75 = .ok (.goto (-22), 3) := by decide +kernel
theorem d_F_init_78 : decode me_F_init.2.1 78 = .ok (.return_, 1) := by decide +kernel
theorem d_F_advance_0 : decode me_F_advance.2.1 0 = .ok (.iconst 0, 1) := by decide +kernel
theorem d_F_advance_1 : decode me_F_advance.2.1 1 = .ok (.istore_n 2, 1) := by decide +kernel
theorem d_F_advance_2 : decode me_F_advance.2.1 2 = .ok (.iload_n 2, 1) := by decide +kernel
theorem d_F_advance_3 : decode me_F_advance.2.1 3 = .ok (.aload_n 1, 1) := by decide +kernel
theorem d_F_advance_4 : decode me_F_advance.2.1 4 = .ok (.getfield 82, 3) := by decide +kernel
theorem g_F_advance_4 : bm_gf me_F_advance 4 1 5 := ⟨_, _, _, _, d_F_advance_4, rfl, by decide, uw_B, fl_F_82⟩
theorem d_F_advance_7 : decode me_F_advance.2.1 7 = .ok (.if_icmp .ge (32), 3) := by decide +kernel
theorem d_F_advance_10 : decode me_F_advance.2.1 10 = .ok (.aload_n 1, 1) := by decide +kernel
theorem d_F_advance_11 : decode me_F_advance.2.1 11 = .ok (.getfield 91, 3) := by decide +kernel
theorem g_F_advance_11 : bm_gf me_F_advance 11 1 6 := ⟨_, _, _, _, d_F_advance_11, rfl, by decide, uw_B, fl_F_91⟩
theorem d_F_advance_14 : decode me_F_advance.2.1 14 = .ok (.iload_n 2, 1) := by decide +kernel
theorem d_F_advance_15 : decode me_F_advance.2.1 15 = .ok (.aaload, 1) := by decide +kernel
theorem d_F_advance_16 : decode me_F_advance.2.1 16 = .ok (.getfield 95, 3) := by decide +kernel
theorem g_F_advance_16 : bm_gf me_F_advance 16 9 1 := ⟨_, _, _, _, d_F_advance_16, rfl, by decide, uw_T, fl_F_95⟩
theorem d_F_advance_19 : decode me_F_advance.2.1 19 = .ok (.ifCond .eq (14), 3) := by decide +kernel
theorem d_F_advance_22 : decode me_F_advance.2.1 22 = .ok (.aload_n 0, 1) := by decide +kernel
theorem d_F_advance_23 : decode me_F_advance.2.1 23 = .ok (.aload_n 1, 1) := by decide +kernel
theorem d_F_advance_24 : decode me_F_advance.2.1 24 = .ok (.aload_n 1, 1) := by decide +kernel
theorem d_F_advance_25 : decode me_F_advance.2.1 25 = .ok (.getfield 91, 3) := by decide +kernel
theorem g_F_advance_25 : bm_gf me_F_advance 25 1 6 := ⟨_, _, _, _, d_F_advance_25, rfl, by decide, uw_B, fl_F_91⟩
theorem d_F_advance_28 : decode me_F_advance.2.1 28 = .ok (.iload_n 2, 1) := by decide +kernel
theorem d_F_advance_29 : decode me_F_advance.2.1 29 = .ok (.aaload, 1) := by decide +kernel
theorem d_F_advance_30 : decode me_F_advance.2.1 30 = .ok (.invokevirtual 101, 3) := by decide +kernel
theorem c_F_advance_30 : bm_iv me_F_advance me_F_goOn 30 2 2 := ⟨_, d_F_advance_30, Or.inl ml_F_101, ⟨kc_F_goOn, in_BatchHall_Floor, by decide +kernel, by decide, by decide⟩, ki_F_goOn, ks_F_goOn, _, _, rfl⟩
theorem d_F_advance_33 : decode me_F_advance.2.1 33 = .ok (.iinc 2 (1), 3) := by decide +kernel
theorem d_F_advance_36 : decode me_F_advance.2.1 36 = .ok (.goto (-34), 3) := by decide +kernel
theorem d_F_advance_39 : decode me_F_advance.2.1 39 = .ok (.aload_n 1, 1) := by decide +kernel
theorem d_F_advance_40 : decode me_F_advance.2.1 40 = .ok (.getfield 50, 3) := by decide +kernel
theorem g_F_advance_40 : bm_gf me_F_advance 40 1 4 := ⟨_, _, _, _, d_F_advance_40, rfl, by decide, uw_B, fl_F_50⟩
theorem d_F_advance_43 : decode me_F_advance.2.1 43 = .ok (.iconst 4, 1) := by decide +kernel
theorem d_F_advance_44 : decode me_F_advance.2.1 44 = .ok (.if_icmp .ne (19), 3) := by decide +kernel
theorem d_F_advance_47 : decode me_F_advance.2.1 47 = .ok (.aload_n 1, 1) := by decide +kernel
theorem d_F_advance_48 : decode me_F_advance.2.1 48 = .ok (.invokevirtual 105, 3) := by decide +kernel
theorem c_F_advance_48 : bm_iv me_F_advance me_B_countBegun 48 1 0 := ⟨_, d_F_advance_48, Or.inl ml_F_105, ⟨kc_B_countBegun, in_BatchHall_Batch, by decide +kernel, by decide, by decide⟩, ki_B_countBegun, ks_B_countBegun, _, _, rfl⟩
theorem d_F_advance_51 : decode me_F_advance.2.1 51 = .ok (.ifCond .ne (12), 3) := by decide +kernel
theorem d_F_advance_54 : decode me_F_advance.2.1 54 = .ok (.aload_n 0, 1) := by decide +kernel
theorem d_F_advance_55 : decode me_F_advance.2.1 55 = .ok (.aload_n 1, 1) := by decide +kernel
theorem d_F_advance_56 : decode me_F_advance.2.1 56 = .ok (.iconst 5, 1) := by decide +kernel
theorem d_F_advance_57 : decode me_F_advance.2.1 57 = .ok (.invokevirtual 109, 3) := by decide +kernel
theorem c_F_advance_57 : bm_iv me_F_advance me_F_finish 57 2 2 := ⟨_, d_F_advance_57, Or.inl ml_F_109, ⟨kc_F_finish, in_BatchHall_Floor, by decide +kernel, by decide, by decide⟩, ki_F_finish, ks_F_finish, _, _, rfl⟩
theorem d_F_advance_60 : decode me_F_advance.2.1 60 = .ok (.goto (16), 3) := by decide +kernel
theorem d_F_advance_63 : decode me_F_advance.2.1 63 = .ok (.aload_n 1, 1) := by decide +kernel
theorem d_F_advance_64 : decode me_F_advance.2.1 64 = .ok (.getfield 50, 3) := by decide +kernel
theorem g_F_advance_64 : bm_gf me_F_advance 64 1 4 := ⟨_, _, _, _, d_F_advance_64, rfl, by decide, uw_B, fl_F_50⟩
theorem d_F_advance_67 : decode me_F_advance.2.1 67 = .ok (.iconst 2, 1) := by decide +kernel
theorem d_F_advance_68 : decode me_F_advance.2.1 68 = .ok (.if_icmp .ne (8), 3) := by decide +kernel
theorem d_F_advance_71 : decode me_F_advance.2.1 71 = .ok (.aload_n 0, 1) := by decide +kernel
theorem d_F_advance_72 : decode me_F_advance.2.1 72 = .ok (.aload_n 1, 1) := by decide +kernel
theorem d_F_advance_73 : decode me_F_advance.2.1 73 = .ok (.invokevirtual 75, 3) := by decide +kernel
theorem c_F_advance_73 : bm_iv me_F_advance me_F_moveTokens 73 2 1 := ⟨_, d_F_advance_73, Or.inl ml_F_75, ⟨kc_F_moveTokens, in_BatchHall_Floor, by decide +kernel, by decide, by decide⟩, ki_F_moveTokens, ks_F_moveTokens, _, _, rfl⟩
theorem d_F_advance_76 : decode me_F_advance.2.1 76 = .ok (.return_, 1) := by decide +kernel
theorem d_F_goOn_0 : decode me_F_goOn.2.1 0 = .ok (.aload_n 1, 1) := by decide +kernel
theorem d_F_goOn_1 : decode me_F_goOn.2.1 1 = .ok (.getfield 59, 3) := by decide +kernel
theorem g_F_goOn_1 : bm_gf me_F_goOn 1 1 2 := ⟨_, _, _, _, d_F_goOn_1, rfl, by decide, uw_B, fl_F_59⟩
theorem d_F_goOn_4 : decode me_F_goOn.2.1 4 = .ok (.getfield 145, 3) := by decide +kernel
theorem g_F_goOn_4 : bm_gf me_F_goOn 4 6 3 := ⟨_, _, _, _, d_F_goOn_4, rfl, by decide, uw_R, fl_F_145⟩
theorem d_F_goOn_7 : decode me_F_goOn.2.1 7 = .ok (.aload_n 2, 1) := by decide +kernel
theorem d_F_goOn_8 : decode me_F_goOn.2.1 8 = .ok (.getfield 149, 3) := by decide +kernel
theorem g_F_goOn_8 : bm_gf me_F_goOn 8 9 0 := ⟨_, _, _, _, d_F_goOn_8, rfl, by decide, uw_T, fl_F_149⟩
theorem d_F_goOn_11 : decode me_F_goOn.2.1 11 = .ok (.aaload, 1) := by decide +kernel
theorem d_F_goOn_12 : decode me_F_goOn.2.1 12 = .ok (.astore_n 3, 1) := by decide +kernel
theorem d_F_goOn_13 : decode me_F_goOn.2.1 13 = .ok (.aload_n 3, 1) := by decide +kernel
theorem d_F_goOn_14 : decode me_F_goOn.2.1 14 = .ok (.getfield 152, 3) := by decide +kernel
theorem g_F_goOn_14 : bm_gf me_F_goOn 14 8 0 := ⟨_, _, _, _, d_F_goOn_14, rfl, by decide, uw_S, fl_F_152⟩
theorem d_F_goOn_17 : decode me_F_goOn.2.1 17 = .ok (.tableswitch (64) (0) (3) #[(31), (51), (41), (51)], 31) := by decide +kernel
theorem d_F_goOn_48 : decode me_F_goOn.2.1 48 = .ok (.aload_n 0, 1) := by decide +kernel
theorem d_F_goOn_49 : decode me_F_goOn.2.1 49 = .ok (.aload_n 1, 1) := by decide +kernel
theorem d_F_goOn_50 : decode me_F_goOn.2.1 50 = .ok (.aload_n 2, 1) := by decide +kernel
theorem d_F_goOn_51 : decode me_F_goOn.2.1 51 = .ok (.aload_n 3, 1) := by decide +kernel
theorem d_F_goOn_52 : decode me_F_goOn.2.1 52 = .ok (.invokevirtual 219, 3) := by decide +kernel
theorem c_F_goOn_52 : bm_iv me_F_goOn me_F_chargeOn 52 2 3 := ⟨_, d_F_goOn_52, Or.inl ml_F_219, ⟨kc_F_chargeOn, in_BatchHall_Floor, by decide +kernel, by decide, by decide⟩, ki_F_chargeOn, ks_F_chargeOn, _, _, rfl⟩
theorem d_F_goOn_55 : decode me_F_goOn.2.1 55 = .ok (.goto (26), 3) := by decide +kernel
theorem d_F_goOn_58 : decode me_F_goOn.2.1 58 = .ok (.aload_n 0, 1) := by decide +kernel
theorem d_F_goOn_59 : decode me_F_goOn.2.1 59 = .ok (.aload_n 1, 1) := by decide +kernel
theorem d_F_goOn_60 : decode me_F_goOn.2.1 60 = .ok (.aload_n 2, 1) := by decide +kernel
theorem d_F_goOn_61 : decode me_F_goOn.2.1 61 = .ok (.aload_n 3, 1) := by decide +kernel
theorem d_F_goOn_62 : decode me_F_goOn.2.1 62 = .ok (.invokevirtual 222, 3) := by decide +kernel
theorem c_F_goOn_62 : bm_iv me_F_goOn me_F_moveOn 62 2 3 := ⟨_, d_F_goOn_62, Or.inl ml_F_222, ⟨kc_F_moveOn, in_BatchHall_Floor, by decide +kernel, by decide, by decide⟩, ki_F_moveOn, ks_F_moveOn, _, _, rfl⟩
theorem d_F_goOn_65 : decode me_F_goOn.2.1 65 = .ok (.goto (16), 3) := by decide +kernel
theorem d_F_goOn_68 : decode me_F_goOn.2.1 68 = .ok (.aload_n 2, 1) := by decide +kernel
theorem d_F_goOn_69 : decode me_F_goOn.2.1 69 = .ok (.dup, 1) := by decide +kernel
theorem d_F_goOn_70 : decode me_F_goOn.2.1 70 = .ok (.getfield 209, 3) := by decide +kernel
theorem g_F_goOn_70 : bm_gf me_F_goOn 70 9 2 := ⟨_, _, _, _, d_F_goOn_70, rfl, by decide, uw_T, fl_F_209⟩
theorem d_F_goOn_73 : decode me_F_goOn.2.1 73 = .ok (.iconst 1, 1) := by decide +kernel
theorem d_F_goOn_74 : decode me_F_goOn.2.1 74 = .ok (.isub, 1) := by decide +kernel
theorem d_F_goOn_75 : decode me_F_goOn.2.1 75 = .ok (.putfield 209, 3) := by decide +kernel
theorem p_F_goOn_75 : bm_pf me_F_goOn 75 9 2 .int := ⟨_, _, _, _, ty_T, d_F_goOn_75, rfl, by decide, uw_T, fl_F_209, tk_T, nm_T, rfl, Or.inl rfl⟩
theorem d_F_goOn_78 : decode me_F_goOn.2.1 78 = .ok (.goto (3), 3) := by decide +kernel
theorem d_F_goOn_81 : decode me_F_goOn.2.1 81 = .ok (.aload_n 2, 1) := by decide +kernel
theorem d_F_goOn_82 : decode me_F_goOn.2.1 82 = .ok (.getfield 209, 3) := by decide +kernel
theorem g_F_goOn_82 : bm_gf me_F_goOn 82 9 2 := ⟨_, _, _, _, d_F_goOn_82, rfl, by decide, uw_T, fl_F_209⟩
theorem d_F_goOn_85 : decode me_F_goOn.2.1 85 = .ok (.ifCond .le (4), 3) := by decide +kernel
theorem d_F_goOn_88 : decode me_F_goOn.2.1 88 = .ok (.return_, 1) := by decide +kernel
theorem d_F_goOn_89 : decode me_F_goOn.2.1 89 = .ok (.aload_n 3, 1) := by decide +kernel
theorem d_F_goOn_90 : decode me_F_goOn.2.1 90 = .ok (.getfield 152, 3) := by decide +kernel
theorem g_F_goOn_90 : bm_gf me_F_goOn 90 8 0 := ⟨_, _, _, _, d_F_goOn_90, rfl, by decide, uw_S, fl_F_152⟩
theorem d_F_goOn_93 : decode me_F_goOn.2.1 93 = .ok (.iconst 3, 1) := by decide +kernel
theorem d_F_goOn_94 : decode me_F_goOn.2.1 94 = .ok (.if_icmp .ne (21), 3) := by decide +kernel
theorem d_F_goOn_97 : decode me_F_goOn.2.1 97 = .ok (.aload_n 0, 1) := by decide +kernel
theorem d_F_goOn_98 : decode me_F_goOn.2.1 98 = .ok (.aload_n 1, 1) := by decide +kernel
theorem d_F_goOn_99 : decode me_F_goOn.2.1 99 = .ok (.aload_n 2, 1) := by decide +kernel
theorem d_F_goOn_100 : decode me_F_goOn.2.1 100 = .ok (.getfield 149, 3) := by decide +kernel
theorem g_F_goOn_100 : bm_gf me_F_goOn 100 9 0 := ⟨_, _, _, _, d_F_goOn_100, rfl, by decide, uw_T, fl_F_149⟩
theorem d_F_goOn_103 : decode me_F_goOn.2.1 103 = .ok (.aload_n 0, 1) := by decide +kernel
theorem d_F_goOn_104 : decode me_F_goOn.2.1 104 = .ok (.aload_n 1, 1) := by decide +kernel
theorem d_F_goOn_105 : decode me_F_goOn.2.1 105 = .ok (.aload_n 3, 1) := by decide +kernel
theorem d_F_goOn_106 : decode me_F_goOn.2.1 106 = .ok (.getfield 174, 3) := by decide +kernel
theorem g_F_goOn_106 : bm_gf me_F_goOn 106 8 1 := ⟨_, _, _, _, d_F_goOn_106, rfl, by decide, uw_S, fl_F_174⟩
theorem d_F_goOn_109 : decode me_F_goOn.2.1 109 = .ok (.invokevirtual 212, 3) := by decide +kernel
theorem c_F_goOn_109 : bm_iv me_F_goOn me_F_unitFor 109 2 2 := ⟨_, d_F_goOn_109, Or.inl ml_F_212, ⟨kc_F_unitFor, in_BatchHall_Floor, by decide +kernel, by decide, by decide⟩, ki_F_unitFor, ks_F_unitFor, _, _, rfl⟩
theorem d_F_goOn_112 : decode me_F_goOn.2.1 112 = .ok (.invokevirtual 225, 3) := by decide +kernel
theorem c_F_goOn_112 : bm_iv me_F_goOn me_F_react 112 2 3 := ⟨_, d_F_goOn_112, Or.inl ml_F_225, ⟨kc_F_react, in_BatchHall_Floor, by decide +kernel, by decide, by decide⟩, ki_F_react, ks_F_react, _, _, rfl⟩
theorem d_F_goOn_115 : decode me_F_goOn.2.1 115 = .ok (.aload_n 2, 1) := by decide +kernel
theorem d_F_goOn_116 : decode me_F_goOn.2.1 116 = .ok (.iconst 0, 1) := by decide +kernel
theorem d_F_goOn_117 : decode me_F_goOn.2.1 117 = .ok (.putfield 95, 3) := by decide +kernel
theorem p_F_goOn_117 : bm_pf me_F_goOn 117 9 1 .boolean := ⟨_, _, _, _, ty_T, d_F_goOn_117, rfl, by decide, uw_T, fl_F_95, tk_T, nm_T, rfl, Or.inl rfl⟩
theorem d_F_goOn_120 : decode me_F_goOn.2.1 120 = .ok (.aload_n 2, 1) := by decide +kernel
theorem d_F_goOn_121 : decode me_F_goOn.2.1 121 = .ok (.aload_n 3, 1) := by decide +kernel
theorem d_F_goOn_122 : decode me_F_goOn.2.1 122 = .ok (.getfield 160, 3) := by decide +kernel
theorem g_F_goOn_122 : bm_gf me_F_goOn 122 8 4 := ⟨_, _, _, _, d_F_goOn_122, rfl, by decide, uw_S, fl_F_160⟩
theorem d_F_goOn_125 : decode me_F_goOn.2.1 125 = .ok (.putfield 149, 3) := by decide +kernel
theorem p_F_goOn_125 : bm_pf me_F_goOn 125 9 0 .int := ⟨_, _, _, _, ty_T, d_F_goOn_125, rfl, by decide, uw_T, fl_F_149, tk_T, nm_T, rfl, Or.inl rfl⟩
theorem d_F_goOn_128 : decode me_F_goOn.2.1 128 = .ok (.return_, 1) := by decide +kernel
theorem d_F_chargeOn_0 : decode me_F_chargeOn.2.1 0 = .ok (.bipush (10), 2) := by decide +kernel
theorem d_F_chargeOn_2 : decode me_F_chargeOn.2.1 2 = .ok (.aload_n 2, 1) := by decide +kernel
theorem d_F_chargeOn_3 : decode me_F_chargeOn.2.1 3 = .ok (.getfield 209, 3) := by decide +kernel
theorem g_F_chargeOn_3 : bm_gf me_F_chargeOn 3 9 2 := ⟨_, _, _, _, d_F_chargeOn_3, rfl, by decide, uw_T, fl_F_209⟩
theorem d_F_chargeOn_6 : decode me_F_chargeOn.2.1 6 = .ok (.invokestatic 229, 3) := by decide +kernel
theorem c_F_chargeOn_6 : bm_is me_F_chargeOn me_Z_min 6 2 := ⟨_, d_F_chargeOn_6, Or.inl ml_F_229, ⟨kc_Z_min, in_java_lang_Math, by decide +kernel, by decide, by decide⟩, kt_Z_min⟩
theorem d_F_chargeOn_9 : decode me_F_chargeOn.2.1 9 = .ok (.istore 4, 2) := by decide +kernel
theorem d_F_chargeOn_11 : decode me_F_chargeOn.2.1 11 = .ok (.aload_n 0, 1) := by decide +kernel
theorem d_F_chargeOn_12 : decode me_F_chargeOn.2.1 12 = .ok (.aload_n 1, 1) := by decide +kernel
theorem d_F_chargeOn_13 : decode me_F_chargeOn.2.1 13 = .ok (.aload_n 3, 1) := by decide +kernel
theorem d_F_chargeOn_14 : decode me_F_chargeOn.2.1 14 = .ok (.getfield 174, 3) := by decide +kernel
theorem g_F_chargeOn_14 : bm_gf me_F_chargeOn 14 8 1 := ⟨_, _, _, _, d_F_chargeOn_14, rfl, by decide, uw_S, fl_F_174⟩
theorem d_F_chargeOn_17 : decode me_F_chargeOn.2.1 17 = .ok (.invokevirtual 212, 3) := by decide +kernel
theorem c_F_chargeOn_17 : bm_iv me_F_chargeOn me_F_unitFor 17 2 2 := ⟨_, d_F_chargeOn_17, Or.inl ml_F_212, ⟨kc_F_unitFor, in_BatchHall_Floor, by decide +kernel, by decide, by decide⟩, ki_F_unitFor, ks_F_unitFor, _, _, rfl⟩
theorem d_F_chargeOn_20 : decode me_F_chargeOn.2.1 20 = .ok (.aload_n 2, 1) := by decide +kernel
theorem d_F_chargeOn_21 : decode me_F_chargeOn.2.1 21 = .ok (.getfield 200, 3) := by decide +kernel
theorem g_F_chargeOn_21 : bm_gf me_F_chargeOn 21 9 3 := ⟨_, _, _, _, d_F_chargeOn_21, rfl, by decide, uw_T, fl_F_200⟩
theorem d_F_chargeOn_24 : decode me_F_chargeOn.2.1 24 = .ok (.iload 4, 2) := by decide +kernel
theorem d_F_chargeOn_26 : decode me_F_chargeOn.2.1 26 = .ok (.invokevirtual 234, 3) := by decide +kernel
theorem c_F_chargeOn_26 : bm_iv me_F_chargeOn me_U_add 26 10 2 := ⟨_, d_F_chargeOn_26, Or.inl ml_F_234, ⟨kc_U_add, in_BatchHall_Unit, by decide +kernel, by decide, by decide⟩, ki_U_add, ks_U_add, _, _, rfl⟩
theorem d_F_chargeOn_29 : decode me_F_chargeOn.2.1 29 = .ok (.aload_n 2, 1) := by decide +kernel
theorem d_F_chargeOn_30 : decode me_F_chargeOn.2.1 30 = .ok (.dup, 1) := by decide +kernel
theorem d_F_chargeOn_31 : decode me_F_chargeOn.2.1 31 = .ok (.getfield 209, 3) := by decide +kernel
theorem g_F_chargeOn_31 : bm_gf me_F_chargeOn 31 9 2 := ⟨_, _, _, _, d_F_chargeOn_31, rfl, by decide, uw_T, fl_F_209⟩
theorem d_F_chargeOn_34 : decode me_F_chargeOn.2.1 34 = .ok (.iload 4, 2) := by decide +kernel
theorem d_F_chargeOn_36 : decode me_F_chargeOn.2.1 36 = .ok (.isub, 1) := by decide +kernel
theorem d_F_chargeOn_37 : decode me_F_chargeOn.2.1 37 = .ok (.putfield 209, 3) := by decide +kernel
theorem p_F_chargeOn_37 : bm_pf me_F_chargeOn 37 9 2 .int := ⟨_, _, _, _, ty_T, d_F_chargeOn_37, rfl, by decide, uw_T, fl_F_209, tk_T, nm_T, rfl, Or.inl rfl⟩
theorem d_F_chargeOn_40 : decode me_F_chargeOn.2.1 40 = .ok (.return_, 1) := by decide +kernel
theorem d_F_unitFor_0 : decode me_F_unitFor.2.1 0 = .ok (.aload_n 0, 1) := by decide +kernel
theorem d_F_unitFor_1 : decode me_F_unitFor.2.1 1 = .ok (.getfield 11, 3) := by decide +kernel
theorem g_F_unitFor_1 : bm_gf me_F_unitFor 1 2 0 := ⟨_, _, _, _, d_F_unitFor_1, rfl, by decide, uw_F, fl_F_11⟩
theorem d_F_unitFor_4 : decode me_F_unitFor.2.1 4 = .ok (.aload_n 1, 1) := by decide +kernel
theorem d_F_unitFor_5 : decode me_F_unitFor.2.1 5 = .ok (.getfield 85, 3) := by decide +kernel
theorem g_F_unitFor_5 : bm_gf me_F_unitFor 5 1 9 := ⟨_, _, _, _, d_F_unitFor_5, rfl, by decide, uw_B, fl_F_85⟩
theorem d_F_unitFor_8 : decode me_F_unitFor.2.1 8 = .ok (.iload_n 2, 1) := by decide +kernel
theorem d_F_unitFor_9 : decode me_F_unitFor.2.1 9 = .ok (.iaload, 1) := by decide +kernel
theorem d_F_unitFor_10 : decode me_F_unitFor.2.1 10 = .ok (.aaload, 1) := by decide +kernel
theorem d_F_unitFor_11 : decode me_F_unitFor.2.1 11 = .ok (.areturn, 1) := by decide +kernel
theorem d_F_moveOn_0 : decode me_F_moveOn.2.1 0 = .ok (.aload_n 0, 1) := by decide +kernel
theorem d_F_moveOn_1 : decode me_F_moveOn.2.1 1 = .ok (.aload_n 1, 1) := by decide +kernel
theorem d_F_moveOn_2 : decode me_F_moveOn.2.1 2 = .ok (.aload_n 3, 1) := by decide +kernel
theorem d_F_moveOn_3 : decode me_F_moveOn.2.1 3 = .ok (.getfield 174, 3) := by decide +kernel
theorem g_F_moveOn_3 : bm_gf me_F_moveOn 3 8 1 := ⟨_, _, _, _, d_F_moveOn_3, rfl, by decide, uw_S, fl_F_174⟩
theorem d_F_moveOn_6 : decode me_F_moveOn.2.1 6 = .ok (.invokevirtual 212, 3) := by decide +kernel
theorem c_F_moveOn_6 : bm_iv me_F_moveOn me_F_unitFor 6 2 2 := ⟨_, d_F_moveOn_6, Or.inl ml_F_212, ⟨kc_F_unitFor, in_BatchHall_Floor, by decide +kernel, by decide, by decide⟩, ki_F_unitFor, ks_F_unitFor, _, _, rfl⟩
theorem d_F_moveOn_9 : decode me_F_moveOn.2.1 9 = .ok (.astore 4, 2) := by decide +kernel
theorem d_F_moveOn_11 : decode me_F_moveOn.2.1 11 = .ok (.bipush (10), 2) := by decide +kernel
theorem d_F_moveOn_13 : decode me_F_moveOn.2.1 13 = .ok (.aload_n 2, 1) := by decide +kernel
theorem d_F_moveOn_14 : decode me_F_moveOn.2.1 14 = .ok (.getfield 209, 3) := by decide +kernel
theorem g_F_moveOn_14 : bm_gf me_F_moveOn 14 9 2 := ⟨_, _, _, _, d_F_moveOn_14, rfl, by decide, uw_T, fl_F_209⟩
theorem d_F_moveOn_17 : decode me_F_moveOn.2.1 17 = .ok (.invokestatic 229, 3) := by decide +kernel
theorem c_F_moveOn_17 : bm_is me_F_moveOn me_Z_min 17 2 := ⟨_, d_F_moveOn_17, Or.inl ml_F_229, ⟨kc_Z_min, in_java_lang_Math, by decide +kernel, by decide, by decide⟩, kt_Z_min⟩
theorem d_F_moveOn_20 : decode me_F_moveOn.2.1 20 = .ok (.istore 5, 2) := by decide +kernel
theorem d_F_moveOn_22 : decode me_F_moveOn.2.1 22 = .ok (.aload 4, 2) := by decide +kernel
theorem d_F_moveOn_24 : decode me_F_moveOn.2.1 24 = .ok (.invokevirtual 216, 3) := by decide +kernel
theorem c_F_moveOn_24 : bm_iv me_F_moveOn me_U_total 24 10 0 := ⟨_, d_F_moveOn_24, Or.inl ml_F_216, ⟨kc_U_total, in_BatchHall_Unit, by decide +kernel, by decide, by decide⟩, ki_U_total, ks_U_total, _, _, rfl⟩
theorem d_F_moveOn_27 : decode me_F_moveOn.2.1 27 = .ok (.istore 6, 2) := by decide +kernel
theorem d_F_moveOn_29 : decode me_F_moveOn.2.1 29 = .ok (.iload 6, 2) := by decide +kernel
theorem d_F_moveOn_31 : decode me_F_moveOn.2.1 31 = .ok (.iload 5, 2) := by decide +kernel
theorem d_F_moveOn_33 : decode me_F_moveOn.2.1 33 = .ok (.if_icmp .ge (13), 3) := by decide +kernel
theorem d_F_moveOn_36 : decode me_F_moveOn.2.1 36 = .ok (.iload 6, 2) := by decide +kernel
theorem d_F_moveOn_38 : decode me_F_moveOn.2.1 38 = .ok (.istore 5, 2) := by decide +kernel
theorem d_F_moveOn_40 : decode me_F_moveOn.2.1 40 = .ok (.aload_n 2, 1) := by decide +kernel
theorem d_F_moveOn_41 : decode me_F_moveOn.2.1 41 = .ok (.iload 6, 2) := by decide +kernel
theorem d_F_moveOn_43 : decode me_F_moveOn.2.1 43 = .ok (.putfield 209, 3) := by decide +kernel
theorem p_F_moveOn_43 : bm_pf me_F_moveOn 43 9 2 .int := ⟨_, _, _, _, ty_T, d_F_moveOn_43, rfl, by decide, uw_T, fl_F_209, tk_T, nm_T, rfl, Or.inl rfl⟩
theorem d_F_moveOn_46 : decode me_F_moveOn.2.1 46 = .ok (.aload_n 0, 1) := by decide +kernel
theorem d_F_moveOn_47 : decode me_F_moveOn.2.1 47 = .ok (.getfield 27, 3) := by decide +kernel
theorem g_F_moveOn_47 : bm_gf me_F_moveOn 47 2 2 := ⟨_, _, _, _, d_F_moveOn_47, rfl, by decide, uw_F, fl_F_27⟩
theorem d_F_moveOn_50 : decode me_F_moveOn.2.1 50 = .ok (.aload 4, 2) := by decide +kernel
theorem d_F_moveOn_52 : decode me_F_moveOn.2.1 52 = .ok (.aload_n 0, 1) := by decide +kernel
theorem d_F_moveOn_53 : decode me_F_moveOn.2.1 53 = .ok (.aload_n 1, 1) := by decide +kernel
theorem d_F_moveOn_54 : decode me_F_moveOn.2.1 54 = .ok (.aload_n 3, 1) := by decide +kernel
theorem d_F_moveOn_55 : decode me_F_moveOn.2.1 55 = .ok (.getfield 177, 3) := by decide +kernel
theorem g_F_moveOn_55 : bm_gf me_F_moveOn 55 8 2 := ⟨_, _, _, _, d_F_moveOn_55, rfl, by decide, uw_S, fl_F_177⟩
theorem d_F_moveOn_58 : decode me_F_moveOn.2.1 58 = .ok (.invokevirtual 212, 3) := by decide +kernel
theorem c_F_moveOn_58 : bm_iv me_F_moveOn me_F_unitFor 58 2 2 := ⟨_, d_F_moveOn_58, Or.inl ml_F_212, ⟨kc_F_unitFor, in_BatchHall_Floor, by decide +kernel, by decide, by decide⟩, ki_F_unitFor, ks_F_unitFor, _, _, rfl⟩
theorem d_F_moveOn_61 : decode me_F_moveOn.2.1 61 = .ok (.iload 5, 2) := by decide +kernel
theorem d_F_moveOn_63 : decode me_F_moveOn.2.1 63 = .ok (.invokevirtual 238, 3) := by decide +kernel
theorem c_F_moveOn_63 : bm_iv me_F_moveOn me_V_transfer 63 5 3 := ⟨_, d_F_moveOn_63, Or.inl ml_F_238, ⟨kc_V_transfer, in_BatchHall_Mover, by decide +kernel, by decide, by decide⟩, ki_V_transfer, ks_V_transfer, _, _, rfl⟩
theorem d_F_moveOn_66 : decode me_F_moveOn.2.1 66 = .ok (.aload_n 2, 1) := by decide +kernel
theorem d_F_moveOn_67 : decode me_F_moveOn.2.1 67 = .ok (.dup, 1) := by decide +kernel
theorem d_F_moveOn_68 : decode me_F_moveOn.2.1 68 = .ok (.getfield 209, 3) := by decide +kernel
theorem g_F_moveOn_68 : bm_gf me_F_moveOn 68 9 2 := ⟨_, _, _, _, d_F_moveOn_68, rfl, by decide, uw_T, fl_F_209⟩
theorem d_F_moveOn_71 : decode me_F_moveOn.2.1 71 = .ok (.iload 5, 2) := by decide +kernel
theorem d_F_moveOn_73 : decode me_F_moveOn.2.1 73 = .ok (.isub, 1) := by decide +kernel
theorem d_F_moveOn_74 : decode me_F_moveOn.2.1 74 = .ok (.putfield 209, 3) := by decide +kernel
theorem p_F_moveOn_74 : bm_pf me_F_moveOn 74 9 2 .int := ⟨_, _, _, _, ty_T, d_F_moveOn_74, rfl, by decide, uw_T, fl_F_209, tk_T, nm_T, rfl, Or.inl rfl⟩
theorem d_F_moveOn_77 : decode me_F_moveOn.2.1 77 = .ok (.return_, 1) := by decide +kernel
theorem d_F_react_0 : decode me_F_react.2.1 0 = .ok (.aload_n 3, 1) := by decide +kernel
theorem d_F_react_1 : decode me_F_react.2.1 1 = .ok (.getfield 242, 3) := by decide +kernel
theorem g_F_react_1 : bm_gf me_F_react 1 10 2 := ⟨_, _, _, _, d_F_react_1, rfl, by decide, uw_U, fl_F_242⟩
theorem d_F_react_4 : decode me_F_react.2.1 4 = .ok (.ifCond .ne (4), 3) := by decide +kernel
theorem d_F_react_7 : decode me_F_react.2.1 7 = .ok (.return_, 1) := by decide +kernel
theorem d_F_react_8 : decode me_F_react.2.1 8 = .ok (.aload_n 0, 1) := by decide +kernel
theorem d_F_react_9 : decode me_F_react.2.1 9 = .ok (.getfield 20, 3) := by decide +kernel
theorem g_F_react_9 : bm_gf me_F_react 9 2 1 := ⟨_, _, _, _, d_F_react_9, rfl, by decide, uw_F, fl_F_20⟩
theorem d_F_react_12 : decode me_F_react.2.1 12 = .ok (.invokevirtual 192, 3) := by decide +kernel
theorem c_F_react_12 : bm_iv me_F_react me_K_isFull 12 4 0 := ⟨_, d_F_react_12, Or.inl ml_F_192, ⟨kc_K_isFull, in_BatchHall_LotBook, by decide +kernel, by decide, by decide⟩, ki_K_isFull, ks_K_isFull, _, _, rfl⟩
theorem d_F_react_15 : decode me_F_react.2.1 15 = .ok (.ifCond .eq (11), 3) := by decide +kernel
theorem d_F_react_18 : decode me_F_react.2.1 18 = .ok (.aload_n 0, 1) := by decide +kernel
theorem d_F_react_19 : decode me_F_react.2.1 19 = .ok (.aload_n 1, 1) := by decide +kernel
theorem d_F_react_20 : decode me_F_react.2.1 20 = .ok (.bipush (6), 2) := by decide +kernel
theorem d_F_react_22 : decode me_F_react.2.1 22 = .ok (.invokevirtual 109, 3) := by decide +kernel
theorem c_F_react_22 : bm_iv me_F_react me_F_finish 22 2 2 := ⟨_, d_F_react_22, Or.inl ml_F_109, ⟨kc_F_finish, in_BatchHall_Floor, by decide +kernel, by decide, by decide⟩, ki_F_finish, ks_F_finish, _, _, rfl⟩
theorem d_F_react_25 : decode me_F_react.2.1 25 = .ok (.return_, 1) := by decide +kernel
theorem d_F_react_26 : decode me_F_react.2.1 26 = .ok (.aload_n 0, 1) := by decide +kernel
theorem d_F_react_27 : decode me_F_react.2.1 27 = .ok (.getfield 20, 3) := by decide +kernel
theorem g_F_react_27 : bm_gf me_F_react 27 2 1 := ⟨_, _, _, _, d_F_react_27, rfl, by decide, uw_F, fl_F_20⟩
theorem d_F_react_30 : decode me_F_react.2.1 30 = .ok (.aload_n 1, 1) := by decide +kernel
theorem d_F_react_31 : decode me_F_react.2.1 31 = .ok (.getfield 134, 3) := by decide +kernel
theorem g_F_react_31 : bm_gf me_F_react 31 1 0 := ⟨_, _, _, _, d_F_react_31, rfl, by decide, uw_B, fl_F_134⟩
theorem d_F_react_34 : decode me_F_react.2.1 34 = .ok (.iload_n 2, 1) := by decide +kernel
theorem d_F_react_35 : decode me_F_react.2.1 35 = .ok (.invokevirtual 196, 3) := by decide +kernel
theorem c_F_react_35 : bm_iv me_F_react me_K_open 35 4 2 := ⟨_, d_F_react_35, Or.inl ml_F_196, ⟨kc_K_open, in_BatchHall_LotBook, by decide +kernel, by decide, by decide⟩, ki_K_open, ks_K_open, _, _, rfl⟩
theorem d_F_react_38 : decode me_F_react.2.1 38 = .ok (.istore 4, 2) := by decide +kernel
theorem d_F_react_40 : decode me_F_react.2.1 40 = .ok (.aload_n 0, 1) := by decide +kernel
theorem d_F_react_41 : decode me_F_react.2.1 41 = .ok (.getfield 20, 3) := by decide +kernel
theorem g_F_react_41 : bm_gf me_F_react 41 2 1 := ⟨_, _, _, _, d_F_react_41, rfl, by decide, uw_F, fl_F_20⟩
theorem d_F_react_44 : decode me_F_react.2.1 44 = .ok (.iload 4, 2) := by decide +kernel
theorem d_F_react_46 : decode me_F_react.2.1 46 = .ok (.aload_n 3, 1) := by decide +kernel
theorem d_F_react_47 : decode me_F_react.2.1 47 = .ok (.invokevirtual 245, 3) := by decide +kernel
theorem c_F_react_47 : bm_iv me_F_react me_K_putInto 47 4 2 := ⟨_, d_F_react_47, Or.inl ml_F_245, ⟨kc_K_putInto, in_BatchHall_LotBook, by decide +kernel, by decide, by decide⟩, ki_K_putInto, ks_K_putInto, _, _, rfl⟩
theorem d_F_react_50 : decode me_F_react.2.1 50 = .ok (.aload_n 3, 1) := by decide +kernel
theorem d_F_react_51 : decode me_F_react.2.1 51 = .ok (.invokevirtual 216, 3) := by decide +kernel
theorem c_F_react_51 : bm_iv me_F_react me_U_total 51 10 0 := ⟨_, d_F_react_51, Or.inl ml_F_216, ⟨kc_U_total, in_BatchHall_Unit, by decide +kernel, by decide, by decide⟩, ki_U_total, ks_U_total, _, _, rfl⟩
theorem d_F_react_54 : decode me_F_react.2.1 54 = .ok (.istore 5, 2) := by decide +kernel
theorem d_F_react_56 : decode me_F_react.2.1 56 = .ok (.aload_n 3, 1) := by decide +kernel
theorem d_F_react_57 : decode me_F_react.2.1 57 = .ok (.iconst 0, 1) := by decide +kernel
theorem d_F_react_58 : decode me_F_react.2.1 58 = .ok (.putfield 242, 3) := by decide +kernel
theorem p_F_react_58 : bm_pf me_F_react 58 10 2 .int := ⟨_, _, _, _, ty_U, d_F_react_58, rfl, by decide, uw_U, fl_F_242, tk_U, nm_U, rfl, Or.inl rfl⟩
theorem d_F_react_61 : decode me_F_react.2.1 61 = .ok (.aload_n 3, 1) := by decide +kernel
theorem d_F_react_62 : decode me_F_react.2.1 62 = .ok (.iload 4, 2) := by decide +kernel
theorem d_F_react_64 : decode me_F_react.2.1 64 = .ok (.iload 5, 2) := by decide +kernel
theorem d_F_react_66 : decode me_F_react.2.1 66 = .ok (.invokevirtual 234, 3) := by decide +kernel
theorem c_F_react_66 : bm_iv me_F_react me_U_add 66 10 2 := ⟨_, d_F_react_66, Or.inl ml_F_234, ⟨kc_U_add, in_BatchHall_Unit, by decide +kernel, by decide, by decide⟩, ki_U_add, ks_U_add, _, _, rfl⟩
theorem d_F_react_69 : decode me_F_react.2.1 69 = .ok (.return_, 1) := by decide +kernel
theorem d_F_finish_0 : decode me_F_finish.2.1 0 = .ok (.aload_n 1, 1) := by decide +kernel
theorem d_F_finish_1 : decode me_F_finish.2.1 1 = .ok (.iload_n 2, 1) := by decide +kernel
theorem d_F_finish_2 : decode me_F_finish.2.1 2 = .ok (.putfield 50, 3) := by decide +kernel
theorem p_F_finish_2 : bm_pf me_F_finish 2 1 4 .int := ⟨_, _, _, _, ty_B, d_F_finish_2, rfl, by decide, uw_B, fl_F_50, tk_B, nm_B, rfl, Or.inl rfl⟩
theorem d_F_finish_5 : decode me_F_finish.2.1 5 = .ok (.aload_n 1, 1) := by decide +kernel
theorem d_F_finish_6 : decode me_F_finish.2.1 6 = .ok (.iconst 0, 1) := by decide +kernel
theorem d_F_finish_7 : decode me_F_finish.2.1 7 = .ok (.putfield 82, 3) := by decide +kernel
theorem p_F_finish_7 : bm_pf me_F_finish 7 1 5 .int := ⟨_, _, _, _, ty_B, d_F_finish_7, rfl, by decide, uw_B, fl_F_82, tk_B, nm_B, rfl, Or.inl rfl⟩
theorem d_F_finish_10 : decode me_F_finish.2.1 10 = .ok (.iconst 0, 1) := by decide +kernel
theorem d_F_finish_11 : decode me_F_finish.2.1 11 = .ok (.istore_n 3, 1) := by decide +kernel
theorem d_F_finish_12 : decode me_F_finish.2.1 12 = .ok (.iload_n 3, 1) := by decide +kernel
theorem d_F_finish_13 : decode me_F_finish.2.1 13 = .ok (.iconst 3, 1) := by decide +kernel
theorem d_F_finish_14 : decode me_F_finish.2.1 14 = .ok (.if_icmp .ge (41), 3) := by decide +kernel
theorem d_F_finish_17 : decode me_F_finish.2.1 17 = .ok (.aload_n 1, 1) := by decide +kernel
theorem d_F_finish_18 : decode me_F_finish.2.1 18 = .ok (.getfield 85, 3) := by decide +kernel
theorem g_F_finish_18 : bm_gf me_F_finish 18 1 9 := ⟨_, _, _, _, d_F_finish_18, rfl, by decide, uw_B, fl_F_85⟩
theorem d_F_finish_21 : decode me_F_finish.2.1 21 = .ok (.iload_n 3, 1) := by decide +kernel
theorem d_F_finish_22 : decode me_F_finish.2.1 22 = .ok (.iaload, 1) := by decide +kernel
theorem d_F_finish_23 : decode me_F_finish.2.1 23 = .ok (.iconst (-1), 1) := by decide +kernel
theorem d_F_finish_24 : decode me_F_finish.2.1 24 = .ok (.if_icmp .eq (25), 3) := by decide +kernel
theorem d_F_finish_27 : decode me_F_finish.2.1 27 = .ok (.aload_n 0, 1) := by decide +kernel
theorem d_F_finish_28 : decode me_F_finish.2.1 28 = .ok (.getfield 11, 3) := by decide +kernel
theorem g_F_finish_28 : bm_gf me_F_finish 28 2 0 := ⟨_, _, _, _, d_F_finish_28, rfl, by decide, uw_F, fl_F_11⟩
theorem d_F_finish_31 : decode me_F_finish.2.1 31 = .ok (.aload_n 1, 1) := by decide +kernel
theorem d_F_finish_32 : decode me_F_finish.2.1 32 = .ok (.getfield 85, 3) := by decide +kernel
theorem g_F_finish_32 : bm_gf me_F_finish 32 1 9 := ⟨_, _, _, _, d_F_finish_32, rfl, by decide, uw_B, fl_F_85⟩
theorem d_F_finish_35 : decode me_F_finish.2.1 35 = .ok (.iload_n 3, 1) := by decide +kernel
theorem d_F_finish_36 : decode me_F_finish.2.1 36 = .ok (.iaload, 1) := by decide +kernel
theorem d_F_finish_37 : decode me_F_finish.2.1 37 = .ok (.aaload, 1) := by decide +kernel
theorem d_F_finish_38 : decode me_F_finish.2.1 38 = .ok (.iconst (-1), 1) := by decide +kernel
theorem d_F_finish_39 : decode me_F_finish.2.1 39 = .ok (.putfield 88, 3) := by decide +kernel
theorem p_F_finish_39 : bm_pf me_F_finish 39 10 1 .int := ⟨_, _, _, _, ty_U, d_F_finish_39, rfl, by decide, uw_U, fl_F_88, tk_U, nm_U, rfl, Or.inl rfl⟩
theorem d_F_finish_42 : decode me_F_finish.2.1 42 = .ok (.aload_n 1, 1) := by decide +kernel
theorem d_F_finish_43 : decode me_F_finish.2.1 43 = .ok (.getfield 85, 3) := by decide +kernel
theorem g_F_finish_43 : bm_gf me_F_finish 43 1 9 := ⟨_, _, _, _, d_F_finish_43, rfl, by decide, uw_B, fl_F_85⟩
theorem d_F_finish_46 : decode me_F_finish.2.1 46 = .ok (.iload_n 3, 1) := by decide +kernel
theorem d_F_finish_47 : decode me_F_finish.2.1 47 = .ok (.iconst (-1), 1) := by decide +kernel
theorem d_F_finish_48 : decode me_F_finish.2.1 48 = .ok (.iastore, 1) := by decide +kernel
theorem d_F_finish_49 : decode me_F_finish.2.1 49 = .ok (.iinc 3 (1), 3) := by decide +kernel
theorem d_F_finish_52 : decode me_F_finish.2.1 52 = .ok (.goto (-40), 3) := by decide +kernel
theorem d_F_finish_55 : decode me_F_finish.2.1 55 = .ok (.return_, 1) := by decide +kernel
theorem d_F_moveTokens_0 : decode me_F_moveTokens.2.1 0 = .ok (.iconst 0, 1) := by decide +kernel
theorem d_F_moveTokens_1 : decode me_F_moveTokens.2.1 1 = .ok (.istore_n 2, 1) := by decide +kernel
theorem d_F_moveTokens_2 : decode me_F_moveTokens.2.1 2 = .ok (.iconst 0, 1) := by decide +kernel
theorem d_F_moveTokens_3 : decode me_F_moveTokens.2.1 3 = .ok (.istore_n 3, 1) := by decide +kernel
theorem d_F_moveTokens_4 : decode me_F_moveTokens.2.1 4 = .ok (.iload_n 2, 1) := by decide +kernel
theorem d_F_moveTokens_5 : decode me_F_moveTokens.2.1 5 = .ok (.aload_n 1, 1) := by decide +kernel
theorem d_F_moveTokens_6 : decode me_F_moveTokens.2.1 6 = .ok (.getfield 82, 3) := by decide +kernel
theorem g_F_moveTokens_6 : bm_gf me_F_moveTokens 6 1 5 := ⟨_, _, _, _, d_F_moveTokens_6, rfl, by decide, uw_B, fl_F_82⟩
theorem d_F_moveTokens_9 : decode me_F_moveTokens.2.1 9 = .ok (.if_icmp .ge (39), 3) := by decide +kernel
theorem d_F_moveTokens_12 : decode me_F_moveTokens.2.1 12 = .ok (.iload_n 3, 1) := by decide +kernel
theorem d_F_moveTokens_13 : decode me_F_moveTokens.2.1 13 = .ok (.ldc 137, 2) := by decide +kernel
theorem d_F_moveTokens_15 : decode me_F_moveTokens.2.1 15 = .ok (.if_icmp .ge (33), 3) := by decide +kernel
theorem d_F_moveTokens_18 : decode me_F_moveTokens.2.1 18 = .ok (.aload_n 1, 1) := by decide +kernel
theorem d_F_moveTokens_19 : decode me_F_moveTokens.2.1 19 = .ok (.getfield 91, 3) := by decide +kernel
theorem g_F_moveTokens_19 : bm_gf me_F_moveTokens 19 1 6 := ⟨_, _, _, _, d_F_moveTokens_19, rfl, by decide, uw_B, fl_F_91⟩
theorem d_F_moveTokens_22 : decode me_F_moveTokens.2.1 22 = .ok (.iload_n 2, 1) := by decide +kernel
theorem d_F_moveTokens_23 : decode me_F_moveTokens.2.1 23 = .ok (.aaload, 1) := by decide +kernel
theorem d_F_moveTokens_24 : decode me_F_moveTokens.2.1 24 = .ok (.astore 4, 2) := by decide +kernel
theorem d_F_moveTokens_26 : decode me_F_moveTokens.2.1 26 = .ok (.aload_n 0, 1) := by decide +kernel
theorem d_F_moveTokens_27 : decode me_F_moveTokens.2.1 27 = .ok (.aload_n 1, 1) := by decide +kernel
theorem d_F_moveTokens_28 : decode me_F_moveTokens.2.1 28 = .ok (.aload 4, 2) := by decide +kernel
theorem d_F_moveTokens_30 : decode me_F_moveTokens.2.1 30 = .ok (.invokevirtual 138, 3) := by decide +kernel
theorem c_F_moveTokens_30 : bm_iv me_F_moveTokens me_F_takeTurn 30 2 2 := ⟨_, d_F_moveTokens_30, Or.inl ml_F_138, ⟨kc_F_takeTurn, in_BatchHall_Floor, by decide +kernel, by decide, by decide⟩, ki_F_takeTurn, ks_F_takeTurn, _, _, rfl⟩
theorem d_F_moveTokens_33 : decode me_F_moveTokens.2.1 33 = .ok (.aload_n 1, 1) := by decide +kernel
theorem d_F_moveTokens_34 : decode me_F_moveTokens.2.1 34 = .ok (.aload 4, 2) := by decide +kernel
theorem d_F_moveTokens_36 : decode me_F_moveTokens.2.1 36 = .ok (.invokevirtual 141, 3) := by decide +kernel
theorem c_F_moveTokens_36 : bm_iv me_F_moveTokens me_B_placeOf 36 1 1 := ⟨_, d_F_moveTokens_36, Or.inl ml_F_141, ⟨kc_B_placeOf, in_BatchHall_Batch, by decide +kernel, by decide, by decide⟩, ki_B_placeOf, ks_B_placeOf, _, _, rfl⟩
theorem d_F_moveTokens_39 : decode me_F_moveTokens.2.1 39 = .ok (.iconst 1, 1) := by decide +kernel
theorem d_F_moveTokens_40 : decode me_F_moveTokens.2.1 40 = .ok (.iadd, 1) := by decide +kernel
theorem d_F_moveTokens_41 : decode me_F_moveTokens.2.1 41 = .ok (.istore_n 2, 1) := by decide +kernel
theorem d_F_moveTokens_42 : decode me_F_moveTokens.2.1 42 = .ok (.iinc 3 (1), 3) := by decide +kernel
theorem d_F_moveTokens_45 : decode me_F_moveTokens.2.1 45 = .ok (.goto (-41), 3) := by decide +kernel
theorem d_F_moveTokens_48 : decode me_F_moveTokens.2.1 48 = .ok (.return_, 1) := by decide +kernel
theorem d_F_takeTurn_0 : decode me_F_takeTurn.2.1 0 = .ok (.iconst 0, 1) := by decide +kernel
theorem d_F_takeTurn_1 : decode me_F_takeTurn.2.1 1 = .ok (.istore_n 3, 1) := by decide +kernel
theorem d_F_takeTurn_2 : decode me_F_takeTurn.2.1 2 = .ok (.iload_n 3, 1) := by decide +kernel
theorem d_F_takeTurn_3 : decode me_F_takeTurn.2.1 3 = .ok (.ldc 137, 2) := by decide +kernel
theorem d_F_takeTurn_5 : decode me_F_takeTurn.2.1 5 = .ok (.if_icmp .ge (201), 3) := by decide +kernel
theorem d_F_takeTurn_8 : decode me_F_takeTurn.2.1 8 = .ok (.aload_n 1, 1) := by decide +kernel
theorem d_F_takeTurn_9 : decode me_F_takeTurn.2.1 9 = .ok (.getfield 59, 3) := by decide +kernel
theorem g_F_takeTurn_9 : bm_gf me_F_takeTurn 9 1 2 := ⟨_, _, _, _, d_F_takeTurn_9, rfl, by decide, uw_B, fl_F_59⟩
theorem d_F_takeTurn_12 : decode me_F_takeTurn.2.1 12 = .ok (.getfield 145, 3) := by decide +kernel
theorem g_F_takeTurn_12 : bm_gf me_F_takeTurn 12 6 3 := ⟨_, _, _, _, d_F_takeTurn_12, rfl, by decide, uw_R, fl_F_145⟩
theorem d_F_takeTurn_15 : decode me_F_takeTurn.2.1 15 = .ok (.aload_n 2, 1) := by decide +kernel
theorem d_F_takeTurn_16 : decode me_F_takeTurn.2.1 16 = .ok (.getfield 149, 3) := by decide +kernel
theorem g_F_takeTurn_16 : bm_gf me_F_takeTurn 16 9 0 := ⟨_, _, _, _, d_F_takeTurn_16, rfl, by decide, uw_T, fl_F_149⟩
theorem d_F_takeTurn_19 : decode me_F_takeTurn.2.1 19 = .ok (.aaload, 1) := by decide +kernel
theorem d_F_takeTurn_20 : decode me_F_takeTurn.2.1 20 = .ok (.astore 4, 2) := by decide +kernel
theorem d_F_takeTurn_22 : decode me_F_takeTurn.2.1 22 = .ok (.aload 4, 2) := by decide +kernel
theorem d_F_takeTurn_24 : decode me_F_takeTurn.2.1 24 = .ok (.getfield 152, 3) := by decide +kernel
theorem g_F_takeTurn_24 : bm_gf me_F_takeTurn 24 8 0 := ⟨_, _, _, _, d_F_takeTurn_24, rfl, by decide, uw_S, fl_F_152⟩
theorem d_F_takeTurn_27 : decode me_F_takeTurn.2.1 27 = .ok (.tableswitch (148) (5) (9) #[(33), (54), (85), (123), (140)], 33) := by decide +kernel
theorem d_F_takeTurn_60 : decode me_F_takeTurn.2.1 60 = .ok (.aload_n 1, 1) := by decide +kernel
theorem d_F_takeTurn_61 : decode me_F_takeTurn.2.1 61 = .ok (.aload 4, 2) := by decide +kernel
theorem d_F_takeTurn_63 : decode me_F_takeTurn.2.1 63 = .ok (.getfield 157, 3) := by decide +kernel
theorem g_F_takeTurn_63 : bm_gf me_F_takeTurn 63 8 5 := ⟨_, _, _, _, d_F_takeTurn_63, rfl, by decide, uw_S, fl_F_157⟩
theorem d_F_takeTurn_66 : decode me_F_takeTurn.2.1 66 = .ok (.invokevirtual 71, 3) := by decide +kernel
theorem c_F_takeTurn_66 : bm_iv me_F_takeTurn me_B_addToken 66 1 1 := ⟨_, d_F_takeTurn_66, Or.inl ml_F_71, ⟨kc_B_addToken, in_BatchHall_Batch, by decide +kernel, by decide, by decide⟩, ki_B_addToken, ks_B_addToken, _, _, rfl⟩
theorem d_F_takeTurn_69 : decode me_F_takeTurn.2.1 69 = .ok (.aload_n 2, 1) := by decide +kernel
theorem d_F_takeTurn_70 : decode me_F_takeTurn.2.1 70 = .ok (.aload 4, 2) := by decide +kernel
theorem d_F_takeTurn_72 : decode me_F_takeTurn.2.1 72 = .ok (.getfield 160, 3) := by decide +kernel
theorem g_F_takeTurn_72 : bm_gf me_F_takeTurn 72 8 4 := ⟨_, _, _, _, d_F_takeTurn_72, rfl, by decide, uw_S, fl_F_160⟩
theorem d_F_takeTurn_75 : decode me_F_takeTurn.2.1 75 = .ok (.putfield 149, 3) := by decide +kernel
theorem p_F_takeTurn_75 : bm_pf me_F_takeTurn 75 9 0 .int := ⟨_, _, _, _, ty_T, d_F_takeTurn_75, rfl, by decide, uw_T, fl_F_149, tk_T, nm_T, rfl, Or.inl rfl⟩
theorem d_F_takeTurn_78 : decode me_F_takeTurn.2.1 78 = .ok (.goto (122), 3) := by decide +kernel
theorem d_F_takeTurn_81 : decode me_F_takeTurn.2.1 81 = .ok (.aload_n 1, 1) := by decide +kernel
theorem d_F_takeTurn_82 : decode me_F_takeTurn.2.1 82 = .ok (.aload_n 2, 1) := by decide +kernel
theorem d_F_takeTurn_83 : decode me_F_takeTurn.2.1 83 = .ok (.invokevirtual 163, 3) := by decide +kernel
theorem c_F_takeTurn_83 : bm_iv me_F_takeTurn me_B_findPartner 83 1 1 := ⟨_, d_F_takeTurn_83, Or.inl ml_F_163, ⟨kc_B_findPartner, in_BatchHall_Batch, by decide +kernel, by decide, by decide⟩, ki_B_findPartner, ks_B_findPartner, _, _, rfl⟩
theorem d_F_takeTurn_86 : decode me_F_takeTurn.2.1 86 = .ok (.astore 5, 2) := by decide +kernel
theorem d_F_takeTurn_88 : decode me_F_takeTurn.2.1 88 = .ok (.aload 5, 2) := by decide +kernel
theorem d_F_takeTurn_90 : decode me_F_takeTurn.2.1 90 = .ok (.ifnonnull (4), 3) := by decide +kernel
theorem d_F_takeTurn_93 : decode me_F_takeTurn.2.1 93 = .ok (.return_, 1) := by decide +kernel
theorem d_F_takeTurn_94 : decode me_F_takeTurn.2.1 94 = .ok (.aload_n 1, 1) := by decide +kernel
theorem d_F_takeTurn_95 : decode me_F_takeTurn.2.1 95 = .ok (.aload 5, 2) := by decide +kernel
theorem d_F_takeTurn_97 : decode me_F_takeTurn.2.1 97 = .ok (.invokevirtual 167, 3) := by decide +kernel
theorem c_F_takeTurn_97 : bm_iv me_F_takeTurn me_B_removeToken 97 1 1 := ⟨_, d_F_takeTurn_97, Or.inl ml_F_167, ⟨kc_B_removeToken, in_BatchHall_Batch, by decide +kernel, by decide, by decide⟩, ki_B_removeToken, ks_B_removeToken, _, _, rfl⟩
theorem d_F_takeTurn_100 : decode me_F_takeTurn.2.1 100 = .ok (.aload_n 2, 1) := by decide +kernel
theorem d_F_takeTurn_101 : decode me_F_takeTurn.2.1 101 = .ok (.aload 4, 2) := by decide +kernel
theorem d_F_takeTurn_103 : decode me_F_takeTurn.2.1 103 = .ok (.getfield 160, 3) := by decide +kernel
theorem g_F_takeTurn_103 : bm_gf me_F_takeTurn 103 8 4 := ⟨_, _, _, _, d_F_takeTurn_103, rfl, by decide, uw_S, fl_F_160⟩
theorem d_F_takeTurn_106 : decode me_F_takeTurn.2.1 106 = .ok (.putfield 149, 3) := by decide +kernel
theorem p_F_takeTurn_106 : bm_pf me_F_takeTurn 106 9 0 .int := ⟨_, _, _, _, ty_T, d_F_takeTurn_106, rfl, by decide, uw_T, fl_F_149, tk_T, nm_T, rfl, Or.inl rfl⟩
theorem d_F_takeTurn_109 : decode me_F_takeTurn.2.1 109 = .ok (.goto (91), 3) := by decide +kernel
theorem d_F_takeTurn_112 : decode me_F_takeTurn.2.1 112 = .ok (.aload_n 2, 1) := by decide +kernel
theorem d_F_takeTurn_113 : decode me_F_takeTurn.2.1 113 = .ok (.aload_n 1, 1) := by decide +kernel
theorem d_F_takeTurn_114 : decode me_F_takeTurn.2.1 114 = .ok (.getfield 171, 3) := by decide +kernel
theorem g_F_takeTurn_114 : bm_gf me_F_takeTurn 114 1 7 := ⟨_, _, _, _, d_F_takeTurn_114, rfl, by decide, uw_B, fl_F_171⟩
theorem d_F_takeTurn_117 : decode me_F_takeTurn.2.1 117 = .ok (.aload 4, 2) := by decide +kernel
theorem d_F_takeTurn_119 : decode me_F_takeTurn.2.1 119 = .ok (.getfield 174, 3) := by decide +kernel
theorem g_F_takeTurn_119 : bm_gf me_F_takeTurn 119 8 1 := ⟨_, _, _, _, d_F_takeTurn_119, rfl, by decide, uw_S, fl_F_174⟩
theorem d_F_takeTurn_122 : decode me_F_takeTurn.2.1 122 = .ok (.iaload, 1) := by decide +kernel
theorem d_F_takeTurn_123 : decode me_F_takeTurn.2.1 123 = .ok (.aload 4, 2) := by decide +kernel
theorem d_F_takeTurn_125 : decode me_F_takeTurn.2.1 125 = .ok (.getfield 177, 3) := by decide +kernel
theorem g_F_takeTurn_125 : bm_gf me_F_takeTurn 125 8 2 := ⟨_, _, _, _, d_F_takeTurn_125, rfl, by decide, uw_S, fl_F_177⟩
theorem d_F_takeTurn_128 : decode me_F_takeTurn.2.1 128 = .ok (.if_icmp .ge (11), 3) := by decide +kernel
theorem d_F_takeTurn_131 : decode me_F_takeTurn.2.1 131 = .ok (.aload 4, 2) := by decide +kernel
theorem d_F_takeTurn_133 : decode me_F_takeTurn.2.1 133 = .ok (.getfield 160, 3) := by decide +kernel
theorem g_F_takeTurn_133 : bm_gf me_F_takeTurn 133 8 4 := ⟨_, _, _, _, d_F_takeTurn_133, rfl, by decide, uw_S, fl_F_160⟩
theorem d_F_takeTurn_136 : decode me_F_takeTurn.2.1 136 = .ok (.goto (8), 3) := by decide +kernel
theorem d_F_takeTurn_139 : decode me_F_takeTurn.2.1 139 = .ok (.aload 4, 2) := by decide +kernel
theorem d_F_takeTurn_141 : decode me_F_takeTurn.2.1 141 = .ok (.getfield 157, 3) := by decide +kernel
theorem g_F_takeTurn_141 : bm_gf me_F_takeTurn 141 8 5 := ⟨_, _, _, _, d_F_takeTurn_141, rfl, by decide, uw_S, fl_F_157⟩
theorem d_F_takeTurn_144 : decode me_F_takeTurn.2.1 144 = .ok (.putfield 149, 3) := by decide +kernel
theorem p_F_takeTurn_144 : bm_pf me_F_takeTurn 144 9 0 .int := ⟨_, _, _, _, ty_T, d_F_takeTurn_144, rfl, by decide, uw_T, fl_F_149, tk_T, nm_T, rfl, Or.inl rfl⟩
theorem d_F_takeTurn_147 : decode me_F_takeTurn.2.1 147 = .ok (.goto (53), 3) := by decide +kernel
theorem d_F_takeTurn_150 : decode me_F_takeTurn.2.1 150 = .ok (.aload_n 2, 1) := by decide +kernel
theorem d_F_takeTurn_151 : decode me_F_takeTurn.2.1 151 = .ok (.aload_n 1, 1) := by decide +kernel
theorem d_F_takeTurn_152 : decode me_F_takeTurn.2.1 152 = .ok (.aload_n 2, 1) := by decide +kernel
theorem d_F_takeTurn_153 : decode me_F_takeTurn.2.1 153 = .ok (.getfield 149, 3) := by decide +kernel
theorem g_F_takeTurn_153 : bm_gf me_F_takeTurn 153 9 0 := ⟨_, _, _, _, d_F_takeTurn_153, rfl, by decide, uw_T, fl_F_149⟩
theorem d_F_takeTurn_156 : decode me_F_takeTurn.2.1 156 = .ok (.aload 4, 2) := by decide +kernel
theorem d_F_takeTurn_158 : decode me_F_takeTurn.2.1 158 = .ok (.invokevirtual 180, 3) := by decide +kernel
theorem c_F_takeTurn_158 : bm_iv me_F_takeTurn me_B_countRound 158 1 2 := ⟨_, d_F_takeTurn_158, Or.inl ml_F_180, ⟨kc_B_countRound, in_BatchHall_Batch, by decide +kernel, by decide, by decide⟩, ki_B_countRound, ks_B_countRound, _, _, rfl⟩
theorem d_F_takeTurn_161 : decode me_F_takeTurn.2.1 161 = .ok (.putfield 149, 3) := by decide +kernel
theorem p_F_takeTurn_161 : bm_pf me_F_takeTurn 161 9 0 .int := ⟨_, _, _, _, ty_T, d_F_takeTurn_161, rfl, by decide, uw_T, fl_F_149, tk_T, nm_T, rfl, Or.inl rfl⟩
theorem d_F_takeTurn_164 : decode me_F_takeTurn.2.1 164 = .ok (.goto (36), 3) := by decide +kernel
theorem d_F_takeTurn_167 : decode me_F_takeTurn.2.1 167 = .ok (.aload_n 0, 1) := by decide +kernel
theorem d_F_takeTurn_168 : decode me_F_takeTurn.2.1 168 = .ok (.aload_n 1, 1) := by decide +kernel
theorem d_F_takeTurn_169 : decode me_F_takeTurn.2.1 169 = .ok (.bipush (7), 2) := by decide +kernel
theorem d_F_takeTurn_171 : decode me_F_takeTurn.2.1 171 = .ok (.invokevirtual 109, 3) := by decide +kernel
theorem c_F_takeTurn_171 : bm_iv me_F_takeTurn me_F_finish 171 2 2 := ⟨_, d_F_takeTurn_171, Or.inl ml_F_109, ⟨kc_F_finish, in_BatchHall_Floor, by decide +kernel, by decide, by decide⟩, ki_F_finish, ks_F_finish, _, _, rfl⟩
theorem d_F_takeTurn_174 : decode me_F_takeTurn.2.1 174 = .ok (.return_, 1) := by decide +kernel
theorem d_F_takeTurn_175 : decode me_F_takeTurn.2.1 175 = .ok (.aload_n 2, 1) := by decide +kernel
theorem d_F_takeTurn_176 : decode me_F_takeTurn.2.1 176 = .ok (.getfield 95, 3) := by decide +kernel
theorem g_F_takeTurn_176 : bm_gf me_F_takeTurn 176 9 1 := ⟨_, _, _, _, d_F_takeTurn_176, rfl, by decide, uw_T, fl_F_95⟩
theorem d_F_takeTurn_179 : decode me_F_takeTurn.2.1 179 = .ok (.ifCond .ne (20), 3) := by decide +kernel
theorem d_F_takeTurn_182 : decode me_F_takeTurn.2.1 182 = .ok (.aload_n 1, 1) := by decide +kernel
theorem d_F_takeTurn_183 : decode me_F_takeTurn.2.1 183 = .ok (.aload 4, 2) := by decide +kernel
theorem d_F_takeTurn_185 : decode me_F_takeTurn.2.1 185 = .ok (.invokevirtual 184, 3) := by decide +kernel
theorem c_F_takeTurn_185 : bm_iv me_F_takeTurn me_B_hasRolesFree 185 1 1 := ⟨_, d_F_takeTurn_185, Or.inl ml_F_184, ⟨kc_B_hasRolesFree, in_BatchHall_Batch, by decide +kernel, by decide, by decide⟩, ki_B_hasRolesFree, ks_B_hasRolesFree, _, _, rfl⟩
theorem d_F_takeTurn_188 : decode me_F_takeTurn.2.1 188 = .ok (.ifCond .eq (11), 3) := by decide +kernel
theorem d_F_takeTurn_191 : decode me_F_takeTurn.2.1 191 = .ok (.aload_n 0, 1) := by decide +kernel
theorem d_F_takeTurn_192 : decode me_F_takeTurn.2.1 192 = .ok (.aload_n 1, 1) := by decide +kernel
theorem d_F_takeTurn_193 : decode me_F_takeTurn.2.1 193 = .ok (.aload_n 2, 1) := by decide +kernel
theorem d_F_takeTurn_194 : decode me_F_takeTurn.2.1 194 = .ok (.aload 4, 2) := by decide +kernel
theorem d_F_takeTurn_196 : decode me_F_takeTurn.2.1 196 = .ok (.invokevirtual 188, 3) := by decide +kernel
theorem c_F_takeTurn_196 : bm_iv me_F_takeTurn me_F_begin 196 2 3 := ⟨_, d_F_takeTurn_196, Or.inl ml_F_188, ⟨kc_F_begin, in_BatchHall_Floor, by decide +kernel, by decide, by decide⟩, ki_F_begin, ks_F_begin, _, _, rfl⟩
theorem d_F_takeTurn_199 : decode me_F_takeTurn.2.1 199 = .ok (.return_, 1) := by decide +kernel
theorem d_F_takeTurn_200 : decode me_F_takeTurn.2.1 200 = .ok (.iinc 3 (1), 3) := by decide +kernel
theorem d_F_takeTurn_203 : decode me_F_takeTurn.2.1 203 = .ok (.goto (-201), 3) := by decide +kernel
theorem d_F_takeTurn_206 : decode me_F_takeTurn.2.1 206 = .ok (.return_, 1) := by decide +kernel
theorem d_F_begin_0 : decode me_F_begin.2.1 0 = .ok (.aload_n 3, 1) := by decide +kernel
theorem d_F_begin_1 : decode me_F_begin.2.1 1 = .ok (.getfield 152, 3) := by decide +kernel
theorem g_F_begin_1 : bm_gf me_F_begin 1 8 0 := ⟨_, _, _, _, d_F_begin_1, rfl, by decide, uw_S, fl_F_152⟩
theorem d_F_begin_4 : decode me_F_begin.2.1 4 = .ok (.tableswitch (132) (0) (4) #[(36), (132), (97), (132), (124)], 36) := by decide +kernel
theorem d_F_begin_40 : decode me_F_begin.2.1 40 = .ok (.aload_n 0, 1) := by decide +kernel
theorem d_F_begin_41 : decode me_F_begin.2.1 41 = .ok (.getfield 20, 3) := by decide +kernel
theorem g_F_begin_41 : bm_gf me_F_begin 41 2 1 := ⟨_, _, _, _, d_F_begin_41, rfl, by decide, uw_F, fl_F_20⟩
theorem d_F_begin_44 : decode me_F_begin.2.1 44 = .ok (.invokevirtual 192, 3) := by decide +kernel
theorem c_F_begin_44 : bm_iv me_F_begin me_K_isFull 44 4 0 := ⟨_, d_F_begin_44, Or.inl ml_F_192, ⟨kc_K_isFull, in_BatchHall_LotBook, by decide +kernel, by decide, by decide⟩, ki_K_isFull, ks_K_isFull, _, _, rfl⟩
theorem d_F_begin_47 : decode me_F_begin.2.1 47 = .ok (.ifCond .eq (11), 3) := by decide +kernel
theorem d_F_begin_50 : decode me_F_begin.2.1 50 = .ok (.aload_n 0, 1) := by decide +kernel
theorem d_F_begin_51 : decode me_F_begin.2.1 51 = .ok (.aload_n 1, 1) := by decide +kernel
theorem d_F_begin_52 : decode me_F_begin.2.1 52 = .ok (.bipush (6), 2) := by decide +kernel
theorem d_F_begin_54 : decode me_F_begin.2.1 54 = .ok (.invokevirtual 109, 3) := by decide +kernel
theorem c_F_begin_54 : bm_iv me_F_begin me_F_finish 54 2 2 := ⟨_, d_F_begin_54, Or.inl ml_F_109, ⟨kc_F_finish, in_BatchHall_Floor, by decide +kernel, by decide, by decide⟩, ki_F_finish, ks_F_finish, _, _, rfl⟩
theorem d_F_begin_57 : decode me_F_begin.2.1 57 = .ok (.return_, 1) := by decide +kernel
theorem d_F_begin_58 : decode me_F_begin.2.1 58 = .ok (.aload_n 2, 1) := by decide +kernel
theorem d_F_begin_59 : decode me_F_begin.2.1 59 = .ok (.aload_n 0, 1) := by decide +kernel
theorem d_F_begin_60 : decode me_F_begin.2.1 60 = .ok (.getfield 20, 3) := by decide +kernel
theorem g_F_begin_60 : bm_gf me_F_begin 60 2 1 := ⟨_, _, _, _, d_F_begin_60, rfl, by decide, uw_F, fl_F_20⟩
theorem d_F_begin_63 : decode me_F_begin.2.1 63 = .ok (.aload_n 1, 1) := by decide +kernel
theorem d_F_begin_64 : decode me_F_begin.2.1 64 = .ok (.getfield 134, 3) := by decide +kernel
theorem g_F_begin_64 : bm_gf me_F_begin 64 1 0 := ⟨_, _, _, _, d_F_begin_64, rfl, by decide, uw_B, fl_F_134⟩
theorem d_F_begin_67 : decode me_F_begin.2.1 67 = .ok (.aload_n 2, 1) := by decide +kernel
theorem d_F_begin_68 : decode me_F_begin.2.1 68 = .ok (.getfield 149, 3) := by decide +kernel
theorem g_F_begin_68 : bm_gf me_F_begin 68 9 0 := ⟨_, _, _, _, d_F_begin_68, rfl, by decide, uw_T, fl_F_149⟩
theorem d_F_begin_71 : decode me_F_begin.2.1 71 = .ok (.invokevirtual 196, 3) := by decide +kernel
theorem c_F_begin_71 : bm_iv me_F_begin me_K_open 71 4 2 := ⟨_, d_F_begin_71, Or.inl ml_F_196, ⟨kc_K_open, in_BatchHall_LotBook, by decide +kernel, by decide, by decide⟩, ki_K_open, ks_K_open, _, _, rfl⟩
theorem d_F_begin_74 : decode me_F_begin.2.1 74 = .ok (.putfield 200, 3) := by decide +kernel
theorem p_F_begin_74 : bm_pf me_F_begin 74 9 3 .int := ⟨_, _, _, _, ty_T, d_F_begin_74, rfl, by decide, uw_T, fl_F_200, tk_T, nm_T, rfl, Or.inl rfl⟩
theorem d_F_begin_77 : decode me_F_begin.2.1 77 = .ok (.aload_n 2, 1) := by decide +kernel
theorem d_F_begin_78 : decode me_F_begin.2.1 78 = .ok (.aload_n 3, 1) := by decide +kernel
theorem d_F_begin_79 : decode me_F_begin.2.1 79 = .ok (.getfield 177, 3) := by decide +kernel
theorem g_F_begin_79 : bm_gf me_F_begin 79 8 2 := ⟨_, _, _, _, d_F_begin_79, rfl, by decide, uw_S, fl_F_177⟩
theorem d_F_begin_82 : decode me_F_begin.2.1 82 = .ok (.aload_n 3, 1) := by decide +kernel
theorem d_F_begin_83 : decode me_F_begin.2.1 83 = .ok (.getfield 203, 3) := by decide +kernel
theorem g_F_begin_83 : bm_gf me_F_begin 83 8 3 := ⟨_, _, _, _, d_F_begin_83, rfl, by decide, uw_S, fl_F_203⟩
theorem d_F_begin_86 : decode me_F_begin.2.1 86 = .ok (.aload_n 1, 1) := by decide +kernel
theorem d_F_begin_87 : decode me_F_begin.2.1 87 = .ok (.getfield 206, 3) := by decide +kernel
theorem g_F_begin_87 : bm_gf me_F_begin 87 1 3 := ⟨_, _, _, _, d_F_begin_87, rfl, by decide, uw_B, fl_F_206⟩
theorem d_F_begin_90 : decode me_F_begin.2.1 90 = .ok (.imul, 1) := by decide +kernel
theorem d_F_begin_91 : decode me_F_begin.2.1 91 = .ok (.bipush (100), 2) := by decide +kernel
theorem d_F_begin_93 : decode me_F_begin.2.1 93 = .ok (.idiv, 1) := by decide +kernel
theorem d_F_begin_94 : decode me_F_begin.2.1 94 = .ok (.iadd, 1) := by decide +kernel
theorem d_F_begin_95 : decode me_F_begin.2.1 95 = .ok (.putfield 209, 3) := by decide +kernel
theorem p_F_begin_95 : bm_pf me_F_begin 95 9 2 .int := ⟨_, _, _, _, ty_T, d_F_begin_95, rfl, by decide, uw_T, fl_F_209, tk_T, nm_T, rfl, Or.inl rfl⟩
theorem d_F_begin_98 : decode me_F_begin.2.1 98 = .ok (.goto (46), 3) := by decide +kernel
theorem d_F_begin_101 : decode me_F_begin.2.1 101 = .ok (.aload_n 2, 1) := by decide +kernel
theorem d_F_begin_102 : decode me_F_begin.2.1 102 = .ok (.aload_n 3, 1) := by decide +kernel
theorem d_F_begin_103 : decode me_F_begin.2.1 103 = .ok (.getfield 203, 3) := by decide +kernel
theorem g_F_begin_103 : bm_gf me_F_begin 103 8 3 := ⟨_, _, _, _, d_F_begin_103, rfl, by decide, uw_S, fl_F_203⟩
theorem d_F_begin_106 : decode me_F_begin.2.1 106 = .ok (.aload_n 0, 1) := by decide +kernel
theorem d_F_begin_107 : decode me_F_begin.2.1 107 = .ok (.aload_n 1, 1) := by decide +kernel
theorem d_F_begin_108 : decode me_F_begin.2.1 108 = .ok (.aload_n 3, 1) := by decide +kernel
theorem d_F_begin_109 : decode me_F_begin.2.1 109 = .ok (.getfield 174, 3) := by decide +kernel
theorem g_F_begin_109 : bm_gf me_F_begin 109 8 1 := ⟨_, _, _, _, d_F_begin_109, rfl, by decide, uw_S, fl_F_174⟩
theorem d_F_begin_112 : decode me_F_begin.2.1 112 = .ok (.invokevirtual 212, 3) := by decide +kernel
theorem c_F_begin_112 : bm_iv me_F_begin me_F_unitFor 112 2 2 := ⟨_, d_F_begin_112, Or.inl ml_F_212, ⟨kc_F_unitFor, in_BatchHall_Floor, by decide +kernel, by decide, by decide⟩, ki_F_unitFor, ks_F_unitFor, _, _, rfl⟩
theorem d_F_begin_115 : decode me_F_begin.2.1 115 = .ok (.invokevirtual 216, 3) := by decide +kernel
theorem c_F_begin_115 : bm_iv me_F_begin me_U_total 115 10 0 := ⟨_, d_F_begin_115, Or.inl ml_F_216, ⟨kc_U_total, in_BatchHall_Unit, by decide +kernel, by decide, by decide⟩, ki_U_total, ks_U_total, _, _, rfl⟩
theorem d_F_begin_118 : decode me_F_begin.2.1 118 = .ok (.imul, 1) := by decide +kernel
theorem d_F_begin_119 : decode me_F_begin.2.1 119 = .ok (.bipush (100), 2) := by decide +kernel
theorem d_F_begin_121 : decode me_F_begin.2.1 121 = .ok (.idiv, 1) := by decide +kernel
theorem d_F_begin_122 : decode me_F_begin.2.1 122 = .ok (.putfield 209, 3) := by decide +kernel
theorem p_F_begin_122 : bm_pf me_F_begin 122 9 2 .int := ⟨_, _, _, _, ty_T, d_F_begin_122, rfl, by decide, uw_T, fl_F_209, tk_T, nm_T, rfl, Or.inl rfl⟩
theorem d_F_begin_125 : decode me_F_begin.2.1 125 = .ok (.goto (19), 3) := by decide +kernel
theorem d_F_begin_128 : decode me_F_begin.2.1 128 = .ok (.aload_n 2, 1) := by decide +kernel
theorem d_F_begin_129 : decode me_F_begin.2.1 129 = .ok (.iconst 1, 1) := by decide +kernel
theorem d_F_begin_130 : decode me_F_begin.2.1 130 = .ok (.putfield 209, 3) := by decide +kernel
theorem p_F_begin_130 : bm_pf me_F_begin 130 9 2 .int := ⟨_, _, _, _, ty_T, d_F_begin_130, rfl, by decide, uw_T, fl_F_209, tk_T, nm_T, rfl, Or.inl rfl⟩
theorem d_F_begin_133 : decode me_F_begin.2.1 133 = .ok (.goto (11), 3) := by decide +kernel
theorem d_F_begin_136 : decode me_F_begin.2.1 136 = .ok (.aload_n 2, 1) := by decide +kernel
theorem d_F_begin_137 : decode me_F_begin.2.1 137 = .ok (.aload_n 3, 1) := by decide +kernel
theorem d_F_begin_138 : decode me_F_begin.2.1 138 = .ok (.getfield 177, 3) := by decide +kernel
theorem g_F_begin_138 : bm_gf me_F_begin 138 8 2 := ⟨_, _, _, _, d_F_begin_138, rfl, by decide, uw_S, fl_F_177⟩
theorem d_F_begin_141 : decode me_F_begin.2.1 141 = .ok (.putfield 209, 3) := by decide +kernel
theorem p_F_begin_141 : bm_pf me_F_begin 141 9 2 .int := ⟨_, _, _, _, ty_T, d_F_begin_141, rfl, by decide, uw_T, fl_F_209, tk_T, nm_T, rfl, Or.inl rfl⟩
theorem d_F_begin_144 : decode me_F_begin.2.1 144 = .ok (.aload_n 2, 1) := by decide +kernel
theorem d_F_begin_145 : decode me_F_begin.2.1 145 = .ok (.iconst 1, 1) := by decide +kernel
theorem d_F_begin_146 : decode me_F_begin.2.1 146 = .ok (.putfield 95, 3) := by decide +kernel
theorem p_F_begin_146 : bm_pf me_F_begin 146 9 1 .boolean := ⟨_, _, _, _, ty_T, d_F_begin_146, rfl, by decide, uw_T, fl_F_95, tk_T, nm_T, rfl, Or.inl rfl⟩
theorem d_F_begin_149 : decode me_F_begin.2.1 149 = .ok (.return_, 1) := by decide +kernel
theorem d_F_serveWaiting_0 : decode me_F_serveWaiting.2.1 0 = .ok (.aload_n 0, 1) := by decide +kernel
theorem d_F_serveWaiting_1 : decode me_F_serveWaiting.2.1 1 = .ok (.getfield 37, 3) := by decide +kernel
theorem g_F_serveWaiting_1 : bm_gf me_F_serveWaiting 1 2 5 := ⟨_, _, _, _, d_F_serveWaiting_1, rfl, by decide, uw_F, fl_F_37⟩
theorem d_F_serveWaiting_4 : decode me_F_serveWaiting.2.1 4 = .ok (.iconst 0, 1) := by decide +kernel
theorem d_F_serveWaiting_5 : decode me_F_serveWaiting.2.1 5 = .ok (.invokestatic 53, 3) := by decide +kernel
theorem c_F_serveWaiting_5 : bm_is me_F_serveWaiting me_A_fill 5 2 := ⟨_, d_F_serveWaiting_5, Or.inl ml_F_53, ⟨kc_A_fill, in_java_util_Arrays, by decide +kernel, by decide, by decide⟩, kt_A_fill⟩
theorem d_F_serveWaiting_8 : decode me_F_serveWaiting.2.1 8 = .ok (.iconst 0, 1) := by decide +kernel
theorem d_F_serveWaiting_9 : decode me_F_serveWaiting.2.1 9 = .ok (.istore_n 1, 1) := by decide +kernel
theorem d_F_serveWaiting_10 : decode me_F_serveWaiting.2.1 10 = .ok (.iload_n 1, 1) := by decide +kernel
theorem d_F_serveWaiting_11 : decode me_F_serveWaiting.2.1 11 = .ok (.aload_n 0, 1) := by decide +kernel
theorem d_F_serveWaiting_12 : decode me_F_serveWaiting.2.1 12 = .ok (.getfield 46, 3) := by decide +kernel
theorem g_F_serveWaiting_12 : bm_gf me_F_serveWaiting 12 2 4 := ⟨_, _, _, _, d_F_serveWaiting_12, rfl, by decide, uw_F, fl_F_46⟩
theorem d_F_serveWaiting_15 : decode me_F_serveWaiting.2.1 15 = .ok (.if_icmp .ge (69), 3) := by decide +kernel
theorem d_F_serveWaiting_18 : decode me_F_serveWaiting.2.1 18 = .ok (.aload_n 0, 1) := by decide +kernel
theorem d_F_serveWaiting_19 : decode me_F_serveWaiting.2.1 19 = .ok (.getfield 33, 3) := by decide +kernel
theorem g_F_serveWaiting_19 : bm_gf me_F_serveWaiting 19 2 3 := ⟨_, _, _, _, d_F_serveWaiting_19, rfl, by decide, uw_F, fl_F_33⟩
theorem d_F_serveWaiting_22 : decode me_F_serveWaiting.2.1 22 = .ok (.iload_n 1, 1) := by decide +kernel
theorem d_F_serveWaiting_23 : decode me_F_serveWaiting.2.1 23 = .ok (.aaload, 1) := by decide +kernel
theorem d_F_serveWaiting_24 : decode me_F_serveWaiting.2.1 24 = .ok (.astore_n 2, 1) := by decide +kernel
theorem d_F_serveWaiting_25 : decode me_F_serveWaiting.2.1 25 = .ok (.aload_n 2, 1) := by decide +kernel
theorem d_F_serveWaiting_26 : decode me_F_serveWaiting.2.1 26 = .ok (.getfield 50, 3) := by decide +kernel
theorem g_F_serveWaiting_26 : bm_gf me_F_serveWaiting 26 1 4 := ⟨_, _, _, _, d_F_serveWaiting_26, rfl, by decide, uw_B, fl_F_50⟩
theorem d_F_serveWaiting_29 : decode me_F_serveWaiting.2.1 29 = .ok (.iconst 1, 1) := by decide +kernel
theorem d_F_serveWaiting_30 : decode me_F_serveWaiting.2.1 30 = .ok (.if_icmp .eq (6), 3) := by decide +kernel
theorem d_F_serveWaiting_33 : decode me_F_serveWaiting.2.1 33 = .ok (.goto (45), 3) := by decide +kernel
theorem d_F_serveWaiting_36 : decode me_F_serveWaiting.2.1 36 = .ok (.aload_n 0, 1) := by decide +kernel
theorem d_F_serveWaiting_37 : decode me_F_serveWaiting.2.1 37 = .ok (.aload_n 2, 1) := by decide +kernel
theorem d_F_serveWaiting_38 : decode me_F_serveWaiting.2.1 38 = .ok (.getfield 59, 3) := by decide +kernel
theorem g_F_serveWaiting_38 : bm_gf me_F_serveWaiting 38 1 2 := ⟨_, _, _, _, d_F_serveWaiting_38, rfl, by decide, uw_B, fl_F_59⟩
theorem d_F_serveWaiting_41 : decode me_F_serveWaiting.2.1 41 = .ok (.invokevirtual 63, 3) := by decide +kernel
theorem c_F_serveWaiting_41 : bm_iv me_F_serveWaiting me_F_mayClaim 41 2 1 := ⟨_, d_F_serveWaiting_41, Or.inl ml_F_63, ⟨kc_F_mayClaim, in_BatchHall_Floor, by decide +kernel, by decide, by decide⟩, ki_F_mayClaim, ks_F_mayClaim, _, _, rfl⟩
theorem d_F_serveWaiting_44 : decode me_F_serveWaiting.2.1 44 = .ok (.ifCond .eq (26), 3) := by decide +kernel
theorem d_F_serveWaiting_47 : decode me_F_serveWaiting.2.1 47 = .ok (.aload_n 0, 1) := by decide +kernel
theorem d_F_serveWaiting_48 : decode me_F_serveWaiting.2.1 48 = .ok (.aload_n 2, 1) := by decide +kernel
theorem d_F_serveWaiting_49 : decode me_F_serveWaiting.2.1 49 = .ok (.invokevirtual 67, 3) := by decide +kernel
theorem c_F_serveWaiting_49 : bm_iv me_F_serveWaiting me_F_takeUnits 49 2 1 := ⟨_, d_F_serveWaiting_49, Or.inl ml_F_67, ⟨kc_F_takeUnits, in_BatchHall_Floor, by decide +kernel, by decide, by decide⟩, ki_F_takeUnits, ks_F_takeUnits, _, _, rfl⟩
theorem d_F_serveWaiting_52 : decode me_F_serveWaiting.2.1 52 = .ok (.aload_n 2, 1) := by decide +kernel
theorem d_F_serveWaiting_53 : decode me_F_serveWaiting.2.1 53 = .ok (.iconst 2, 1) := by decide +kernel
theorem d_F_serveWaiting_54 : decode me_F_serveWaiting.2.1 54 = .ok (.putfield 50, 3) := by decide +kernel
theorem p_F_serveWaiting_54 : bm_pf me_F_serveWaiting 54 1 4 .int := ⟨_, _, _, _, ty_B, d_F_serveWaiting_54, rfl, by decide, uw_B, fl_F_50, tk_B, nm_B, rfl, Or.inl rfl⟩
theorem d_F_serveWaiting_57 : decode me_F_serveWaiting.2.1 57 = .ok (.aload_n 2, 1) := by decide +kernel
theorem d_F_serveWaiting_58 : decode me_F_serveWaiting.2.1 58 = .ok (.iconst 0, 1) := by decide +kernel
theorem d_F_serveWaiting_59 : decode me_F_serveWaiting.2.1 59 = .ok (.invokevirtual 71, 3) := by decide +kernel
theorem c_F_serveWaiting_59 : bm_iv me_F_serveWaiting me_B_addToken 59 1 1 := ⟨_, d_F_serveWaiting_59, Or.inl ml_F_71, ⟨kc_B_addToken, in_BatchHall_Batch, by decide +kernel, by decide, by decide⟩, ki_B_addToken, ks_B_addToken, _, _, rfl⟩
theorem d_F_serveWaiting_62 : decode me_F_serveWaiting.2.1 62 = .ok (.aload_n 0, 1) := by decide +kernel
theorem d_F_serveWaiting_63 : decode me_F_serveWaiting.2.1 63 = .ok (.aload_n 2, 1) := by decide +kernel
theorem d_F_serveWaiting_64 : decode me_F_serveWaiting.2.1 64 = .ok (.invokevirtual 75, 3) := by decide +kernel
theorem c_F_serveWaiting_64 : bm_iv me_F_serveWaiting me_F_moveTokens 64 2 1 := ⟨_, d_F_serveWaiting_64, Or.inl ml_F_75, ⟨kc_F_moveTokens, in_BatchHall_Floor, by decide +kernel, by decide, by decide⟩, ki_F_moveTokens, ks_F_moveTokens, _, _, rfl⟩
theorem d_F_serveWaiting_67 : decode me_F_serveWaiting.2.1 67 = .ok (.goto (11), 3) := by decide +kernel
theorem d_F_serveWaiting_70 : decode me_F_serveWaiting.2.1 70 = .ok (.aload_n 0, 1) := by decide +kernel
theorem d_F_serveWaiting_71 : decode me_F_serveWaiting.2.1 71 = .ok (.aload_n 2, 1) := by decide +kernel
theorem d_F_serveWaiting_72 : decode me_F_serveWaiting.2.1 72 = .ok (.getfield 59, 3) := by decide +kernel
theorem g_F_serveWaiting_72 : bm_gf me_F_serveWaiting 72 1 2 := ⟨_, _, _, _, d_F_serveWaiting_72, rfl, by decide, uw_B, fl_F_59⟩
theorem d_F_serveWaiting_75 : decode me_F_serveWaiting.2.1 75 = .ok (.invokevirtual 78, 3) := by decide +kernel
theorem c_F_serveWaiting_75 : bm_iv me_F_serveWaiting me_F_block 75 2 1 := ⟨_, d_F_serveWaiting_75, Or.inl ml_F_78, ⟨kc_F_block, in_BatchHall_Floor, by decide +kernel, by decide, by decide⟩, ki_F_block, ks_F_block, _, _, rfl⟩
theorem d_F_serveWaiting_78 : decode me_F_serveWaiting.2.1 78 = .ok (.iinc 1 (1), 3) := by decide +kernel
theorem d_F_serveWaiting_81 : decode me_F_serveWaiting.2.1 81 = .ok (.goto (-71), 3) := by decide +kernel
theorem d_F_serveWaiting_84 : decode me_F_serveWaiting.2.1 84 = .ok (.return_, 1) := by decide +kernel
theorem d_F_mayClaim_0 : decode me_F_mayClaim.2.1 0 = .ok (.iconst 0, 1) := by decide +kernel
theorem d_F_mayClaim_1 : decode me_F_mayClaim.2.1 1 = .ok (.istore_n 2, 1) := by decide +kernel
theorem d_F_mayClaim_2 : decode me_F_mayClaim.2.1 2 = .ok (.iload_n 2, 1) := by decide +kernel
theorem d_F_mayClaim_3 : decode me_F_mayClaim.2.1 3 = .ok (.iconst 3, 1) := by decide +kernel
theorem d_F_mayClaim_4 : decode me_F_mayClaim.2.1 4 = .ok (.if_icmp .ge (40), 3) := by decide +kernel
theorem d_F_mayClaim_7 : decode me_F_mayClaim.2.1 7 = .ok (.aload_n 1, 1) := by decide +kernel
theorem d_F_mayClaim_8 : decode me_F_mayClaim.2.1 8 = .ok (.iload_n 2, 1) := by decide +kernel
theorem d_F_mayClaim_9 : decode me_F_mayClaim.2.1 9 = .ok (.invokevirtual 113, 3) := by decide +kernel
theorem c_F_mayClaim_9 : bm_iv me_F_mayClaim me_R_countRoles 9 6 1 := ⟨_, d_F_mayClaim_9, Or.inl ml_F_113, ⟨kc_R_countRoles, in_BatchHall_Recipe, by decide +kernel, by decide, by decide⟩, ki_R_countRoles, ks_R_countRoles, _, _, rfl⟩
theorem d_F_mayClaim_12 : decode me_F_mayClaim.2.1 12 = .ok (.istore_n 3, 1) := by decide +kernel
theorem d_F_mayClaim_13 : decode me_F_mayClaim.2.1 13 = .ok (.iload_n 3, 1) := by decide +kernel
theorem d_F_mayClaim_14 : decode me_F_mayClaim.2.1 14 = .ok (.ifCond .le (24), 3) := by decide +kernel
theorem d_F_mayClaim_17 : decode me_F_mayClaim.2.1 17 = .ok (.aload_n 0, 1) := by decide +kernel
theorem d_F_mayClaim_18 : decode me_F_mayClaim.2.1 18 = .ok (.getfield 37, 3) := by decide +kernel
theorem g_F_mayClaim_18 : bm_gf me_F_mayClaim 18 2 5 := ⟨_, _, _, _, d_F_mayClaim_18, rfl, by decide, uw_F, fl_F_37⟩
theorem d_F_mayClaim_21 : decode me_F_mayClaim.2.1 21 = .ok (.iload_n 2, 1) := by decide +kernel
theorem d_F_mayClaim_22 : decode me_F_mayClaim.2.1 22 = .ok (.iaload, 1) := by decide +kernel
theorem d_F_mayClaim_23 : decode me_F_mayClaim.2.1 23 = .ok (.iconst 1, 1) := by decide +kernel
theorem d_F_mayClaim_24 : decode me_F_mayClaim.2.1 24 = .ok (.if_icmp .eq (12), 3) := by decide +kernel
theorem d_F_mayClaim_27 : decode me_F_mayClaim.2.1 27 = .ok (.aload_n 0, 1) := by decide +kernel
theorem d_F_mayClaim_28 : decode me_F_mayClaim.2.1 28 = .ok (.iload_n 2, 1) := by decide +kernel
theorem d_F_mayClaim_29 : decode me_F_mayClaim.2.1 29 = .ok (.invokevirtual 118, 3) := by decide +kernel
theorem c_F_mayClaim_29 : bm_iv me_F_mayClaim me_F_countFree 29 2 1 := ⟨_, d_F_mayClaim_29, Or.inl ml_F_118, ⟨kc_F_countFree, in_BatchHall_Floor, by decide +kernel, by decide, by decide⟩, ki_F_countFree, ks_F_countFree, _, _, rfl⟩
theorem d_F_mayClaim_32 : decode me_F_mayClaim.2.1 32 = .ok (.iload_n 3, 1) := by decide +kernel
theorem d_F_mayClaim_33 : decode me_F_mayClaim.2.1 33 = .ok (.if_icmp .ge (5), 3) := by decide +kernel
theorem d_F_mayClaim_36 : decode me_F_mayClaim.2.1 36 = .ok (.iconst 0, 1) := by decide +kernel
theorem d_F_mayClaim_37 : decode me_F_mayClaim.2.1 37 = .ok (.ireturn, 1) := by decide +kernel
theorem d_F_mayClaim_38 : decode me_F_mayClaim.2.1 38 = .ok (.iinc 2 (1), 3) := by decide +kernel
theorem d_F_mayClaim_41 : decode me_F_mayClaim.2.1 41 = .ok (.goto (-39), 3) := by decide +kernel
theorem d_F_mayClaim_44 : decode me_F_mayClaim.2.1 44 = .ok (.iconst 1, 1) := by decide +kernel
theorem d_F_mayClaim_45 : decode me_F_mayClaim.2.1 45 = .ok (.ireturn, 1) := by decide +kernel
theorem d_F_countFree_0 : decode me_F_countFree.2.1 0 = .ok (.iconst 0, 1) := by decide +kernel
theorem d_F_countFree_1 : decode me_F_countFree.2.1 1 = .ok (.istore_n 2, 1) := by decide +kernel
theorem d_F_countFree_2 : decode me_F_countFree.2.1 2 = .ok (.iconst 0, 1) := by decide +kernel
theorem d_F_countFree_3 : decode me_F_countFree.2.1 3 = .ok (.istore_n 3, 1) := by decide +kernel
theorem d_F_countFree_4 : decode me_F_countFree.2.1 4 = .ok (.iload_n 3, 1) := by decide +kernel
theorem d_F_countFree_5 : decode me_F_countFree.2.1 5 = .ok (.bipush (6), 2) := by decide +kernel
theorem d_F_countFree_7 : decode me_F_countFree.2.1 7 = .ok (.if_icmp .ge (38), 3) := by decide +kernel
theorem d_F_countFree_10 : decode me_F_countFree.2.1 10 = .ok (.aload_n 0, 1) := by decide +kernel
theorem d_F_countFree_11 : decode me_F_countFree.2.1 11 = .ok (.getfield 11, 3) := by decide +kernel
theorem g_F_countFree_11 : bm_gf me_F_countFree 11 2 0 := ⟨_, _, _, _, d_F_countFree_11, rfl, by decide, uw_F, fl_F_11⟩
theorem d_F_countFree_14 : decode me_F_countFree.2.1 14 = .ok (.iload_n 3, 1) := by decide +kernel
theorem d_F_countFree_15 : decode me_F_countFree.2.1 15 = .ok (.aaload, 1) := by decide +kernel
theorem d_F_countFree_16 : decode me_F_countFree.2.1 16 = .ok (.getfield 121, 3) := by decide +kernel
theorem g_F_countFree_16 : bm_gf me_F_countFree 16 10 0 := ⟨_, _, _, _, d_F_countFree_16, rfl, by decide, uw_U, fl_F_121⟩
theorem d_F_countFree_19 : decode me_F_countFree.2.1 19 = .ok (.iload_n 1, 1) := by decide +kernel
theorem d_F_countFree_20 : decode me_F_countFree.2.1 20 = .ok (.if_icmp .ne (19), 3) := by decide +kernel
theorem d_F_countFree_23 : decode me_F_countFree.2.1 23 = .ok (.aload_n 0, 1) := by decide +kernel
theorem d_F_countFree_24 : decode me_F_countFree.2.1 24 = .ok (.getfield 11, 3) := by decide +kernel
theorem g_F_countFree_24 : bm_gf me_F_countFree 24 2 0 := ⟨_, _, _, _, d_F_countFree_24, rfl, by decide, uw_F, fl_F_11⟩
theorem d_F_countFree_27 : decode me_F_countFree.2.1 27 = .ok (.iload_n 3, 1) := by decide +kernel
theorem d_F_countFree_28 : decode me_F_countFree.2.1 28 = .ok (.aaload, 1) := by decide +kernel
theorem d_F_countFree_29 : decode me_F_countFree.2.1 29 = .ok (.getfield 88, 3) := by decide +kernel
theorem g_F_countFree_29 : bm_gf me_F_countFree 29 10 1 := ⟨_, _, _, _, d_F_countFree_29, rfl, by decide, uw_U, fl_F_88⟩
theorem d_F_countFree_32 : decode me_F_countFree.2.1 32 = .ok (.iconst (-1), 1) := by decide +kernel
theorem d_F_countFree_33 : decode me_F_countFree.2.1 33 = .ok (.if_icmp .ne (6), 3) := by decide +kernel
theorem d_F_countFree_36 : decode me_F_countFree.2.1 36 = .ok (.iinc 2 (1), 3) := by decide +kernel
theorem d_F_countFree_39 : decode me_F_countFree.2.1 39 = .ok (.iinc 3 (1), 3) := by decide +kernel
theorem d_F_countFree_42 : decode me_F_countFree.2.1 42 = .ok (.goto (-38), 3) := by decide +kernel
theorem d_F_countFree_45 : decode me_F_countFree.2.1 45 = .ok (.iload_n 2, 1) := by decide +kernel
theorem d_F_countFree_46 : decode me_F_countFree.2.1 46 = .ok (.ireturn, 1) := by decide +kernel
