theorem d_V_init_0 : decode me_V_init.2.1 0 = .ok (.aload_n 0, 1) := by decide +kernel
theorem d_V_init_1 : decode me_V_init.2.1 1 = .ok (.invokespecial 3, 3) := by decide +kernel
theorem c_V_init_1 : bm_io me_V_init 1 := ⟨_, d_V_init_1, ml_V_3, ki_obj, kc_obj, by decide, by decide⟩
theorem d_V_init_4 : decode me_V_init.2.1 4 = .ok (.aload_n 0, 1) := by decide +kernel
theorem d_V_init_5 : decode me_V_init.2.1 5 = .ok (.bipush (100), 2) := by decide +kernel
theorem d_V_init_7 : decode me_V_init.2.1 7 = .ok (.newarray .int, 2) := by decide +kernel
theorem n_V_init_7 : bm_na me_V_init 7 0 .int := ⟨_, d_V_init_7, rfl, ac_int, rfl, by decide⟩
theorem d_V_init_9 : decode me_V_init.2.1 9 = .ok (.putfield 9, 3) := by decide +kernel
theorem p_V_init_9 : bm_pf me_V_init 9 5 0 (.array .int) := ⟨_, _, _, _, ty_V, d_V_init_9, rfl, by decide, uw_V, fl_V_9, tk_V, nm_V, rfl, Or.inr ⟨rfl, rfl, rfl⟩⟩
theorem d_V_init_12 : decode me_V_init.2.1 12 = .ok (.aload_n 0, 1) := by decide +kernel
theorem d_V_init_13 : decode me_V_init.2.1 13 = .ok (.bipush (100), 2) := by decide +kernel
theorem d_V_init_15 : decode me_V_init.2.1 15 = .ok (.newarray .int, 2) := by decide +kernel
theorem n_V_init_15 : bm_na me_V_init 15 0 .int := ⟨_, d_V_init_15, rfl, ac_int, rfl, by decide⟩
theorem d_V_init_17 : decode me_V_init.2.1 17 = .ok (.putfield 15, 3) := by decide +kernel
theorem p_V_init_17 : bm_pf me_V_init 17 5 1 (.array .int) := ⟨_, _, _, _, ty_V, d_V_init_17, rfl, by decide, uw_V, fl_V_15, tk_V, nm_V, rfl, Or.inr ⟨rfl, rfl, rfl⟩⟩
theorem d_V_init_20 : decode me_V_init.2.1 20 = .ok (.return_, 1) := by decide +kernel
theorem d_V_transfer_0 : decode me_V_transfer.2.1 0 = .ok (.aload_n 1, 1) := by decide +kernel
theorem d_V_transfer_1 : decode me_V_transfer.2.1 1 = .ok (.invokevirtual 18, 3) := by decide +kernel
theorem c_V_transfer_1 : bm_iv me_V_transfer me_U_total 1 10 0 := ⟨_, d_V_transfer_1, Or.inl ml_V_18, ⟨kc_U_total, in_BatchHall_Unit, by decide +kernel, by decide, by decide⟩, ki_U_total, ks_U_total, _, _, rfl⟩
theorem d_V_transfer_4 : decode me_V_transfer.2.1 4 = .ok (.istore 4, 2) := by decide +kernel
theorem d_V_transfer_6 : decode me_V_transfer.2.1 6 = .ok (.iload_n 3, 1) := by decide +kernel
theorem d_V_transfer_7 : decode me_V_transfer.2.1 7 = .ok (.ifCond .le (9), 3) := by decide +kernel
theorem d_V_transfer_10 : decode me_V_transfer.2.1 10 = .ok (.iload_n 3, 1) := by decide +kernel
theorem d_V_transfer_11 : decode me_V_transfer.2.1 11 = .ok (.iload 4, 2) := by decide +kernel
theorem d_V_transfer_13 : decode me_V_transfer.2.1 13 = .ok (.if_icmp .le (4), 3) := by decide +kernel
theorem d_V_transfer_16 : decode me_V_transfer.2.1 16 = .ok (.return_, 1) := by decide +kernel
theorem d_V_transfer_17 : decode me_V_transfer.2.1 17 = .ok (.iload_n 3, 1) := by decide +kernel
theorem d_V_transfer_18 : decode me_V_transfer.2.1 18 = .ok (.aload_n 0, 1) := by decide +kernel
theorem d_V_transfer_19 : decode me_V_transfer.2.1 19 = .ok (.aload_n 1, 1) := by decide +kernel
theorem d_V_transfer_20 : decode me_V_transfer.2.1 20 = .ok (.iload_n 3, 1) := by decide +kernel
theorem d_V_transfer_21 : decode me_V_transfer.2.1 21 = .ok (.iload 4, 2) := by decide +kernel
theorem d_V_transfer_23 : decode me_V_transfer.2.1 23 = .ok (.invokevirtual 24, 3) := by decide +kernel
theorem c_V_transfer_23 : bm_iv me_V_transfer me_V_splitByAmounts 23 5 3 := ⟨_, d_V_transfer_23, Or.inl ml_V_24, ⟨kc_V_splitByAmounts, in_BatchHall_Mover, by decide +kernel, by decide, by decide⟩, ki_V_splitByAmounts, ks_V_splitByAmounts, _, _, rfl⟩
theorem d_V_transfer_26 : decode me_V_transfer.2.1 26 = .ok (.isub, 1) := by decide +kernel
theorem d_V_transfer_27 : decode me_V_transfer.2.1 27 = .ok (.istore 5, 2) := by decide +kernel
theorem d_V_transfer_29 : decode me_V_transfer.2.1 29 = .ok (.iconst 0, 1) := by decide +kernel
theorem d_V_transfer_30 : decode me_V_transfer.2.1 30 = .ok (.istore 6, 2) := by decide +kernel
theorem d_V_transfer_32 : decode me_V_transfer.2.1 32 = .ok (.iload 6, 2) := by decide +kernel
theorem d_V_transfer_34 : decode me_V_transfer.2.1 34 = .ok (.iload 5, 2) := by decide +kernel
theorem d_V_transfer_36 : decode me_V_transfer.2.1 36 = .ok (.if_icmp .ge (17), 3) := by decide +kernel
theorem d_V_transfer_39 : decode me_V_transfer.2.1 39 = .ok (.aload_n 0, 1) := by decide +kernel
theorem d_V_transfer_40 : decode me_V_transfer.2.1 40 = .ok (.aload_n 1, 1) := by decide +kernel
theorem d_V_transfer_41 : decode me_V_transfer.2.1 41 = .ok (.getfield 28, 3) := by decide +kernel
theorem g_V_transfer_41 : bm_gf me_V_transfer 41 10 2 := ⟨_, _, _, _, d_V_transfer_41, rfl, by decide, uw_U, fl_V_28⟩
theorem d_V_transfer_44 : decode me_V_transfer.2.1 44 = .ok (.invokevirtual 32, 3) := by decide +kernel
theorem c_V_transfer_44 : bm_iv me_V_transfer me_V_giveOneMore 44 5 1 := ⟨_, d_V_transfer_44, Or.inl ml_V_32, ⟨kc_V_giveOneMore, in_BatchHall_Mover, by decide +kernel, by decide, by decide⟩, ki_V_giveOneMore, ks_V_giveOneMore, _, _, rfl⟩
theorem d_V_transfer_47 : decode me_V_transfer.2.1 47 = .ok (.iinc 6 (1), 3) := by decide +kernel
theorem d_V_transfer_50 : decode me_V_transfer.2.1 50 = .ok (.goto (-18), 3) := by decide +kernel
theorem d_V_transfer_53 : decode me_V_transfer.2.1 53 = .ok (.iconst 0, 1) := by decide +kernel
theorem d_V_transfer_54 : decode me_V_transfer.2.1 54 = .ok (.istore 6, 2) := by decide +kernel
theorem d_V_transfer_56 : decode me_V_transfer.2.1 56 = .ok (.iload 6, 2) := by decide +kernel
theorem d_V_transfer_58 : decode me_V_transfer.2.1 58 = .ok (.aload_n 1, 1) := by decide +kernel
theorem d_V_transfer_59 : decode me_V_transfer.2.1 59 = .ok (.getfield 28, 3) := by decide +kernel
theorem g_V_transfer_59 : bm_gf me_V_transfer 59 10 2 := ⟨_, _, _, _, d_V_transfer_59, rfl, by decide, uw_U, fl_V_28⟩
theorem d_V_transfer_62 : decode me_V_transfer.2.1 62 = .ok (.if_icmp .ge (44), 3) := by decide +kernel
theorem d_V_transfer_65 : decode me_V_transfer.2.1 65 = .ok (.aload_n 1, 1) := by decide +kernel
theorem d_V_transfer_66 : decode me_V_transfer.2.1 66 = .ok (.getfield 36, 3) := by decide +kernel
theorem g_V_transfer_66 : bm_gf me_V_transfer 66 10 4 := ⟨_, _, _, _, d_V_transfer_66, rfl, by decide, uw_U, fl_V_36⟩
theorem d_V_transfer_69 : decode me_V_transfer.2.1 69 = .ok (.iload 6, 2) := by decide +kernel
theorem d_V_transfer_71 : decode me_V_transfer.2.1 71 = .ok (.dup2, 1) := by decide +kernel
theorem d_V_transfer_72 : decode me_V_transfer.2.1 72 = .ok (.iaload, 1) := by decide +kernel
theorem d_V_transfer_73 : decode me_V_transfer.2.1 73 = .ok (.aload_n 0, 1) := by decide +kernel
theorem d_V_transfer_74 : decode me_V_transfer.2.1 74 = .ok (.getfield 9, 3) := by decide +kernel
theorem g_V_transfer_74 : bm_gf me_V_transfer 74 5 0 := ⟨_, _, _, _, d_V_transfer_74, rfl, by decide, uw_V, fl_V_9⟩
theorem d_V_transfer_77 : decode me_V_transfer.2.1 77 = .ok (.iload 6, 2) := by decide +kernel
theorem d_V_transfer_79 : decode me_V_transfer.2.1 79 = .ok (.iaload, 1) := by decide +kernel
theorem d_V_transfer_80 : decode me_V_transfer.2.1 80 = .ok (.isub, 1) := by decide +kernel
theorem d_V_transfer_81 : decode me_V_transfer.2.1 81 = .ok (.iastore, 1) := by decide +kernel
theorem d_V_transfer_82 : decode me_V_transfer.2.1 82 = .ok (.aload_n 2, 1) := by decide +kernel
theorem d_V_transfer_83 : decode me_V_transfer.2.1 83 = .ok (.aload_n 1, 1) := by decide +kernel
theorem d_V_transfer_84 : decode me_V_transfer.2.1 84 = .ok (.getfield 39, 3) := by decide +kernel
theorem g_V_transfer_84 : bm_gf me_V_transfer 84 10 3 := ⟨_, _, _, _, d_V_transfer_84, rfl, by decide, uw_U, fl_V_39⟩
theorem d_V_transfer_87 : decode me_V_transfer.2.1 87 = .ok (.iload 6, 2) := by decide +kernel
theorem d_V_transfer_89 : decode me_V_transfer.2.1 89 = .ok (.iaload, 1) := by decide +kernel
theorem d_V_transfer_90 : decode me_V_transfer.2.1 90 = .ok (.aload_n 0, 1) := by decide +kernel
theorem d_V_transfer_91 : decode me_V_transfer.2.1 91 = .ok (.getfield 9, 3) := by decide +kernel
theorem g_V_transfer_91 : bm_gf me_V_transfer 91 5 0 := ⟨_, _, _, _, d_V_transfer_91, rfl, by decide, uw_V, fl_V_9⟩
theorem d_V_transfer_94 : decode me_V_transfer.2.1 94 = .ok (.iload 6, 2) := by decide +kernel
theorem d_V_transfer_96 : decode me_V_transfer.2.1 96 = .ok (.iaload, 1) := by decide +kernel
theorem d_V_transfer_97 : decode me_V_transfer.2.1 97 = .ok (.invokevirtual 42, 3) := by decide +kernel
theorem c_V_transfer_97 : bm_iv me_V_transfer me_U_add 97 10 2 := ⟨_, d_V_transfer_97, Or.inl ml_V_42, ⟨kc_U_add, in_BatchHall_Unit, by decide +kernel, by decide, by decide⟩, ki_U_add, ks_U_add, _, _, rfl⟩
theorem d_V_transfer_100 : decode me_V_transfer.2.1 100 = .ok (.iinc 6 (1), 3) := by decide +kernel
theorem d_V_transfer_103 : decode me_V_transfer.2.1 103 = .ok (.goto (-47), 3) := by decide +kernel
theorem d_V_transfer_106 : decode me_V_transfer.2.1 106 = .ok (.aload_n 1, 1) := by decide +kernel
theorem d_V_transfer_107 : decode me_V_transfer.2.1 107 = .ok (.invokevirtual 46, 3) := by decide +kernel
theorem c_V_transfer_107 : bm_iv me_V_transfer me_U_dropEmptied 107 10 0 := ⟨_, d_V_transfer_107, Or.inl ml_V_46, ⟨kc_U_dropEmptied, in_BatchHall_Unit, by decide +kernel, by decide, by decide⟩, ki_U_dropEmptied, ks_U_dropEmptied, _, _, rfl⟩
theorem d_V_transfer_110 : decode me_V_transfer.2.1 110 = .ok (.return_, 1) := by decide +kernel
theorem d_V_splitByAmounts_0 : decode me_V_splitByAmounts.2.1 0 = .ok (.iconst 0, 1) := by decide +kernel
theorem d_V_splitByAmounts_1 : decode me_V_splitByAmounts.2.1 1 = .ok (.istore 4, 2) := by decide +kernel
theorem d_V_splitByAmounts_3 : decode me_V_splitByAmounts.2.1 3 = .ok (.iconst 0, 1) := by decide +kernel
theorem d_V_splitByAmounts_4 : decode me_V_splitByAmounts.2.1 4 = .ok (.istore 5, 2) := by decide +kernel
theorem d_V_splitByAmounts_6 : decode me_V_splitByAmounts.2.1 6 = .ok (.iload 5, 2) := by decide +kernel
theorem d_V_splitByAmounts_8 : decode me_V_splitByAmounts.2.1 8 = .ok (.aload_n 1, 1) := by decide +kernel
theorem d_V_splitByAmounts_9 : decode me_V_splitByAmounts.2.1 9 = .ok (.getfield 28, 3) := by decide +kernel
theorem g_V_splitByAmounts_9 : bm_gf me_V_splitByAmounts 9 10 2 := ⟨_, _, _, _, d_V_splitByAmounts_9, rfl, by decide, uw_U, fl_V_28⟩
theorem d_V_splitByAmounts_12 : decode me_V_splitByAmounts.2.1 12 = .ok (.if_icmp .ge (58), 3) := by decide +kernel
theorem d_V_splitByAmounts_15 : decode me_V_splitByAmounts.2.1 15 = .ok (.iload_n 3, 1) := by decide +kernel
theorem d_V_splitByAmounts_16 : decode me_V_splitByAmounts.2.1 16 = .ok (.ifCond .le (54), 3) := by decide +kernel
theorem d_V_splitByAmounts_19 : decode me_V_splitByAmounts.2.1 19 = .ok (.iload_n 2, 1) := by decide +kernel
theorem d_V_splitByAmounts_20 : decode me_V_splitByAmounts.2.1 20 = .ok (.aload_n 1, 1) := by decide +kernel
theorem d_V_splitByAmounts_21 : decode me_V_splitByAmounts.2.1 21 = .ok (.getfield 36, 3) := by decide +kernel
theorem g_V_splitByAmounts_21 : bm_gf me_V_splitByAmounts 21 10 4 := ⟨_, _, _, _, d_V_splitByAmounts_21, rfl, by decide, uw_U, fl_V_36⟩
theorem d_V_splitByAmounts_24 : decode me_V_splitByAmounts.2.1 24 = .ok (.iload 5, 2) := by decide +kernel
theorem d_V_splitByAmounts_26 : decode me_V_splitByAmounts.2.1 26 = .ok (.iaload, 1) := by decide +kernel
theorem d_V_splitByAmounts_27 : decode me_V_splitByAmounts.2.1 27 = .ok (.imul, 1) := by decide +kernel
theorem d_V_splitByAmounts_28 : decode me_V_splitByAmounts.2.1 28 = .ok (.istore 6, 2) := by decide +kernel
theorem d_V_splitByAmounts_30 : decode me_V_splitByAmounts.2.1 30 = .ok (.aload_n 0, 1) := by decide +kernel
theorem d_V_splitByAmounts_31 : decode me_V_splitByAmounts.2.1 31 = .ok (.getfield 9, 3) := by decide +kernel
theorem g_V_splitByAmounts_31 : bm_gf me_V_splitByAmounts 31 5 0 := ⟨_, _, _, _, d_V_splitByAmounts_31, rfl, by decide, uw_V, fl_V_9⟩
theorem d_V_splitByAmounts_34 : decode me_V_splitByAmounts.2.1 34 = .ok (.iload 5, 2) := by decide +kernel
theorem d_V_splitByAmounts_36 : decode me_V_splitByAmounts.2.1 36 = .ok (.iload 6, 2) := by decide +kernel
theorem d_V_splitByAmounts_38 : decode me_V_splitByAmounts.2.1 38 = .ok (.iload_n 3, 1) := by decide +kernel
theorem d_V_splitByAmounts_39 : decode me_V_splitByAmounts.2.1 39 = .ok (.idiv, 1) := by decide +kernel
theorem d_V_splitByAmounts_40 : decode me_V_splitByAmounts.2.1 40 = .ok (.iastore, 1) := by decide +kernel
theorem d_V_splitByAmounts_41 : decode me_V_splitByAmounts.2.1 41 = .ok (.aload_n 0, 1) := by decide +kernel
theorem d_V_splitByAmounts_42 : decode me_V_splitByAmounts.2.1 42 = .ok (.getfield 15, 3) := by decide +kernel
theorem g_V_splitByAmounts_42 : bm_gf me_V_splitByAmounts 42 5 1 := ⟨_, _, _, _, d_V_splitByAmounts_42, rfl, by decide, uw_V, fl_V_15⟩
theorem d_V_splitByAmounts_45 : decode me_V_splitByAmounts.2.1 45 = .ok (.iload 5, 2) := by decide +kernel
theorem d_V_splitByAmounts_47 : decode me_V_splitByAmounts.2.1 47 = .ok (.iload 6, 2) := by decide +kernel
theorem d_V_splitByAmounts_49 : decode me_V_splitByAmounts.2.1 49 = .ok (.iload_n 3, 1) := by decide +kernel
theorem d_V_splitByAmounts_50 : decode me_V_splitByAmounts.2.1 50 = .ok (.irem, 1) := by decide +kernel
theorem d_V_splitByAmounts_51 : decode me_V_splitByAmounts.2.1 51 = .ok (.iastore, 1) := by decide +kernel
theorem d_V_splitByAmounts_52 : decode me_V_splitByAmounts.2.1 52 = .ok (.iload 4, 2) := by decide +kernel
theorem d_V_splitByAmounts_54 : decode me_V_splitByAmounts.2.1 54 = .ok (.aload_n 0, 1) := by decide +kernel
theorem d_V_splitByAmounts_55 : decode me_V_splitByAmounts.2.1 55 = .ok (.getfield 9, 3) := by decide +kernel
theorem g_V_splitByAmounts_55 : bm_gf me_V_splitByAmounts 55 5 0 := ⟨_, _, _, _, d_V_splitByAmounts_55, rfl, by decide, uw_V, fl_V_9⟩
theorem d_V_splitByAmounts_58 : decode me_V_splitByAmounts.2.1 58 = .ok (.iload 5, 2) := by decide +kernel
theorem d_V_splitByAmounts_60 : decode me_V_splitByAmounts.2.1 60 = .ok (.iaload, 1) := by decide +kernel
theorem d_V_splitByAmounts_61 : decode me_V_splitByAmounts.2.1 61 = .ok (.iadd, 1) := by decide +kernel
theorem d_V_splitByAmounts_62 : decode me_V_splitByAmounts.2.1 62 = .ok (.istore 4, 2) := by decide +kernel
theorem d_V_splitByAmounts_64 : decode me_V_splitByAmounts.2.1 64 = .ok (.iinc 5 (1), 3) := by decide +kernel
theorem d_V_splitByAmounts_67 : decode me_V_splitByAmounts.2.1 67 = .ok (.goto (-61), 3) := by decide +kernel
theorem d_V_splitByAmounts_70 : decode me_V_splitByAmounts.2.1 70 = .ok (.iload 4, 2) := by decide +kernel
theorem d_V_splitByAmounts_72 : decode me_V_splitByAmounts.2.1 72 = .ok (.ireturn, 1) := by decide +kernel
theorem d_V_giveOneMore_0 : decode me_V_giveOneMore.2.1 0 = .ok (.iconst 0, 1) := by decide +kernel
theorem d_V_giveOneMore_1 : decode me_V_giveOneMore.2.1 1 = .ok (.istore_n 2, 1) := by decide +kernel
theorem d_V_giveOneMore_2 : decode me_V_giveOneMore.2.1 2 = .ok (.iconst 1, 1) := by decide +kernel
theorem d_V_giveOneMore_3 : decode me_V_giveOneMore.2.1 3 = .ok (.istore_n 3, 1) := by decide +kernel
theorem d_V_giveOneMore_4 : decode me_V_giveOneMore.2.1 4 = .ok (.iload_n 3, 1) := by decide +kernel
theorem d_V_giveOneMore_5 : decode me_V_giveOneMore.2.1 5 = .ok (.iload_n 1, 1) := by decide +kernel
theorem d_V_giveOneMore_6 : decode me_V_giveOneMore.2.1 6 = .ok (.if_icmp .ge (26), 3) := by decide +kernel
theorem d_V_giveOneMore_9 : decode me_V_giveOneMore.2.1 9 = .ok (.aload_n 0, 1) := by decide +kernel
theorem d_V_giveOneMore_10 : decode me_V_giveOneMore.2.1 10 = .ok (.getfield 15, 3) := by decide +kernel
theorem g_V_giveOneMore_10 : bm_gf me_V_giveOneMore 10 5 1 := ⟨_, _, _, _, d_V_giveOneMore_10, rfl, by decide, uw_V, fl_V_15⟩
theorem d_V_giveOneMore_13 : decode me_V_giveOneMore.2.1 13 = .ok (.iload_n 3, 1) := by decide +kernel
theorem d_V_giveOneMore_14 : decode me_V_giveOneMore.2.1 14 = .ok (.iaload, 1) := by decide +kernel
theorem d_V_giveOneMore_15 : decode me_V_giveOneMore.2.1 15 = .ok (.aload_n 0, 1) := by decide +kernel
theorem d_V_giveOneMore_16 : decode me_V_giveOneMore.2.1 16 = .ok (.getfield 15, 3) := by decide +kernel
theorem g_V_giveOneMore_16 : bm_gf me_V_giveOneMore 16 5 1 := ⟨_, _, _, _, d_V_giveOneMore_16, rfl, by decide, uw_V, fl_V_15⟩
theorem d_V_giveOneMore_19 : decode me_V_giveOneMore.2.1 19 = .ok (.iload_n 2, 1) := by decide +kernel
theorem d_V_giveOneMore_20 : decode me_V_giveOneMore.2.1 20 = .ok (.iaload, 1) := by decide +kernel
theorem d_V_giveOneMore_21 : decode me_V_giveOneMore.2.1 21 = .ok (.if_icmp .le (5), 3) := by decide +kernel
theorem d_V_giveOneMore_24 : decode me_V_giveOneMore.2.1 24 = .ok (.iload_n 3, 1) := by decide +kernel
theorem d_V_giveOneMore_25 : decode me_V_giveOneMore.2.1 25 = .ok (.istore_n 2, 1) := by decide +kernel
theorem d_V_giveOneMore_26 : decode me_V_giveOneMore.2.1 26 = .ok (.iinc 3 (1), 3) := by decide +kernel
theorem d_V_giveOneMore_29 : decode me_V_giveOneMore.2.1 29 = .ok (.goto (-25), 3) := by decide +kernel
theorem d_V_giveOneMore_32 : decode me_V_giveOneMore.2.1 32 = .ok (.aload_n 0, 1) := by decide +kernel
theorem d_V_giveOneMore_33 : decode me_V_giveOneMore.2.1 33 = .ok (.getfield 9, 3) := by decide +kernel
theorem g_V_giveOneMore_33 : bm_gf me_V_giveOneMore 33 5 0 := ⟨_, _, _, _, d_V_giveOneMore_33, rfl, by decide, uw_V, fl_V_9⟩
theorem d_V_giveOneMore_36 : decode me_V_giveOneMore.2.1 36 = .ok (.iload_n 2, 1) := by decide +kernel
theorem d_V_giveOneMore_37 : decode me_V_giveOneMore.2.1 37 = .ok (.dup2, 1) := by decide +kernel
theorem d_V_giveOneMore_38 : decode me_V_giveOneMore.2.1 38 = .ok (.iaload, 1) := by decide +kernel
theorem d_V_giveOneMore_39 : decode me_V_giveOneMore.2.1 39 = .ok (.iconst 1, 1) := by decide +kernel
theorem d_V_giveOneMore_40 : decode me_V_giveOneMore.2.1 40 = .ok (.iadd, 1) := by decide +kernel
theorem d_V_giveOneMore_41 : decode me_V_giveOneMore.2.1 41 = .ok (.iastore, 1) := by decide +kernel
theorem d_V_giveOneMore_42 : decode me_V_giveOneMore.2.1 42 = .ok (.aload_n 0, 1) := by decide +kernel
theorem d_V_giveOneMore_43 : decode me_V_giveOneMore.2.1 43 = .ok (.getfield 15, 3) := by decide +kernel
theorem g_V_giveOneMore_43 : bm_gf me_V_giveOneMore 43 5 1 := ⟨_, _, _, _, d_V_giveOneMore_43, rfl, by decide, uw_V, fl_V_15⟩
theorem d_V_giveOneMore_46 : decode me_V_giveOneMore.2.1 46 = .ok (.iload_n 2, 1) := by decide +kernel
theorem d_V_giveOneMore_47 : decode me_V_giveOneMore.2.1 47 = .ok (.iconst (-1), 1) := by decide +kernel
theorem d_V_giveOneMore_48 : decode me_V_giveOneMore.2.1 48 = .ok (.iastore, 1) := by decide +kernel
theorem d_V_giveOneMore_49 : decode me_V_giveOneMore.2.1 49 = .ok (.return_, 1) := by decide +kernel
