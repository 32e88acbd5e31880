theorem d_M_measure_0 : decode me_M_measure.2.1 0 = .ok (.aload_n 0, 1) := by decide +kernel
theorem d_M_measure_1 : decode me_M_measure.2.1 1 = .ok (.iconst 0, 1) := by decide +kernel
theorem d_M_measure_2 : decode me_M_measure.2.1 2 = .ok (.putfield 137, 3) := by decide +kernel
theorem p_M_measure_2 : bm_pf me_M_measure 2 11 0 .int := ⟨_, _, _, _, ty_M, d_M_measure_2, rfl, by decide, uw_M, fl_M_137, tk_M, nm_M, rfl, Or.inl rfl⟩
theorem d_M_measure_5 : decode me_M_measure.2.1 5 = .ok (.aload_n 0, 1) := by decide +kernel
theorem d_M_measure_6 : decode me_M_measure.2.1 6 = .ok (.iload_n 1, 1) := by decide +kernel
theorem d_M_measure_7 : decode me_M_measure.2.1 7 = .ok (.invokevirtual 281, 3) := by decide +kernel
theorem c_M_measure_7 : bm_iv me_M_measure me_M_isBatch 7 11 1 := ⟨_, d_M_measure_7, Or.inl ml_M_281, ⟨kc_M_isBatch, in_BatchHallModel, by decide +kernel, by decide, by decide⟩, ki_M_isBatch, ks_M_isBatch, _, _, rfl⟩
theorem d_M_measure_10 : decode me_M_measure.2.1 10 = .ok (.ifCond .eq (22), 3) := by decide +kernel
theorem d_M_measure_13 : decode me_M_measure.2.1 13 = .ok (.iload_n 2, 1) := by decide +kernel
theorem d_M_measure_14 : decode me_M_measure.2.1 14 = .ok (.iconst 0, 1) := by decide +kernel
theorem d_M_measure_15 : decode me_M_measure.2.1 15 = .ok (.iconst 3, 1) := by decide +kernel
theorem d_M_measure_16 : decode me_M_measure.2.1 16 = .ok (.invokestatic 141, 3) := by decide +kernel
theorem c_M_measure_16 : bm_is me_M_measure me_M_in 16 3 := ⟨_, d_M_measure_16, Or.inl ml_M_141, ⟨kc_M_in, in_BatchHallModel, by decide +kernel, by decide, by decide⟩, kt_M_in⟩
theorem d_M_measure_19 : decode me_M_measure.2.1 19 = .ok (.ifCond .eq (13), 3) := by decide +kernel
theorem d_M_measure_22 : decode me_M_measure.2.1 22 = .ok (.aload_n 0, 1) := by decide +kernel
theorem d_M_measure_23 : decode me_M_measure.2.1 23 = .ok (.getfield 59, 3) := by decide +kernel
theorem g_M_measure_23 : bm_gf me_M_measure 23 11 18 := ⟨_, _, _, _, d_M_measure_23, rfl, by decide, uw_M, fl_M_59⟩
theorem d_M_measure_26 : decode me_M_measure.2.1 26 = .ok (.iload_n 1, 1) := by decide +kernel
theorem d_M_measure_27 : decode me_M_measure.2.1 27 = .ok (.iaload, 1) := by decide +kernel
theorem d_M_measure_28 : decode me_M_measure.2.1 28 = .ok (.iconst 4, 1) := by decide +kernel
theorem d_M_measure_29 : decode me_M_measure.2.1 29 = .ok (.if_icmp .le (5), 3) := by decide +kernel
theorem d_M_measure_32 : decode me_M_measure.2.1 32 = .ok (.iconst 0, 1) := by decide +kernel
theorem d_M_measure_33 : decode me_M_measure.2.1 33 = .ok (.ireturn, 1) := by decide +kernel
theorem d_M_measure_34 : decode me_M_measure.2.1 34 = .ok (.aload_n 0, 1) := by decide +kernel
theorem d_M_measure_35 : decode me_M_measure.2.1 35 = .ok (.getfield 65, 3) := by decide +kernel
theorem g_M_measure_35 : bm_gf me_M_measure 35 11 20 := ⟨_, _, _, _, d_M_measure_35, rfl, by decide, uw_M, fl_M_65⟩
theorem d_M_measure_38 : decode me_M_measure.2.1 38 = .ok (.iconst 4, 1) := by decide +kernel
theorem d_M_measure_39 : decode me_M_measure.2.1 39 = .ok (.iload_n 1, 1) := by decide +kernel
theorem d_M_measure_40 : decode me_M_measure.2.1 40 = .ok (.imul, 1) := by decide +kernel
theorem d_M_measure_41 : decode me_M_measure.2.1 41 = .ok (.iload_n 2, 1) := by decide +kernel
theorem d_M_measure_42 : decode me_M_measure.2.1 42 = .ok (.iadd, 1) := by decide +kernel
theorem d_M_measure_43 : decode me_M_measure.2.1 43 = .ok (.iload_n 3, 1) := by decide +kernel
theorem d_M_measure_44 : decode me_M_measure.2.1 44 = .ok (.iastore, 1) := by decide +kernel
theorem d_M_measure_45 : decode me_M_measure.2.1 45 = .ok (.iconst 0, 1) := by decide +kernel
theorem d_M_measure_46 : decode me_M_measure.2.1 46 = .ok (.istore 4, 2) := by decide +kernel
theorem d_M_measure_48 : decode me_M_measure.2.1 48 = .ok (.iload 4, 2) := by decide +kernel
theorem d_M_measure_50 : decode me_M_measure.2.1 50 = .ok (.aload_n 0, 1) := by decide +kernel
theorem d_M_measure_51 : decode me_M_measure.2.1 51 = .ok (.getfield 62, 3) := by decide +kernel
theorem g_M_measure_51 : bm_gf me_M_measure 51 11 19 := ⟨_, _, _, _, d_M_measure_51, rfl, by decide, uw_M, fl_M_62⟩
theorem d_M_measure_54 : decode me_M_measure.2.1 54 = .ok (.iload_n 1, 1) := by decide +kernel
theorem d_M_measure_55 : decode me_M_measure.2.1 55 = .ok (.iaload, 1) := by decide +kernel
theorem d_M_measure_56 : decode me_M_measure.2.1 56 = .ok (.if_icmp .ge (72), 3) := by decide +kernel
theorem d_M_measure_59 : decode me_M_measure.2.1 59 = .ok (.aload_n 0, 1) := by decide +kernel
theorem d_M_measure_60 : decode me_M_measure.2.1 60 = .ok (.iload_n 1, 1) := by decide +kernel
theorem d_M_measure_61 : decode me_M_measure.2.1 61 = .ok (.iload 4, 2) := by decide +kernel
theorem d_M_measure_63 : decode me_M_measure.2.1 63 = .ok (.invokevirtual 236, 3) := by decide +kernel
theorem c_M_measure_63 : bm_iv me_M_measure me_M_stepAt 63 11 2 := ⟨_, d_M_measure_63, Or.inl ml_M_236, ⟨kc_M_stepAt, in_BatchHallModel, by decide +kernel, by decide, by decide⟩, ki_M_stepAt, ks_M_stepAt, _, _, rfl⟩
theorem d_M_measure_66 : decode me_M_measure.2.1 66 = .ok (.istore 5, 2) := by decide +kernel
theorem d_M_measure_68 : decode me_M_measure.2.1 68 = .ok (.aload_n 0, 1) := by decide +kernel
theorem d_M_measure_69 : decode me_M_measure.2.1 69 = .ok (.getfield 86, 3) := by decide +kernel
theorem g_M_measure_69 : bm_gf me_M_measure 69 11 27 := ⟨_, _, _, _, d_M_measure_69, rfl, by decide, uw_M, fl_M_86⟩
theorem d_M_measure_72 : decode me_M_measure.2.1 72 = .ok (.bipush (8), 2) := by decide +kernel
theorem d_M_measure_74 : decode me_M_measure.2.1 74 = .ok (.iload_n 1, 1) := by decide +kernel
theorem d_M_measure_75 : decode me_M_measure.2.1 75 = .ok (.imul, 1) := by decide +kernel
theorem d_M_measure_76 : decode me_M_measure.2.1 76 = .ok (.iload 4, 2) := by decide +kernel
theorem d_M_measure_78 : decode me_M_measure.2.1 78 = .ok (.iadd, 1) := by decide +kernel
theorem d_M_measure_79 : decode me_M_measure.2.1 79 = .ok (.aload_n 0, 1) := by decide +kernel
theorem d_M_measure_80 : decode me_M_measure.2.1 80 = .ok (.getfield 86, 3) := by decide +kernel
theorem g_M_measure_80 : bm_gf me_M_measure 80 11 27 := ⟨_, _, _, _, d_M_measure_80, rfl, by decide, uw_M, fl_M_86⟩
theorem d_M_measure_83 : decode me_M_measure.2.1 83 = .ok (.bipush (8), 2) := by decide +kernel
theorem d_M_measure_85 : decode me_M_measure.2.1 85 = .ok (.iload_n 1, 1) := by decide +kernel
theorem d_M_measure_86 : decode me_M_measure.2.1 86 = .ok (.imul, 1) := by decide +kernel
theorem d_M_measure_87 : decode me_M_measure.2.1 87 = .ok (.iload 4, 2) := by decide +kernel
theorem d_M_measure_89 : decode me_M_measure.2.1 89 = .ok (.iadd, 1) := by decide +kernel
theorem d_M_measure_90 : decode me_M_measure.2.1 90 = .ok (.baload, 1) := by decide +kernel
theorem d_M_measure_91 : decode me_M_measure.2.1 91 = .ok (.ifCond .ne (25), 3) := by decide +kernel
theorem d_M_measure_94 : decode me_M_measure.2.1 94 = .ok (.aload_n 0, 1) := by decide +kernel
theorem d_M_measure_95 : decode me_M_measure.2.1 95 = .ok (.getfield 35, 3) := by decide +kernel
theorem g_M_measure_95 : bm_gf me_M_measure 95 11 9 := ⟨_, _, _, _, d_M_measure_95, rfl, by decide, uw_M, fl_M_35⟩
theorem d_M_measure_98 : decode me_M_measure.2.1 98 = .ok (.iload 5, 2) := by decide +kernel
theorem d_M_measure_100 : decode me_M_measure.2.1 100 = .ok (.iaload, 1) := by decide +kernel
theorem d_M_measure_101 : decode me_M_measure.2.1 101 = .ok (.iconst 4, 1) := by decide +kernel
theorem d_M_measure_102 : decode me_M_measure.2.1 102 = .ok (.if_icmp .ne (18), 3) := by decide +kernel
theorem d_M_measure_105 : decode me_M_measure.2.1 105 = .ok (.aload_n 0, 1) := by decide +kernel
theorem d_M_measure_106 : decode me_M_measure.2.1 106 = .ok (.getfield 41, 3) := by decide +kernel
theorem g_M_measure_106 : bm_gf me_M_measure 106 11 11 := ⟨_, _, _, _, d_M_measure_106, rfl, by decide, uw_M, fl_M_41⟩
theorem d_M_measure_109 : decode me_M_measure.2.1 109 = .ok (.iload 5, 2) := by decide +kernel
theorem d_M_measure_111 : decode me_M_measure.2.1 111 = .ok (.iaload, 1) := by decide +kernel
theorem d_M_measure_112 : decode me_M_measure.2.1 112 = .ok (.iload_n 2, 1) := by decide +kernel
theorem d_M_measure_113 : decode me_M_measure.2.1 113 = .ok (.if_icmp .ne (7), 3) := by decide +kernel
theorem d_M_measure_116 : decode me_M_measure.2.1 116 = .ok (.iconst 1, 1) := by decide +kernel
theorem d_M_measure_117 : decode me_M_measure.2.1 117 = .ok (.goto (4), 3) := by decide +kernel
theorem d_M_measure_120 : decode me_M_measure.2.1 120 = .ok (.iconst 0, 1) := by decide +kernel
theorem d_M_measure_121 : decode me_M_measure.2.1 121 = .ok (.bastore, 1) := by decide +kernel
theorem d_M_measure_122 : decode me_M_measure.2.1 122 = .ok (.iinc 4 (1), 3) := by decide +kernel
theorem d_M_measure_125 : decode me_M_measure.2.1 125 = .ok (.goto (-77), 3) := by decide +kernel
theorem d_M_measure_128 : decode me_M_measure.2.1 128 = .ok (.iconst 1, 1) := by decide +kernel
theorem d_M_measure_129 : decode me_M_measure.2.1 129 = .ok (.ireturn, 1) := by decide +kernel
theorem d_M_batchIs_0 : decode me_M_batchIs.2.1 0 = .ok (.aload_n 0, 1) := by decide +kernel
theorem d_M_batchIs_1 : decode me_M_batchIs.2.1 1 = .ok (.iconst 0, 1) := by decide +kernel
theorem d_M_batchIs_2 : decode me_M_batchIs.2.1 2 = .ok (.putfield 137, 3) := by decide +kernel
theorem p_M_batchIs_2 : bm_pf me_M_batchIs 2 11 0 .int := ⟨_, _, _, _, ty_M, d_M_batchIs_2, rfl, by decide, uw_M, fl_M_137, tk_M, nm_M, rfl, Or.inl rfl⟩
theorem d_M_batchIs_5 : decode me_M_batchIs.2.1 5 = .ok (.aload_n 0, 1) := by decide +kernel
theorem d_M_batchIs_6 : decode me_M_batchIs.2.1 6 = .ok (.iload_n 1, 1) := by decide +kernel
theorem d_M_batchIs_7 : decode me_M_batchIs.2.1 7 = .ok (.invokevirtual 281, 3) := by decide +kernel
theorem c_M_batchIs_7 : bm_iv me_M_batchIs me_M_isBatch 7 11 1 := ⟨_, d_M_batchIs_7, Or.inl ml_M_281, ⟨kc_M_isBatch, in_BatchHallModel, by decide +kernel, by decide, by decide⟩, ki_M_isBatch, ks_M_isBatch, _, _, rfl⟩
theorem d_M_batchIs_10 : decode me_M_batchIs.2.1 10 = .ok (.ifCond .ne (5), 3) := by decide +kernel
theorem d_M_batchIs_13 : decode me_M_batchIs.2.1 13 = .ok (.iconst (-1), 1) := by decide +kernel
theorem d_M_batchIs_14 : decode me_M_batchIs.2.1 14 = .ok (.ireturn, 1) := by decide +kernel
theorem d_M_batchIs_15 : decode me_M_batchIs.2.1 15 = .ok (.iload_n 2, 1) := by decide +kernel
theorem d_M_batchIs_16 : decode me_M_batchIs.2.1 16 = .ok (.tableswitch (70) (0) (4) #[(36), (43), (50), (57), (64)], 36) := by decide +kernel
theorem d_M_batchIs_52 : decode me_M_batchIs.2.1 52 = .ok (.aload_n 0, 1) := by decide +kernel
theorem d_M_batchIs_53 : decode me_M_batchIs.2.1 53 = .ok (.getfield 59, 3) := by decide +kernel
theorem g_M_batchIs_53 : bm_gf me_M_batchIs 53 11 18 := ⟨_, _, _, _, d_M_batchIs_53, rfl, by decide, uw_M, fl_M_59⟩
theorem d_M_batchIs_56 : decode me_M_batchIs.2.1 56 = .ok (.iload_n 1, 1) := by decide +kernel
theorem d_M_batchIs_57 : decode me_M_batchIs.2.1 57 = .ok (.iaload, 1) := by decide +kernel
theorem d_M_batchIs_58 : decode me_M_batchIs.2.1 58 = .ok (.ireturn, 1) := by decide +kernel
theorem d_M_batchIs_59 : decode me_M_batchIs.2.1 59 = .ok (.aload_n 0, 1) := by decide +kernel
theorem d_M_batchIs_60 : decode me_M_batchIs.2.1 60 = .ok (.getfield 53, 3) := by decide +kernel
theorem g_M_batchIs_60 : bm_gf me_M_batchIs 60 11 16 := ⟨_, _, _, _, d_M_batchIs_60, rfl, by decide, uw_M, fl_M_53⟩
theorem d_M_batchIs_63 : decode me_M_batchIs.2.1 63 = .ok (.iload_n 1, 1) := by decide +kernel
theorem d_M_batchIs_64 : decode me_M_batchIs.2.1 64 = .ok (.iaload, 1) := by decide +kernel
theorem d_M_batchIs_65 : decode me_M_batchIs.2.1 65 = .ok (.ireturn, 1) := by decide +kernel
theorem d_M_batchIs_66 : decode me_M_batchIs.2.1 66 = .ok (.aload_n 0, 1) := by decide +kernel
theorem d_M_batchIs_67 : decode me_M_batchIs.2.1 67 = .ok (.getfield 56, 3) := by decide +kernel
theorem g_M_batchIs_67 : bm_gf me_M_batchIs 67 11 17 := ⟨_, _, _, _, d_M_batchIs_67, rfl, by decide, uw_M, fl_M_56⟩
theorem d_M_batchIs_70 : decode me_M_batchIs.2.1 70 = .ok (.iload_n 1, 1) := by decide +kernel
theorem d_M_batchIs_71 : decode me_M_batchIs.2.1 71 = .ok (.iaload, 1) := by decide +kernel
theorem d_M_batchIs_72 : decode me_M_batchIs.2.1 72 = .ok (.ireturn, 1) := by decide +kernel
theorem d_M_batchIs_73 : decode me_M_batchIs.2.1 73 = .ok (.aload_n 0, 1) := by decide +kernel
theorem d_M_batchIs_74 : decode me_M_batchIs.2.1 74 = .ok (.getfield 62, 3) := by decide +kernel
theorem g_M_batchIs_74 : bm_gf me_M_batchIs 74 11 19 := ⟨_, _, _, _, d_M_batchIs_74, rfl, by decide, uw_M, fl_M_62⟩
theorem d_M_batchIs_77 : decode me_M_batchIs.2.1 77 = .ok (.iload_n 1, 1) := by decide +kernel
theorem d_M_batchIs_78 : decode me_M_batchIs.2.1 78 = .ok (.iaload, 1) := by decide +kernel
theorem d_M_batchIs_79 : decode me_M_batchIs.2.1 79 = .ok (.ireturn, 1) := by decide +kernel
theorem d_M_batchIs_80 : decode me_M_batchIs.2.1 80 = .ok (.aload_n 0, 1) := by decide +kernel
theorem d_M_batchIs_81 : decode me_M_batchIs.2.1 81 = .ok (.iload_n 1, 1) := by decide +kernel
theorem d_M_batchIs_82 : decode me_M_batchIs.2.1 82 = .ok (.invokevirtual 269, 3) := by decide +kernel
theorem c_M_batchIs_82 : bm_iv me_M_batchIs me_M_running 82 11 1 := ⟨_, d_M_batchIs_82, Or.inl ml_M_269, ⟨kc_M_running, in_BatchHallModel, by decide +kernel, by decide, by decide⟩, ki_M_running, ks_M_running, _, _, rfl⟩
theorem d_M_batchIs_85 : decode me_M_batchIs.2.1 85 = .ok (.ireturn, 1) := by decide +kernel
theorem d_M_batchIs_86 : decode me_M_batchIs.2.1 86 = .ok (.iconst (-1), 1) := by decide +kernel
theorem d_M_batchIs_87 : decode me_M_batchIs.2.1 87 = .ok (.ireturn, 1) := by decide +kernel
theorem d_M_token_0 : decode me_M_token.2.1 0 = .ok (.aload_n 0, 1) := by decide +kernel
theorem d_M_token_1 : decode me_M_token.2.1 1 = .ok (.iconst 0, 1) := by decide +kernel
theorem d_M_token_2 : decode me_M_token.2.1 2 = .ok (.putfield 137, 3) := by decide +kernel
theorem p_M_token_2 : bm_pf me_M_token 2 11 0 .int := ⟨_, _, _, _, ty_M, d_M_token_2, rfl, by decide, uw_M, fl_M_137, tk_M, nm_M, rfl, Or.inl rfl⟩
theorem d_M_token_5 : decode me_M_token.2.1 5 = .ok (.aload_n 0, 1) := by decide +kernel
theorem d_M_token_6 : decode me_M_token.2.1 6 = .ok (.iload_n 1, 1) := by decide +kernel
theorem d_M_token_7 : decode me_M_token.2.1 7 = .ok (.invokevirtual 281, 3) := by decide +kernel
theorem c_M_token_7 : bm_iv me_M_token me_M_isBatch 7 11 1 := ⟨_, d_M_token_7, Or.inl ml_M_281, ⟨kc_M_isBatch, in_BatchHallModel, by decide +kernel, by decide, by decide⟩, ki_M_isBatch, ks_M_isBatch, _, _, rfl⟩
theorem d_M_token_10 : decode me_M_token.2.1 10 = .ok (.ifCond .eq (19), 3) := by decide +kernel
theorem d_M_token_13 : decode me_M_token.2.1 13 = .ok (.iload_n 2, 1) := by decide +kernel
theorem d_M_token_14 : decode me_M_token.2.1 14 = .ok (.iconst 0, 1) := by decide +kernel
theorem d_M_token_15 : decode me_M_token.2.1 15 = .ok (.aload_n 0, 1) := by decide +kernel
theorem d_M_token_16 : decode me_M_token.2.1 16 = .ok (.getfield 62, 3) := by decide +kernel
theorem g_M_token_16 : bm_gf me_M_token 16 11 19 := ⟨_, _, _, _, d_M_token_16, rfl, by decide, uw_M, fl_M_62⟩
theorem d_M_token_19 : decode me_M_token.2.1 19 = .ok (.iload_n 1, 1) := by decide +kernel
theorem d_M_token_20 : decode me_M_token.2.1 20 = .ok (.iaload, 1) := by decide +kernel
theorem d_M_token_21 : decode me_M_token.2.1 21 = .ok (.iconst 1, 1) := by decide +kernel
theorem d_M_token_22 : decode me_M_token.2.1 22 = .ok (.isub, 1) := by decide +kernel
theorem d_M_token_23 : decode me_M_token.2.1 23 = .ok (.invokestatic 141, 3) := by decide +kernel
theorem c_M_token_23 : bm_is me_M_token me_M_in 23 3 := ⟨_, d_M_token_23, Or.inl ml_M_141, ⟨kc_M_in, in_BatchHallModel, by decide +kernel, by decide, by decide⟩, kt_M_in⟩
theorem d_M_token_26 : decode me_M_token.2.1 26 = .ok (.ifCond .ne (5), 3) := by decide +kernel
theorem d_M_token_29 : decode me_M_token.2.1 29 = .ok (.iconst (-1), 1) := by decide +kernel
theorem d_M_token_30 : decode me_M_token.2.1 30 = .ok (.ireturn, 1) := by decide +kernel
theorem d_M_token_31 : decode me_M_token.2.1 31 = .ok (.aload_n 0, 1) := by decide +kernel
theorem d_M_token_32 : decode me_M_token.2.1 32 = .ok (.getfield 83, 3) := by decide +kernel
theorem g_M_token_32 : bm_gf me_M_token 32 11 26 := ⟨_, _, _, _, d_M_token_32, rfl, by decide, uw_M, fl_M_83⟩
theorem d_M_token_35 : decode me_M_token.2.1 35 = .ok (.bipush (8), 2) := by decide +kernel
theorem d_M_token_37 : decode me_M_token.2.1 37 = .ok (.iload_n 1, 1) := by decide +kernel
theorem d_M_token_38 : decode me_M_token.2.1 38 = .ok (.imul, 1) := by decide +kernel
theorem d_M_token_39 : decode me_M_token.2.1 39 = .ok (.iload_n 2, 1) := by decide +kernel
theorem d_M_token_40 : decode me_M_token.2.1 40 = .ok (.iadd, 1) := by decide +kernel
theorem d_M_token_41 : decode me_M_token.2.1 41 = .ok (.baload, 1) := by decide +kernel
theorem d_M_token_42 : decode me_M_token.2.1 42 = .ok (.ifCond .eq (20), 3) := by decide +kernel
theorem d_M_token_45 : decode me_M_token.2.1 45 = .ok (.aload_n 0, 1) := by decide +kernel
theorem d_M_token_46 : decode me_M_token.2.1 46 = .ok (.getfield 74, 3) := by decide +kernel
theorem g_M_token_46 : bm_gf me_M_token 46 11 23 := ⟨_, _, _, _, d_M_token_46, rfl, by decide, uw_M, fl_M_74⟩
theorem d_M_token_49 : decode me_M_token.2.1 49 = .ok (.bipush (8), 2) := by decide +kernel
theorem d_M_token_51 : decode me_M_token.2.1 51 = .ok (.iload_n 1, 1) := by decide +kernel
theorem d_M_token_52 : decode me_M_token.2.1 52 = .ok (.imul, 1) := by decide +kernel
theorem d_M_token_53 : decode me_M_token.2.1 53 = .ok (.iload_n 2, 1) := by decide +kernel
theorem d_M_token_54 : decode me_M_token.2.1 54 = .ok (.iadd, 1) := by decide +kernel
theorem d_M_token_55 : decode me_M_token.2.1 55 = .ok (.iaload, 1) := by decide +kernel
theorem d_M_token_56 : decode me_M_token.2.1 56 = .ok (.bipush (16), 2) := by decide +kernel
theorem d_M_token_58 : decode me_M_token.2.1 58 = .ok (.iadd, 1) := by decide +kernel
theorem d_M_token_59 : decode me_M_token.2.1 59 = .ok (.goto (14), 3) := by decide +kernel
theorem d_M_token_62 : decode me_M_token.2.1 62 = .ok (.aload_n 0, 1) := by decide +kernel
theorem d_M_token_63 : decode me_M_token.2.1 63 = .ok (.getfield 74, 3) := by decide +kernel
theorem g_M_token_63 : bm_gf me_M_token 63 11 23 := ⟨_, _, _, _, d_M_token_63, rfl, by decide, uw_M, fl_M_74⟩
theorem d_M_token_66 : decode me_M_token.2.1 66 = .ok (.bipush (8), 2) := by decide +kernel
theorem d_M_token_68 : decode me_M_token.2.1 68 = .ok (.iload_n 1, 1) := by decide +kernel
theorem d_M_token_69 : decode me_M_token.2.1 69 = .ok (.imul, 1) := by decide +kernel
theorem d_M_token_70 : decode me_M_token.2.1 70 = .ok (.iload_n 2, 1) := by decide +kernel
theorem d_M_token_71 : decode me_M_token.2.1 71 = .ok (.iadd, 1) := by decide +kernel
theorem d_M_token_72 : decode me_M_token.2.1 72 = .ok (.iaload, 1) := by decide +kernel
theorem d_M_token_73 : decode me_M_token.2.1 73 = .ok (.ireturn, 1) := by decide +kernel
theorem d_M_unitOf_0 : decode me_M_unitOf.2.1 0 = .ok (.aload_n 0, 1) := by decide +kernel
theorem d_M_unitOf_1 : decode me_M_unitOf.2.1 1 = .ok (.iconst 0, 1) := by decide +kernel
theorem d_M_unitOf_2 : decode me_M_unitOf.2.1 2 = .ok (.putfield 137, 3) := by decide +kernel
theorem p_M_unitOf_2 : bm_pf me_M_unitOf 2 11 0 .int := ⟨_, _, _, _, ty_M, d_M_unitOf_2, rfl, by decide, uw_M, fl_M_137, tk_M, nm_M, rfl, Or.inl rfl⟩
theorem d_M_unitOf_5 : decode me_M_unitOf.2.1 5 = .ok (.aload_n 0, 1) := by decide +kernel
theorem d_M_unitOf_6 : decode me_M_unitOf.2.1 6 = .ok (.iload_n 1, 1) := by decide +kernel
theorem d_M_unitOf_7 : decode me_M_unitOf.2.1 7 = .ok (.invokevirtual 281, 3) := by decide +kernel
theorem c_M_unitOf_7 : bm_iv me_M_unitOf me_M_isBatch 7 11 1 := ⟨_, d_M_unitOf_7, Or.inl ml_M_281, ⟨kc_M_isBatch, in_BatchHallModel, by decide +kernel, by decide, by decide⟩, ki_M_isBatch, ks_M_isBatch, _, _, rfl⟩
theorem d_M_unitOf_10 : decode me_M_unitOf.2.1 10 = .ok (.ifCond .eq (25), 3) := by decide +kernel
theorem d_M_unitOf_13 : decode me_M_unitOf.2.1 13 = .ok (.iload_n 2, 1) := by decide +kernel
theorem d_M_unitOf_14 : decode me_M_unitOf.2.1 14 = .ok (.iconst 0, 1) := by decide +kernel
theorem d_M_unitOf_15 : decode me_M_unitOf.2.1 15 = .ok (.iconst 2, 1) := by decide +kernel
theorem d_M_unitOf_16 : decode me_M_unitOf.2.1 16 = .ok (.invokestatic 141, 3) := by decide +kernel
theorem c_M_unitOf_16 : bm_is me_M_unitOf me_M_in 16 3 := ⟨_, d_M_unitOf_16, Or.inl ml_M_141, ⟨kc_M_in, in_BatchHallModel, by decide +kernel, by decide, by decide⟩, kt_M_in⟩
theorem d_M_unitOf_19 : decode me_M_unitOf.2.1 19 = .ok (.ifCond .eq (16), 3) := by decide +kernel
theorem d_M_unitOf_22 : decode me_M_unitOf.2.1 22 = .ok (.aload_n 0, 1) := by decide +kernel
theorem d_M_unitOf_23 : decode me_M_unitOf.2.1 23 = .ok (.getfield 71, 3) := by decide +kernel
theorem g_M_unitOf_23 : bm_gf me_M_unitOf 23 11 22 := ⟨_, _, _, _, d_M_unitOf_23, rfl, by decide, uw_M, fl_M_71⟩
theorem d_M_unitOf_26 : decode me_M_unitOf.2.1 26 = .ok (.iconst 3, 1) := by decide +kernel
theorem d_M_unitOf_27 : decode me_M_unitOf.2.1 27 = .ok (.iload_n 1, 1) := by decide +kernel
theorem d_M_unitOf_28 : decode me_M_unitOf.2.1 28 = .ok (.imul, 1) := by decide +kernel
theorem d_M_unitOf_29 : decode me_M_unitOf.2.1 29 = .ok (.iload_n 2, 1) := by decide +kernel
theorem d_M_unitOf_30 : decode me_M_unitOf.2.1 30 = .ok (.iadd, 1) := by decide +kernel
theorem d_M_unitOf_31 : decode me_M_unitOf.2.1 31 = .ok (.iaload, 1) := by decide +kernel
theorem d_M_unitOf_32 : decode me_M_unitOf.2.1 32 = .ok (.goto (4), 3) := by decide +kernel
theorem d_M_unitOf_35 : decode me_M_unitOf.2.1 35 = .ok (.iconst (-1), 1) := by decide +kernel
theorem d_M_unitOf_36 : decode me_M_unitOf.2.1 36 = .ok (.ireturn, 1) := by decide +kernel
theorem d_M_unitIs_0 : decode me_M_unitIs.2.1 0 = .ok (.aload_n 0, 1) := by decide +kernel
theorem d_M_unitIs_1 : decode me_M_unitIs.2.1 1 = .ok (.iconst 0, 1) := by decide +kernel
theorem d_M_unitIs_2 : decode me_M_unitIs.2.1 2 = .ok (.putfield 137, 3) := by decide +kernel
theorem p_M_unitIs_2 : bm_pf me_M_unitIs 2 11 0 .int := ⟨_, _, _, _, ty_M, d_M_unitIs_2, rfl, by decide, uw_M, fl_M_137, tk_M, nm_M, rfl, Or.inl rfl⟩
theorem d_M_unitIs_5 : decode me_M_unitIs.2.1 5 = .ok (.iload_n 1, 1) := by decide +kernel
theorem d_M_unitIs_6 : decode me_M_unitIs.2.1 6 = .ok (.iconst 0, 1) := by decide +kernel
theorem d_M_unitIs_7 : decode me_M_unitIs.2.1 7 = .ok (.iconst 5, 1) := by decide +kernel
theorem d_M_unitIs_8 : decode me_M_unitIs.2.1 8 = .ok (.invokestatic 141, 3) := by decide +kernel
theorem c_M_unitIs_8 : bm_is me_M_unitIs me_M_in 8 3 := ⟨_, d_M_unitIs_8, Or.inl ml_M_141, ⟨kc_M_in, in_BatchHallModel, by decide +kernel, by decide, by decide⟩, kt_M_in⟩
theorem d_M_unitIs_11 : decode me_M_unitIs.2.1 11 = .ok (.ifCond .ne (5), 3) := by decide +kernel
theorem d_M_unitIs_14 : decode me_M_unitIs.2.1 14 = .ok (.iconst (-1), 1) := by decide +kernel
theorem d_M_unitIs_15 : decode me_M_unitIs.2.1 15 = .ok (.ireturn, 1) := by decide +kernel
theorem d_M_unitIs_16 : decode me_M_unitIs.2.1 16 = .ok (.iload_n 2, 1) := by decide +kernel
theorem d_M_unitIs_17 : decode me_M_unitIs.2.1 17 = .ok (.tableswitch (58) (0) (3) #[(31), (38), (45), (52)], 31) := by decide +kernel
theorem d_M_unitIs_48 : decode me_M_unitIs.2.1 48 = .ok (.aload_n 0, 1) := by decide +kernel
theorem d_M_unitIs_49 : decode me_M_unitIs.2.1 49 = .ok (.getfield 13, 3) := by decide +kernel
theorem g_M_unitIs_49 : bm_gf me_M_unitIs 49 11 2 := ⟨_, _, _, _, d_M_unitIs_49, rfl, by decide, uw_M, fl_M_13⟩
theorem d_M_unitIs_52 : decode me_M_unitIs.2.1 52 = .ok (.iload_n 1, 1) := by decide +kernel
theorem d_M_unitIs_53 : decode me_M_unitIs.2.1 53 = .ok (.iaload, 1) := by decide +kernel
theorem d_M_unitIs_54 : decode me_M_unitIs.2.1 54 = .ok (.ireturn, 1) := by decide +kernel
theorem d_M_unitIs_55 : decode me_M_unitIs.2.1 55 = .ok (.aload_n 0, 1) := by decide +kernel
theorem d_M_unitIs_56 : decode me_M_unitIs.2.1 56 = .ok (.getfield 7, 3) := by decide +kernel
theorem g_M_unitIs_56 : bm_gf me_M_unitIs 56 11 1 := ⟨_, _, _, _, d_M_unitIs_56, rfl, by decide, uw_M, fl_M_7⟩
theorem d_M_unitIs_59 : decode me_M_unitIs.2.1 59 = .ok (.iload_n 1, 1) := by decide +kernel
theorem d_M_unitIs_60 : decode me_M_unitIs.2.1 60 = .ok (.iaload, 1) := by decide +kernel
theorem d_M_unitIs_61 : decode me_M_unitIs.2.1 61 = .ok (.ireturn, 1) := by decide +kernel
theorem d_M_unitIs_62 : decode me_M_unitIs.2.1 62 = .ok (.aload_n 0, 1) := by decide +kernel
theorem d_M_unitIs_63 : decode me_M_unitIs.2.1 63 = .ok (.getfield 16, 3) := by decide +kernel
theorem g_M_unitIs_63 : bm_gf me_M_unitIs 63 11 3 := ⟨_, _, _, _, d_M_unitIs_63, rfl, by decide, uw_M, fl_M_16⟩
theorem d_M_unitIs_66 : decode me_M_unitIs.2.1 66 = .ok (.iload_n 1, 1) := by decide +kernel
theorem d_M_unitIs_67 : decode me_M_unitIs.2.1 67 = .ok (.iaload, 1) := by decide +kernel
theorem d_M_unitIs_68 : decode me_M_unitIs.2.1 68 = .ok (.ireturn, 1) := by decide +kernel
theorem d_M_unitIs_69 : decode me_M_unitIs.2.1 69 = .ok (.aload_n 0, 1) := by decide +kernel
theorem d_M_unitIs_70 : decode me_M_unitIs.2.1 70 = .ok (.iload_n 1, 1) := by decide +kernel
theorem d_M_unitIs_71 : decode me_M_unitIs.2.1 71 = .ok (.invokevirtual 188, 3) := by decide +kernel
theorem c_M_unitIs_71 : bm_iv me_M_unitIs me_M_total 71 11 1 := ⟨_, d_M_unitIs_71, Or.inl ml_M_188, ⟨kc_M_total, in_BatchHallModel, by decide +kernel, by decide, by decide⟩, ki_M_total, ks_M_total, _, _, rfl⟩
theorem d_M_unitIs_74 : decode me_M_unitIs.2.1 74 = .ok (.ireturn, 1) := by decide +kernel
theorem d_M_unitIs_75 : decode me_M_unitIs.2.1 75 = .ok (.iconst (-1), 1) := by decide +kernel
theorem d_M_unitIs_76 : decode me_M_unitIs.2.1 76 = .ok (.ireturn, 1) := by decide +kernel
theorem d_M_content_0 : decode me_M_content.2.1 0 = .ok (.aload_n 0, 1) := by decide +kernel
theorem d_M_content_1 : decode me_M_content.2.1 1 = .ok (.iconst 0, 1) := by decide +kernel
theorem d_M_content_2 : decode me_M_content.2.1 2 = .ok (.putfield 137, 3) := by decide +kernel
theorem p_M_content_2 : bm_pf me_M_content 2 11 0 .int := ⟨_, _, _, _, ty_M, d_M_content_2, rfl, by decide, uw_M, fl_M_137, tk_M, nm_M, rfl, Or.inl rfl⟩
theorem d_M_content_5 : decode me_M_content.2.1 5 = .ok (.iload_n 1, 1) := by decide +kernel
theorem d_M_content_6 : decode me_M_content.2.1 6 = .ok (.iconst 0, 1) := by decide +kernel
theorem d_M_content_7 : decode me_M_content.2.1 7 = .ok (.iconst 5, 1) := by decide +kernel
theorem d_M_content_8 : decode me_M_content.2.1 8 = .ok (.invokestatic 141, 3) := by decide +kernel
theorem c_M_content_8 : bm_is me_M_content me_M_in 8 3 := ⟨_, d_M_content_8, Or.inl ml_M_141, ⟨kc_M_in, in_BatchHallModel, by decide +kernel, by decide, by decide⟩, kt_M_in⟩
theorem d_M_content_11 : decode me_M_content.2.1 11 = .ok (.ifCond .eq (28), 3) := by decide +kernel
theorem d_M_content_14 : decode me_M_content.2.1 14 = .ok (.iload_n 2, 1) := by decide +kernel
theorem d_M_content_15 : decode me_M_content.2.1 15 = .ok (.iconst 0, 1) := by decide +kernel
theorem d_M_content_16 : decode me_M_content.2.1 16 = .ok (.aload_n 0, 1) := by decide +kernel
theorem d_M_content_17 : decode me_M_content.2.1 17 = .ok (.getfield 16, 3) := by decide +kernel
theorem g_M_content_17 : bm_gf me_M_content 17 11 3 := ⟨_, _, _, _, d_M_content_17, rfl, by decide, uw_M, fl_M_16⟩
theorem d_M_content_20 : decode me_M_content.2.1 20 = .ok (.iload_n 1, 1) := by decide +kernel
theorem d_M_content_21 : decode me_M_content.2.1 21 = .ok (.iaload, 1) := by decide +kernel
theorem d_M_content_22 : decode me_M_content.2.1 22 = .ok (.iconst 1, 1) := by decide +kernel
theorem d_M_content_23 : decode me_M_content.2.1 23 = .ok (.isub, 1) := by decide +kernel
theorem d_M_content_24 : decode me_M_content.2.1 24 = .ok (.invokestatic 141, 3) := by decide +kernel
theorem c_M_content_24 : bm_is me_M_content me_M_in 24 3 := ⟨_, d_M_content_24, Or.inl ml_M_141, ⟨kc_M_in, in_BatchHallModel, by decide +kernel, by decide, by decide⟩, kt_M_in⟩
theorem d_M_content_27 : decode me_M_content.2.1 27 = .ok (.ifCond .eq (12), 3) := by decide +kernel
theorem d_M_content_30 : decode me_M_content.2.1 30 = .ok (.iload_n 3, 1) := by decide +kernel
theorem d_M_content_31 : decode me_M_content.2.1 31 = .ok (.iconst 0, 1) := by decide +kernel
theorem d_M_content_32 : decode me_M_content.2.1 32 = .ok (.iconst 1, 1) := by decide +kernel
theorem d_M_content_33 : decode me_M_content.2.1 33 = .ok (.invokestatic 141, 3) := by decide +kernel
theorem c_M_content_33 : bm_is me_M_content me_M_in 33 3 := ⟨_, d_M_content_33, Or.inl ml_M_141, ⟨kc_M_in, in_BatchHallModel, by decide +kernel, by decide, by decide⟩, kt_M_in⟩
theorem d_M_content_36 : decode me_M_content.2.1 36 = .ok (.ifCond .ne (5), 3) := by decide +kernel
theorem d_M_content_39 : decode me_M_content.2.1 39 = .ok (.iconst (-1), 1) := by decide +kernel
theorem d_M_content_40 : decode me_M_content.2.1 40 = .ok (.ireturn, 1) := by decide +kernel
theorem d_M_content_41 : decode me_M_content.2.1 41 = .ok (.iload_n 3, 1) := by decide +kernel
theorem d_M_content_42 : decode me_M_content.2.1 42 = .ok (.ifCond .ne (17), 3) := by decide +kernel
theorem d_M_content_45 : decode me_M_content.2.1 45 = .ok (.aload_n 0, 1) := by decide +kernel
theorem d_M_content_46 : decode me_M_content.2.1 46 = .ok (.getfield 19, 3) := by decide +kernel
theorem g_M_content_46 : bm_gf me_M_content 46 11 4 := ⟨_, _, _, _, d_M_content_46, rfl, by decide, uw_M, fl_M_19⟩
theorem d_M_content_49 : decode me_M_content.2.1 49 = .ok (.bipush (100), 2) := by decide +kernel
theorem d_M_content_51 : decode me_M_content.2.1 51 = .ok (.iload_n 1, 1) := by decide +kernel
theorem d_M_content_52 : decode me_M_content.2.1 52 = .ok (.imul, 1) := by decide +kernel
theorem d_M_content_53 : decode me_M_content.2.1 53 = .ok (.iload_n 2, 1) := by decide +kernel
theorem d_M_content_54 : decode me_M_content.2.1 54 = .ok (.iadd, 1) := by decide +kernel
theorem d_M_content_55 : decode me_M_content.2.1 55 = .ok (.iaload, 1) := by decide +kernel
theorem d_M_content_56 : decode me_M_content.2.1 56 = .ok (.goto (14), 3) := by decide +kernel
theorem d_M_content_59 : decode me_M_content.2.1 59 = .ok (.aload_n 0, 1) := by decide +kernel
theorem d_M_content_60 : decode me_M_content.2.1 60 = .ok (.getfield 22, 3) := by decide +kernel
theorem g_M_content_60 : bm_gf me_M_content 60 11 5 := ⟨_, _, _, _, d_M_content_60, rfl, by decide, uw_M, fl_M_22⟩
theorem d_M_content_63 : decode me_M_content.2.1 63 = .ok (.bipush (100), 2) := by decide +kernel
theorem d_M_content_65 : decode me_M_content.2.1 65 = .ok (.iload_n 1, 1) := by decide +kernel
theorem d_M_content_66 : decode me_M_content.2.1 66 = .ok (.imul, 1) := by decide +kernel
theorem d_M_content_67 : decode me_M_content.2.1 67 = .ok (.iload_n 2, 1) := by decide +kernel
theorem d_M_content_68 : decode me_M_content.2.1 68 = .ok (.iadd, 1) := by decide +kernel
theorem d_M_content_69 : decode me_M_content.2.1 69 = .ok (.iaload, 1) := by decide +kernel
theorem d_M_content_70 : decode me_M_content.2.1 70 = .ok (.ireturn, 1) := by decide +kernel
theorem d_M_lot_0 : decode me_M_lot.2.1 0 = .ok (.aload_n 0, 1) := by decide +kernel
theorem d_M_lot_1 : decode me_M_lot.2.1 1 = .ok (.iconst 0, 1) := by decide +kernel
theorem d_M_lot_2 : decode me_M_lot.2.1 2 = .ok (.putfield 137, 3) := by decide +kernel
theorem p_M_lot_2 : bm_pf me_M_lot 2 11 0 .int := ⟨_, _, _, _, ty_M, d_M_lot_2, rfl, by decide, uw_M, fl_M_137, tk_M, nm_M, rfl, Or.inl rfl⟩
theorem d_M_lot_5 : decode me_M_lot.2.1 5 = .ok (.iload_n 1, 1) := by decide +kernel
theorem d_M_lot_6 : decode me_M_lot.2.1 6 = .ok (.iconst 0, 1) := by decide +kernel
theorem d_M_lot_7 : decode me_M_lot.2.1 7 = .ok (.aload_n 0, 1) := by decide +kernel
theorem d_M_lot_8 : decode me_M_lot.2.1 8 = .ok (.getfield 200, 3) := by decide +kernel
theorem g_M_lot_8 : bm_gf me_M_lot 8 11 31 := ⟨_, _, _, _, d_M_lot_8, rfl, by decide, uw_M, fl_M_200⟩
theorem d_M_lot_11 : decode me_M_lot.2.1 11 = .ok (.iconst 1, 1) := by decide +kernel
theorem d_M_lot_12 : decode me_M_lot.2.1 12 = .ok (.isub, 1) := by decide +kernel
theorem d_M_lot_13 : decode me_M_lot.2.1 13 = .ok (.invokestatic 141, 3) := by decide +kernel
theorem c_M_lot_13 : bm_is me_M_lot me_M_in 13 3 := ⟨_, d_M_lot_13, Or.inl ml_M_141, ⟨kc_M_in, in_BatchHallModel, by decide +kernel, by decide, by decide⟩, kt_M_in⟩
theorem d_M_lot_16 : decode me_M_lot.2.1 16 = .ok (.ifCond .ne (5), 3) := by decide +kernel
theorem d_M_lot_19 : decode me_M_lot.2.1 19 = .ok (.iconst (-1), 1) := by decide +kernel
theorem d_M_lot_20 : decode me_M_lot.2.1 20 = .ok (.ireturn, 1) := by decide +kernel
theorem d_M_lot_21 : decode me_M_lot.2.1 21 = .ok (.iconst 0, 1) := by decide +kernel
theorem d_M_lot_22 : decode me_M_lot.2.1 22 = .ok (.istore_n 3, 1) := by decide +kernel
theorem d_M_lot_23 : decode me_M_lot.2.1 23 = .ok (.iconst 0, 1) := by decide +kernel
theorem d_M_lot_24 : decode me_M_lot.2.1 24 = .ok (.istore 4, 2) := by decide +kernel
theorem d_M_lot_26 : decode me_M_lot.2.1 26 = .ok (.iload 4, 2) := by decide +kernel
theorem d_M_lot_28 : decode me_M_lot.2.1 28 = .ok (.aload_n 0, 1) := by decide +kernel
theorem d_M_lot_29 : decode me_M_lot.2.1 29 = .ok (.getfield 207, 3) := by decide +kernel
theorem g_M_lot_29 : bm_gf me_M_lot 29 11 32 := ⟨_, _, _, _, d_M_lot_29, rfl, by decide, uw_M, fl_M_207⟩
theorem d_M_lot_32 : decode me_M_lot.2.1 32 = .ok (.if_icmp .ge (28), 3) := by decide +kernel
theorem d_M_lot_35 : decode me_M_lot.2.1 35 = .ok (.aload_n 0, 1) := by decide +kernel
theorem d_M_lot_36 : decode me_M_lot.2.1 36 = .ok (.getfield 101, 3) := by decide +kernel
theorem g_M_lot_36 : bm_gf me_M_lot 36 11 36 := ⟨_, _, _, _, d_M_lot_36, rfl, by decide, uw_M, fl_M_101⟩
theorem d_M_lot_39 : decode me_M_lot.2.1 39 = .ok (.iload 4, 2) := by decide +kernel
theorem d_M_lot_41 : decode me_M_lot.2.1 41 = .ok (.iaload, 1) := by decide +kernel
theorem d_M_lot_42 : decode me_M_lot.2.1 42 = .ok (.iload_n 1, 1) := by decide +kernel
theorem d_M_lot_43 : decode me_M_lot.2.1 43 = .ok (.if_icmp .ne (9), 3) := by decide +kernel
theorem d_M_lot_46 : decode me_M_lot.2.1 46 = .ok (.iload_n 3, 1) := by decide +kernel
theorem d_M_lot_47 : decode me_M_lot.2.1 47 = .ok (.iconst 1, 1) := by decide +kernel
theorem d_M_lot_48 : decode me_M_lot.2.1 48 = .ok (.iadd, 1) := by decide +kernel
theorem d_M_lot_49 : decode me_M_lot.2.1 49 = .ok (.goto (4), 3) := by decide +kernel
theorem d_M_lot_52 : decode me_M_lot.2.1 52 = .ok (.iload_n 3, 1) := by decide +kernel
theorem d_M_lot_53 : decode me_M_lot.2.1 53 = .ok (.istore_n 3, 1) := by decide +kernel
theorem d_M_lot_54 : decode me_M_lot.2.1 54 = .ok (.iinc 4 (1), 3) := by decide +kernel
theorem d_M_lot_57 : decode me_M_lot.2.1 57 = .ok (.goto (-31), 3) := by decide +kernel
theorem d_M_lot_60 : decode me_M_lot.2.1 60 = .ok (.iload_n 2, 1) := by decide +kernel
theorem d_M_lot_61 : decode me_M_lot.2.1 61 = .ok (.tableswitch (73) (0) (4) #[(35), (42), (49), (55), (71)], 35) := by decide +kernel
theorem d_M_lot_96 : decode me_M_lot.2.1 96 = .ok (.aload_n 0, 1) := by decide +kernel
theorem d_M_lot_97 : decode me_M_lot.2.1 97 = .ok (.getfield 92, 3) := by decide +kernel
theorem g_M_lot_97 : bm_gf me_M_lot 97 11 33 := ⟨_, _, _, _, d_M_lot_97, rfl, by decide, uw_M, fl_M_92⟩
theorem d_M_lot_100 : decode me_M_lot.2.1 100 = .ok (.iload_n 1, 1) := by decide +kernel
theorem d_M_lot_101 : decode me_M_lot.2.1 101 = .ok (.iaload, 1) := by decide +kernel
theorem d_M_lot_102 : decode me_M_lot.2.1 102 = .ok (.ireturn, 1) := by decide +kernel
theorem d_M_lot_103 : decode me_M_lot.2.1 103 = .ok (.aload_n 0, 1) := by decide +kernel
theorem d_M_lot_104 : decode me_M_lot.2.1 104 = .ok (.getfield 95, 3) := by decide +kernel
theorem g_M_lot_104 : bm_gf me_M_lot 104 11 34 := ⟨_, _, _, _, d_M_lot_104, rfl, by decide, uw_M, fl_M_95⟩
theorem d_M_lot_107 : decode me_M_lot.2.1 107 = .ok (.iload_n 1, 1) := by decide +kernel
theorem d_M_lot_108 : decode me_M_lot.2.1 108 = .ok (.iaload, 1) := by decide +kernel
theorem d_M_lot_109 : decode me_M_lot.2.1 109 = .ok (.ireturn, 1) := by decide +kernel
theorem d_M_lot_110 : decode me_M_lot.2.1 110 = .ok (.aload_n 0, 1) := by decide +kernel
theorem d_M_lot_111 : decode me_M_lot.2.1 111 = .ok (.iload_n 1, 1) := by decide +kernel
theorem d_M_lot_112 : decode me_M_lot.2.1 112 = .ok (.invokevirtual 284, 3) := by decide +kernel
theorem c_M_lot_112 : bm_iv me_M_lot me_M_amount 112 11 1 := ⟨_, d_M_lot_112, Or.inl ml_M_284, ⟨kc_M_amount, in_BatchHallModel, by decide +kernel, by decide, by decide⟩, ki_M_amount, ks_M_amount, _, _, rfl⟩
theorem d_M_lot_115 : decode me_M_lot.2.1 115 = .ok (.ireturn, 1) := by decide +kernel
theorem d_M_lot_116 : decode me_M_lot.2.1 116 = .ok (.aload_n 0, 1) := by decide +kernel
theorem d_M_lot_117 : decode me_M_lot.2.1 117 = .ok (.getfield 98, 3) := by decide +kernel
theorem g_M_lot_117 : bm_gf me_M_lot 117 11 35 := ⟨_, _, _, _, d_M_lot_117, rfl, by decide, uw_M, fl_M_98⟩
theorem d_M_lot_120 : decode me_M_lot.2.1 120 = .ok (.iload_n 1, 1) := by decide +kernel
theorem d_M_lot_121 : decode me_M_lot.2.1 121 = .ok (.iconst 1, 1) := by decide +kernel
theorem d_M_lot_122 : decode me_M_lot.2.1 122 = .ok (.iadd, 1) := by decide +kernel
theorem d_M_lot_123 : decode me_M_lot.2.1 123 = .ok (.iaload, 1) := by decide +kernel
theorem d_M_lot_124 : decode me_M_lot.2.1 124 = .ok (.aload_n 0, 1) := by decide +kernel
theorem d_M_lot_125 : decode me_M_lot.2.1 125 = .ok (.getfield 98, 3) := by decide +kernel
theorem g_M_lot_125 : bm_gf me_M_lot 125 11 35 := ⟨_, _, _, _, d_M_lot_125, rfl, by decide, uw_M, fl_M_98⟩
theorem d_M_lot_128 : decode me_M_lot.2.1 128 = .ok (.iload_n 1, 1) := by decide +kernel
theorem d_M_lot_129 : decode me_M_lot.2.1 129 = .ok (.iaload, 1) := by decide +kernel
theorem d_M_lot_130 : decode me_M_lot.2.1 130 = .ok (.isub, 1) := by decide +kernel
theorem d_M_lot_131 : decode me_M_lot.2.1 131 = .ok (.ireturn, 1) := by decide +kernel
theorem d_M_lot_132 : decode me_M_lot.2.1 132 = .ok (.iload_n 3, 1) := by decide +kernel
theorem d_M_lot_133 : decode me_M_lot.2.1 133 = .ok (.ireturn, 1) := by decide +kernel
theorem d_M_lot_134 : decode me_M_lot.2.1 134 = .ok (.iconst (-1), 1) := by decide +kernel
theorem d_M_lot_135 : decode me_M_lot.2.1 135 = .ok (.ireturn, 1) := by decide +kernel
theorem d_M_amount_0 : decode me_M_amount.2.1 0 = .ok (.iconst 0, 1) := by decide +kernel
theorem d_M_amount_1 : decode me_M_amount.2.1 1 = .ok (.istore_n 2, 1) := by decide +kernel
theorem d_M_amount_2 : decode me_M_amount.2.1 2 = .ok (.iconst 0, 1) := by decide +kernel
theorem d_M_amount_3 : decode me_M_amount.2.1 3 = .ok (.istore_n 3, 1) := by decide +kernel
theorem d_M_amount_4 : decode me_M_amount.2.1 4 = .ok (.iload_n 3, 1) := by decide +kernel
theorem d_M_amount_5 : decode me_M_amount.2.1 5 = .ok (.bipush (6), 2) := by decide +kernel
theorem d_M_amount_7 : decode me_M_amount.2.1 7 = .ok (.if_icmp .ge (64), 3) := by decide +kernel
theorem d_M_amount_10 : decode me_M_amount.2.1 10 = .ok (.iconst 0, 1) := by decide +kernel
theorem d_M_amount_11 : decode me_M_amount.2.1 11 = .ok (.istore 4, 2) := by decide +kernel
theorem d_M_amount_13 : decode me_M_amount.2.1 13 = .ok (.iload 4, 2) := by decide +kernel
theorem d_M_amount_15 : decode me_M_amount.2.1 15 = .ok (.aload_n 0, 1) := by decide +kernel
theorem d_M_amount_16 : decode me_M_amount.2.1 16 = .ok (.getfield 16, 3) := by decide +kernel
theorem g_M_amount_16 : bm_gf me_M_amount 16 11 3 := ⟨_, _, _, _, d_M_amount_16, rfl, by decide, uw_M, fl_M_16⟩
theorem d_M_amount_19 : decode me_M_amount.2.1 19 = .ok (.iload_n 3, 1) := by decide +kernel
theorem d_M_amount_20 : decode me_M_amount.2.1 20 = .ok (.iaload, 1) := by decide +kernel
theorem d_M_amount_21 : decode me_M_amount.2.1 21 = .ok (.if_icmp .ge (44), 3) := by decide +kernel
theorem d_M_amount_24 : decode me_M_amount.2.1 24 = .ok (.aload_n 0, 1) := by decide +kernel
theorem d_M_amount_25 : decode me_M_amount.2.1 25 = .ok (.getfield 19, 3) := by decide +kernel
theorem g_M_amount_25 : bm_gf me_M_amount 25 11 4 := ⟨_, _, _, _, d_M_amount_25, rfl, by decide, uw_M, fl_M_19⟩
theorem d_M_amount_28 : decode me_M_amount.2.1 28 = .ok (.bipush (100), 2) := by decide +kernel
theorem d_M_amount_30 : decode me_M_amount.2.1 30 = .ok (.iload_n 3, 1) := by decide +kernel
theorem d_M_amount_31 : decode me_M_amount.2.1 31 = .ok (.imul, 1) := by decide +kernel
theorem d_M_amount_32 : decode me_M_amount.2.1 32 = .ok (.iload 4, 2) := by decide +kernel
theorem d_M_amount_34 : decode me_M_amount.2.1 34 = .ok (.iadd, 1) := by decide +kernel
theorem d_M_amount_35 : decode me_M_amount.2.1 35 = .ok (.iaload, 1) := by decide +kernel
theorem d_M_amount_36 : decode me_M_amount.2.1 36 = .ok (.iload_n 1, 1) := by decide +kernel
theorem d_M_amount_37 : decode me_M_amount.2.1 37 = .ok (.if_icmp .ne (20), 3) := by decide +kernel
theorem d_M_amount_40 : decode me_M_amount.2.1 40 = .ok (.iload_n 2, 1) := by decide +kernel
theorem d_M_amount_41 : decode me_M_amount.2.1 41 = .ok (.aload_n 0, 1) := by decide +kernel
theorem d_M_amount_42 : decode me_M_amount.2.1 42 = .ok (.getfield 22, 3) := by decide +kernel
theorem g_M_amount_42 : bm_gf me_M_amount 42 11 5 := ⟨_, _, _, _, d_M_amount_42, rfl, by decide, uw_M, fl_M_22⟩
theorem d_M_amount_45 : decode me_M_amount.2.1 45 = .ok (.bipush (100), 2) := by decide +kernel
theorem d_M_amount_47 : decode me_M_amount.2.1 47 = .ok (.iload_n 3, 1) := by decide +kernel
theorem d_M_amount_48 : decode me_M_amount.2.1 48 = .ok (.imul, 1) := by decide +kernel
theorem d_M_amount_49 : decode me_M_amount.2.1 49 = .ok (.iload 4, 2) := by decide +kernel
theorem d_M_amount_51 : decode me_M_amount.2.1 51 = .ok (.iadd, 1) := by decide +kernel
theorem d_M_amount_52 : decode me_M_amount.2.1 52 = .ok (.iaload, 1) := by decide +kernel
theorem d_M_amount_53 : decode me_M_amount.2.1 53 = .ok (.iadd, 1) := by decide +kernel
theorem d_M_amount_54 : decode me_M_amount.2.1 54 = .ok (.goto (4), 3) := by decide +kernel
theorem d_M_amount_57 : decode me_M_amount.2.1 57 = .ok (.iload_n 2, 1) := by decide +kernel
theorem d_M_amount_58 : decode me_M_amount.2.1 58 = .ok (.istore_n 2, 1) := by decide +kernel
theorem d_M_amount_59 : decode me_M_amount.2.1 59 = .ok (.iinc 4 (1), 3) := by decide +kernel
theorem d_M_amount_62 : decode me_M_amount.2.1 62 = .ok (.goto (-49), 3) := by decide +kernel
theorem d_M_amount_65 : decode me_M_amount.2.1 65 = .ok (.iinc 3 (1), 3) := by decide +kernel
theorem d_M_amount_68 : decode me_M_amount.2.1 68 = .ok (.goto (-64), 3) := by decide +kernel
theorem d_M_amount_71 : decode me_M_amount.2.1 71 = .ok (.iload_n 2, 1) := by decide +kernel
theorem d_M_amount_72 : decode me_M_amount.2.1 72 = .ok (.ireturn, 1) := by decide +kernel
theorem d_M_from_0 : decode me_M_from.2.1 0 = .ok (.aload_n 0, 1) := by decide +kernel
theorem d_M_from_1 : decode me_M_from.2.1 1 = .ok (.iconst 0, 1) := by decide +kernel
theorem d_M_from_2 : decode me_M_from.2.1 2 = .ok (.putfield 137, 3) := by decide +kernel
theorem p_M_from_2 : bm_pf me_M_from 2 11 0 .int := ⟨_, _, _, _, ty_M, d_M_from_2, rfl, by decide, uw_M, fl_M_137, tk_M, nm_M, rfl, Or.inl rfl⟩
theorem d_M_from_5 : decode me_M_from.2.1 5 = .ok (.iload_n 1, 1) := by decide +kernel
theorem d_M_from_6 : decode me_M_from.2.1 6 = .ok (.iconst 0, 1) := by decide +kernel
theorem d_M_from_7 : decode me_M_from.2.1 7 = .ok (.aload_n 0, 1) := by decide +kernel
theorem d_M_from_8 : decode me_M_from.2.1 8 = .ok (.getfield 200, 3) := by decide +kernel
theorem g_M_from_8 : bm_gf me_M_from 8 11 31 := ⟨_, _, _, _, d_M_from_8, rfl, by decide, uw_M, fl_M_200⟩
theorem d_M_from_11 : decode me_M_from.2.1 11 = .ok (.iconst 1, 1) := by decide +kernel
theorem d_M_from_12 : decode me_M_from.2.1 12 = .ok (.isub, 1) := by decide +kernel
theorem d_M_from_13 : decode me_M_from.2.1 13 = .ok (.invokestatic 141, 3) := by decide +kernel
theorem c_M_from_13 : bm_is me_M_from me_M_in 13 3 := ⟨_, d_M_from_13, Or.inl ml_M_141, ⟨kc_M_in, in_BatchHallModel, by decide +kernel, by decide, by decide⟩, kt_M_in⟩
theorem d_M_from_16 : decode me_M_from.2.1 16 = .ok (.ifCond .eq (37), 3) := by decide +kernel
theorem d_M_from_19 : decode me_M_from.2.1 19 = .ok (.iload_n 2, 1) := by decide +kernel
theorem d_M_from_20 : decode me_M_from.2.1 20 = .ok (.iconst 0, 1) := by decide +kernel
theorem d_M_from_21 : decode me_M_from.2.1 21 = .ok (.aload_n 0, 1) := by decide +kernel
theorem d_M_from_22 : decode me_M_from.2.1 22 = .ok (.getfield 98, 3) := by decide +kernel
theorem g_M_from_22 : bm_gf me_M_from 22 11 35 := ⟨_, _, _, _, d_M_from_22, rfl, by decide, uw_M, fl_M_98⟩
theorem d_M_from_25 : decode me_M_from.2.1 25 = .ok (.iload_n 1, 1) := by decide +kernel
theorem d_M_from_26 : decode me_M_from.2.1 26 = .ok (.iconst 1, 1) := by decide +kernel
theorem d_M_from_27 : decode me_M_from.2.1 27 = .ok (.iadd, 1) := by decide +kernel
theorem d_M_from_28 : decode me_M_from.2.1 28 = .ok (.iaload, 1) := by decide +kernel
theorem d_M_from_29 : decode me_M_from.2.1 29 = .ok (.aload_n 0, 1) := by decide +kernel
theorem d_M_from_30 : decode me_M_from.2.1 30 = .ok (.getfield 98, 3) := by decide +kernel
theorem g_M_from_30 : bm_gf me_M_from 30 11 35 := ⟨_, _, _, _, d_M_from_30, rfl, by decide, uw_M, fl_M_98⟩
theorem d_M_from_33 : decode me_M_from.2.1 33 = .ok (.iload_n 1, 1) := by decide +kernel
theorem d_M_from_34 : decode me_M_from.2.1 34 = .ok (.iaload, 1) := by decide +kernel
theorem d_M_from_35 : decode me_M_from.2.1 35 = .ok (.isub, 1) := by decide +kernel
theorem d_M_from_36 : decode me_M_from.2.1 36 = .ok (.iconst 1, 1) := by decide +kernel
theorem d_M_from_37 : decode me_M_from.2.1 37 = .ok (.isub, 1) := by decide +kernel
theorem d_M_from_38 : decode me_M_from.2.1 38 = .ok (.invokestatic 141, 3) := by decide +kernel
theorem c_M_from_38 : bm_is me_M_from me_M_in 38 3 := ⟨_, d_M_from_38, Or.inl ml_M_141, ⟨kc_M_in, in_BatchHallModel, by decide +kernel, by decide, by decide⟩, kt_M_in⟩
theorem d_M_from_41 : decode me_M_from.2.1 41 = .ok (.ifCond .eq (12), 3) := by decide +kernel
theorem d_M_from_44 : decode me_M_from.2.1 44 = .ok (.iload_n 3, 1) := by decide +kernel
theorem d_M_from_45 : decode me_M_from.2.1 45 = .ok (.iconst 0, 1) := by decide +kernel
theorem d_M_from_46 : decode me_M_from.2.1 46 = .ok (.iconst 1, 1) := by decide +kernel
theorem d_M_from_47 : decode me_M_from.2.1 47 = .ok (.invokestatic 141, 3) := by decide +kernel
theorem c_M_from_47 : bm_is me_M_from me_M_in 47 3 := ⟨_, d_M_from_47, Or.inl ml_M_141, ⟨kc_M_in, in_BatchHallModel, by decide +kernel, by decide, by decide⟩, kt_M_in⟩
theorem d_M_from_50 : decode me_M_from.2.1 50 = .ok (.ifCond .ne (5), 3) := by decide +kernel
theorem d_M_from_53 : decode me_M_from.2.1 53 = .ok (.iconst (-1), 1) := by decide +kernel
theorem d_M_from_54 : decode me_M_from.2.1 54 = .ok (.ireturn, 1) := by decide +kernel
theorem d_M_from_55 : decode me_M_from.2.1 55 = .ok (.iload_n 3, 1) := by decide +kernel
theorem d_M_from_56 : decode me_M_from.2.1 56 = .ok (.ifCond .ne (19), 3) := by decide +kernel
theorem d_M_from_59 : decode me_M_from.2.1 59 = .ok (.aload_n 0, 1) := by decide +kernel
theorem d_M_from_60 : decode me_M_from.2.1 60 = .ok (.getfield 101, 3) := by decide +kernel
theorem g_M_from_60 : bm_gf me_M_from 60 11 36 := ⟨_, _, _, _, d_M_from_60, rfl, by decide, uw_M, fl_M_101⟩
theorem d_M_from_63 : decode me_M_from.2.1 63 = .ok (.aload_n 0, 1) := by decide +kernel
theorem d_M_from_64 : decode me_M_from.2.1 64 = .ok (.getfield 98, 3) := by decide +kernel
theorem g_M_from_64 : bm_gf me_M_from 64 11 35 := ⟨_, _, _, _, d_M_from_64, rfl, by decide, uw_M, fl_M_98⟩
theorem d_M_from_67 : decode me_M_from.2.1 67 = .ok (.iload_n 1, 1) := by decide +kernel
theorem d_M_from_68 : decode me_M_from.2.1 68 = .ok (.iaload, 1) := by decide +kernel
theorem d_M_from_69 : decode me_M_from.2.1 69 = .ok (.iload_n 2, 1) := by decide +kernel
theorem d_M_from_70 : decode me_M_from.2.1 70 = .ok (.iadd, 1) := by decide +kernel
theorem d_M_from_71 : decode me_M_from.2.1 71 = .ok (.iaload, 1) := by decide +kernel
theorem d_M_from_72 : decode me_M_from.2.1 72 = .ok (.goto (16), 3) := by decide +kernel
theorem d_M_from_75 : decode me_M_from.2.1 75 = .ok (.aload_n 0, 1) := by decide +kernel
theorem d_M_from_76 : decode me_M_from.2.1 76 = .ok (.getfield 104, 3) := by decide +kernel
theorem g_M_from_76 : bm_gf me_M_from 76 11 37 := ⟨_, _, _, _, d_M_from_76, rfl, by decide, uw_M, fl_M_104⟩
theorem d_M_from_79 : decode me_M_from.2.1 79 = .ok (.aload_n 0, 1) := by decide +kernel
theorem d_M_from_80 : decode me_M_from.2.1 80 = .ok (.getfield 98, 3) := by decide +kernel
theorem g_M_from_80 : bm_gf me_M_from 80 11 35 := ⟨_, _, _, _, d_M_from_80, rfl, by decide, uw_M, fl_M_98⟩
theorem d_M_from_83 : decode me_M_from.2.1 83 = .ok (.iload_n 1, 1) := by decide +kernel
theorem d_M_from_84 : decode me_M_from.2.1 84 = .ok (.iaload, 1) := by decide +kernel
theorem d_M_from_85 : decode me_M_from.2.1 85 = .ok (.iload_n 2, 1) := by decide +kernel
theorem d_M_from_86 : decode me_M_from.2.1 86 = .ok (.iadd, 1) := by decide +kernel
theorem d_M_from_87 : decode me_M_from.2.1 87 = .ok (.iaload, 1) := by decide +kernel
theorem d_M_from_88 : decode me_M_from.2.1 88 = .ok (.ireturn, 1) := by decide +kernel
theorem d_M_trace_0 : decode me_M_trace.2.1 0 = .ok (.aload_n 0, 1) := by decide +kernel
theorem d_M_trace_1 : decode me_M_trace.2.1 1 = .ok (.iconst 0, 1) := by decide +kernel
theorem d_M_trace_2 : decode me_M_trace.2.1 2 = .ok (.putfield 137, 3) := by decide +kernel
theorem p_M_trace_2 : bm_pf me_M_trace 2 11 0 .int := ⟨_, _, _, _, ty_M, d_M_trace_2, rfl, by decide, uw_M, fl_M_137, tk_M, nm_M, rfl, Or.inl rfl⟩
theorem d_M_trace_5 : decode me_M_trace.2.1 5 = .ok (.iload_n 1, 1) := by decide +kernel
theorem d_M_trace_6 : decode me_M_trace.2.1 6 = .ok (.iconst 0, 1) := by decide +kernel
theorem d_M_trace_7 : decode me_M_trace.2.1 7 = .ok (.aload_n 0, 1) := by decide +kernel
theorem d_M_trace_8 : decode me_M_trace.2.1 8 = .ok (.getfield 200, 3) := by decide +kernel
theorem g_M_trace_8 : bm_gf me_M_trace 8 11 31 := ⟨_, _, _, _, d_M_trace_8, rfl, by decide, uw_M, fl_M_200⟩
theorem d_M_trace_11 : decode me_M_trace.2.1 11 = .ok (.iconst 1, 1) := by decide +kernel
theorem d_M_trace_12 : decode me_M_trace.2.1 12 = .ok (.isub, 1) := by decide +kernel
theorem d_M_trace_13 : decode me_M_trace.2.1 13 = .ok (.invokestatic 141, 3) := by decide +kernel
theorem c_M_trace_13 : bm_is me_M_trace me_M_in 13 3 := ⟨_, d_M_trace_13, Or.inl ml_M_141, ⟨kc_M_in, in_BatchHallModel, by decide +kernel, by decide, by decide⟩, kt_M_in⟩
theorem d_M_trace_16 : decode me_M_trace.2.1 16 = .ok (.ifCond .ne (5), 3) := by decide +kernel
theorem d_M_trace_19 : decode me_M_trace.2.1 19 = .ok (.iconst (-1), 1) := by decide +kernel
theorem d_M_trace_20 : decode me_M_trace.2.1 20 = .ok (.ireturn, 1) := by decide +kernel
theorem d_M_trace_21 : decode me_M_trace.2.1 21 = .ok (.aload_n 0, 1) := by decide +kernel
theorem d_M_trace_22 : decode me_M_trace.2.1 22 = .ok (.iload_n 1, 1) := by decide +kernel
theorem d_M_trace_23 : decode me_M_trace.2.1 23 = .ok (.iload_n 2, 1) := by decide +kernel
theorem d_M_trace_24 : decode me_M_trace.2.1 24 = .ok (.invokevirtual 287, 3) := by decide +kernel
theorem c_M_trace_24 : bm_iv me_M_trace me_M_mark 24 11 2 := ⟨_, d_M_trace_24, Or.inl ml_M_287, ⟨kc_M_mark, in_BatchHallModel, by decide +kernel, by decide, by decide⟩, ki_M_mark, ks_M_mark, _, _, rfl⟩
theorem d_M_trace_27 : decode me_M_trace.2.1 27 = .ok (.iconst 0, 1) := by decide +kernel
theorem d_M_trace_28 : decode me_M_trace.2.1 28 = .ok (.istore 4, 2) := by decide +kernel
theorem d_M_trace_30 : decode me_M_trace.2.1 30 = .ok (.iconst 0, 1) := by decide +kernel
theorem d_M_trace_31 : decode me_M_trace.2.1 31 = .ok (.istore 5, 2) := by decide +kernel
theorem d_M_trace_33 : decode me_M_trace.2.1 33 = .ok (.iload 5, 2) := by decide +kernel
theorem d_M_trace_35 : decode me_M_trace.2.1 35 = .ok (.aload_n 0, 1) := by decide +kernel
theorem d_M_trace_36 : decode me_M_trace.2.1 36 = .ok (.getfield 200, 3) := by decide +kernel
theorem g_M_trace_36 : bm_gf me_M_trace 36 11 31 := ⟨_, _, _, _, d_M_trace_36, rfl, by decide, uw_M, fl_M_200⟩
theorem d_M_trace_39 : decode me_M_trace.2.1 39 = .ok (.if_icmp .ge (37), 3) := by decide +kernel
theorem d_M_trace_42 : decode me_M_trace.2.1 42 = .ok (.iload 5, 2) := by decide +kernel
theorem d_M_trace_44 : decode me_M_trace.2.1 44 = .ok (.iload_n 1, 1) := by decide +kernel
theorem d_M_trace_45 : decode me_M_trace.2.1 45 = .ok (.if_icmp .eq (25), 3) := by decide +kernel
theorem d_M_trace_48 : decode me_M_trace.2.1 48 = .ok (.aload_n 0, 1) := by decide +kernel
theorem d_M_trace_49 : decode me_M_trace.2.1 49 = .ok (.getfield 113, 3) := by decide +kernel
theorem g_M_trace_49 : bm_gf me_M_trace 49 11 40 := ⟨_, _, _, _, d_M_trace_49, rfl, by decide, uw_M, fl_M_113⟩
theorem d_M_trace_52 : decode me_M_trace.2.1 52 = .ok (.iload 5, 2) := by decide +kernel
theorem d_M_trace_54 : decode me_M_trace.2.1 54 = .ok (.baload, 1) := by decide +kernel
theorem d_M_trace_55 : decode me_M_trace.2.1 55 = .ok (.ifCond .eq (15), 3) := by decide +kernel
theorem d_M_trace_58 : decode me_M_trace.2.1 58 = .ok (.iload 4, 2) := by decide +kernel
theorem d_M_trace_60 : decode me_M_trace.2.1 60 = .ok (.iload_n 3, 1) := by decide +kernel
theorem d_M_trace_61 : decode me_M_trace.2.1 61 = .ok (.if_icmp .ne (6), 3) := by decide +kernel
theorem d_M_trace_64 : decode me_M_trace.2.1 64 = .ok (.iload 5, 2) := by decide +kernel
theorem d_M_trace_66 : decode me_M_trace.2.1 66 = .ok (.ireturn, 1) := by decide +kernel
theorem d_M_trace_67 : decode me_M_trace.2.1 67 = .ok (.iinc 4 (1), 3) := by decide +kernel
theorem d_M_trace_70 : decode me_M_trace.2.1 70 = .ok (.iinc 5 (1), 3) := by decide +kernel
theorem d_M_trace_73 : decode me_M_trace.2.1 73 = .ok (.goto (-40), 3) := by decide +kernel
theorem d_M_trace_76 : decode me_M_trace.2.1 76 = .ok (.iconst (-1), 1) := by decide +kernel
theorem d_M_trace_77 : decode me_M_trace.2.1 77 = .ok (.ireturn, 1) := by decide +kernel
theorem d_M_mark_0 : decode me_M_mark.2.1 0 = .ok (.iconst 0, 1) := by decide +kernel
theorem d_M_mark_1 : decode me_M_mark.2.1 1 = .ok (.istore_n 3, 1) := by decide +kernel
theorem d_M_mark_2 : decode me_M_mark.2.1 2 = .ok (.iload_n 3, 1) := by decide +kernel
theorem d_M_mark_3 : decode me_M_mark.2.1 3 = .ok (.aload_n 0, 1) := by decide +kernel
theorem d_M_mark_4 : decode me_M_mark.2.1 4 = .ok (.getfield 200, 3) := by decide +kernel
theorem g_M_mark_4 : bm_gf me_M_mark 4 11 31 := ⟨_, _, _, _, d_M_mark_4, rfl, by decide, uw_M, fl_M_200⟩
theorem d_M_mark_7 : decode me_M_mark.2.1 7 = .ok (.if_icmp .ge (25), 3) := by decide +kernel
theorem d_M_mark_10 : decode me_M_mark.2.1 10 = .ok (.aload_n 0, 1) := by decide +kernel
theorem d_M_mark_11 : decode me_M_mark.2.1 11 = .ok (.getfield 113, 3) := by decide +kernel
theorem g_M_mark_11 : bm_gf me_M_mark 11 11 40 := ⟨_, _, _, _, d_M_mark_11, rfl, by decide, uw_M, fl_M_113⟩
theorem d_M_mark_14 : decode me_M_mark.2.1 14 = .ok (.iload_n 3, 1) := by decide +kernel
theorem d_M_mark_15 : decode me_M_mark.2.1 15 = .ok (.iload_n 3, 1) := by decide +kernel
theorem d_M_mark_16 : decode me_M_mark.2.1 16 = .ok (.iload_n 1, 1) := by decide +kernel
theorem d_M_mark_17 : decode me_M_mark.2.1 17 = .ok (.if_icmp .ne (7), 3) := by decide +kernel
theorem d_M_mark_20 : decode me_M_mark.2.1 20 = .ok (.iconst 1, 1) := by decide +kernel
theorem d_M_mark_21 : decode me_M_mark.2.1 21 = .ok (.goto (4), 3) := by decide +kernel
theorem d_M_mark_24 : decode me_M_mark.2.1 24 = .ok (.iconst 0, 1) := by decide +kernel
theorem d_M_mark_25 : decode me_M_mark.2.1 25 = .ok (.bastore, 1) := by decide +kernel
theorem d_M_mark_26 : decode me_M_mark.2.1 26 = .ok (.iinc 3 (1), 3) := by decide +kernel
theorem d_M_mark_29 : decode me_M_mark.2.1 29 = .ok (.goto (-27), 3) := by decide +kernel
theorem d_M_mark_32 : decode me_M_mark.2.1 32 = .ok (.iconst 1, 1) := by decide +kernel
theorem d_M_mark_33 : decode me_M_mark.2.1 33 = .ok (.istore_n 3, 1) := by decide +kernel
theorem d_M_mark_34 : decode me_M_mark.2.1 34 = .ok (.iload_n 3, 1) := by decide +kernel
theorem d_M_mark_35 : decode me_M_mark.2.1 35 = .ok (.ifCond .eq (153), 3) := by decide +kernel
theorem d_M_mark_38 : decode me_M_mark.2.1 38 = .ok (.iconst 0, 1) := by decide +kernel
theorem d_M_mark_39 : decode me_M_mark.2.1 39 = .ok (.istore_n 3, 1) := by decide +kernel
theorem d_M_mark_40 : decode me_M_mark.2.1 40 = .ok (.iconst 0, 1) := by decide +kernel
theorem d_M_mark_41 : decode me_M_mark.2.1 41 = .ok (.istore 4, 2) := by decide +kernel
theorem d_M_mark_43 : decode me_M_mark.2.1 43 = .ok (.iload 4, 2) := by decide +kernel
theorem d_M_mark_45 : decode me_M_mark.2.1 45 = .ok (.aload_n 0, 1) := by decide +kernel
theorem d_M_mark_46 : decode me_M_mark.2.1 46 = .ok (.getfield 200, 3) := by decide +kernel
theorem g_M_mark_46 : bm_gf me_M_mark 46 11 31 := ⟨_, _, _, _, d_M_mark_46, rfl, by decide, uw_M, fl_M_200⟩
theorem d_M_mark_49 : decode me_M_mark.2.1 49 = .ok (.if_icmp .ge (136), 3) := by decide +kernel
theorem d_M_mark_52 : decode me_M_mark.2.1 52 = .ok (.aload_n 0, 1) := by decide +kernel
theorem d_M_mark_53 : decode me_M_mark.2.1 53 = .ok (.getfield 98, 3) := by decide +kernel
theorem g_M_mark_53 : bm_gf me_M_mark 53 11 35 := ⟨_, _, _, _, d_M_mark_53, rfl, by decide, uw_M, fl_M_98⟩
theorem d_M_mark_56 : decode me_M_mark.2.1 56 = .ok (.iload 4, 2) := by decide +kernel
theorem d_M_mark_58 : decode me_M_mark.2.1 58 = .ok (.iaload, 1) := by decide +kernel
theorem d_M_mark_59 : decode me_M_mark.2.1 59 = .ok (.istore 5, 2) := by decide +kernel
theorem d_M_mark_61 : decode me_M_mark.2.1 61 = .ok (.iload 5, 2) := by decide +kernel
theorem d_M_mark_63 : decode me_M_mark.2.1 63 = .ok (.aload_n 0, 1) := by decide +kernel
theorem d_M_mark_64 : decode me_M_mark.2.1 64 = .ok (.getfield 98, 3) := by decide +kernel
theorem g_M_mark_64 : bm_gf me_M_mark 64 11 35 := ⟨_, _, _, _, d_M_mark_64, rfl, by decide, uw_M, fl_M_98⟩
theorem d_M_mark_67 : decode me_M_mark.2.1 67 = .ok (.iload 4, 2) := by decide +kernel
theorem d_M_mark_69 : decode me_M_mark.2.1 69 = .ok (.iconst 1, 1) := by decide +kernel
theorem d_M_mark_70 : decode me_M_mark.2.1 70 = .ok (.iadd, 1) := by decide +kernel
theorem d_M_mark_71 : decode me_M_mark.2.1 71 = .ok (.iaload, 1) := by decide +kernel
theorem d_M_mark_72 : decode me_M_mark.2.1 72 = .ok (.if_icmp .ge (107), 3) := by decide +kernel
theorem d_M_mark_75 : decode me_M_mark.2.1 75 = .ok (.iload_n 2, 1) := by decide +kernel
theorem d_M_mark_76 : decode me_M_mark.2.1 76 = .ok (.ifCond .eq (13), 3) := by decide +kernel
theorem d_M_mark_79 : decode me_M_mark.2.1 79 = .ok (.aload_n 0, 1) := by decide +kernel
theorem d_M_mark_80 : decode me_M_mark.2.1 80 = .ok (.getfield 101, 3) := by decide +kernel
theorem g_M_mark_80 : bm_gf me_M_mark 80 11 36 := ⟨_, _, _, _, d_M_mark_80, rfl, by decide, uw_M, fl_M_101⟩
theorem d_M_mark_83 : decode me_M_mark.2.1 83 = .ok (.iload 5, 2) := by decide +kernel
theorem d_M_mark_85 : decode me_M_mark.2.1 85 = .ok (.iaload, 1) := by decide +kernel
theorem d_M_mark_86 : decode me_M_mark.2.1 86 = .ok (.goto (5), 3) := by decide +kernel
theorem d_M_mark_89 : decode me_M_mark.2.1 89 = .ok (.iload 4, 2) := by decide +kernel
theorem d_M_mark_91 : decode me_M_mark.2.1 91 = .ok (.istore 6, 2) := by decide +kernel
theorem d_M_mark_93 : decode me_M_mark.2.1 93 = .ok (.iload_n 2, 1) := by decide +kernel
theorem d_M_mark_94 : decode me_M_mark.2.1 94 = .ok (.ifCond .eq (8), 3) := by decide +kernel
theorem d_M_mark_97 : decode me_M_mark.2.1 97 = .ok (.iload 4, 2) := by decide +kernel
theorem d_M_mark_99 : decode me_M_mark.2.1 99 = .ok (.goto (10), 3) := by decide +kernel
theorem d_M_mark_102 : decode me_M_mark.2.1 102 = .ok (.aload_n 0, 1) := by decide +kernel
theorem d_M_mark_103 : decode me_M_mark.2.1 103 = .ok (.getfield 101, 3) := by decide +kernel
theorem g_M_mark_103 : bm_gf me_M_mark 103 11 36 := ⟨_, _, _, _, d_M_mark_103, rfl, by decide, uw_M, fl_M_101⟩
theorem d_M_mark_106 : decode me_M_mark.2.1 106 = .ok (.iload 5, 2) := by decide +kernel
theorem d_M_mark_108 : decode me_M_mark.2.1 108 = .ok (.iaload, 1) := by decide +kernel
theorem d_M_mark_109 : decode me_M_mark.2.1 109 = .ok (.istore 7, 2) := by decide +kernel
theorem d_M_mark_111 : decode me_M_mark.2.1 111 = .ok (.iload_n 3, 1) := by decide +kernel
theorem d_M_mark_112 : decode me_M_mark.2.1 112 = .ok (.ifCond .ne (23), 3) := by decide +kernel
theorem d_M_mark_115 : decode me_M_mark.2.1 115 = .ok (.aload_n 0, 1) := by decide +kernel
theorem d_M_mark_116 : decode me_M_mark.2.1 116 = .ok (.getfield 113, 3) := by decide +kernel
theorem g_M_mark_116 : bm_gf me_M_mark 116 11 40 := ⟨_, _, _, _, d_M_mark_116, rfl, by decide, uw_M, fl_M_113⟩
theorem d_M_mark_119 : decode me_M_mark.2.1 119 = .ok (.iload 6, 2) := by decide +kernel
theorem d_M_mark_121 : decode me_M_mark.2.1 121 = .ok (.baload, 1) := by decide +kernel
theorem d_M_mark_122 : decode me_M_mark.2.1 122 = .ok (.ifCond .eq (17), 3) := by decide +kernel
theorem d_M_mark_125 : decode me_M_mark.2.1 125 = .ok (.aload_n 0, 1) := by decide +kernel
theorem d_M_mark_126 : decode me_M_mark.2.1 126 = .ok (.getfield 113, 3) := by decide +kernel
theorem g_M_mark_126 : bm_gf me_M_mark 126 11 40 := ⟨_, _, _, _, d_M_mark_126, rfl, by decide, uw_M, fl_M_113⟩
theorem d_M_mark_129 : decode me_M_mark.2.1 129 = .ok (.iload 7, 2) := by decide +kernel
theorem d_M_mark_131 : decode me_M_mark.2.1 131 = .ok (.baload, 1) := by decide +kernel
theorem d_M_mark_132 : decode me_M_mark.2.1 132 = .ok (.ifCond .ne (7), 3) := by decide +kernel
theorem d_M_mark_135 : decode me_M_mark.2.1 135 = .ok (.iconst 1, 1) := by decide +kernel
theorem d_M_mark_136 : decode me_M_mark.2.1 136 = .ok (.goto (4), 3) := by decide +kernel
theorem d_M_mark_139 : decode me_M_mark.2.1 139 = .ok (.iconst 0, 1) := by decide +kernel
theorem d_M_mark_140 : decode me_M_mark.2.1 140 = .ok (.istore_n 3, 1) := by decide +kernel
theorem d_M_mark_141 : decode me_M_mark.2.1 141 = .ok (.aload_n 0, 1) := by decide +kernel
theorem d_M_mark_142 : decode me_M_mark.2.1 142 = .ok (.getfield 113, 3) := by decide +kernel
theorem g_M_mark_142 : bm_gf me_M_mark 142 11 40 := ⟨_, _, _, _, d_M_mark_142, rfl, by decide, uw_M, fl_M_113⟩
theorem d_M_mark_145 : decode me_M_mark.2.1 145 = .ok (.iload 7, 2) := by decide +kernel
theorem d_M_mark_147 : decode me_M_mark.2.1 147 = .ok (.aload_n 0, 1) := by decide +kernel
theorem d_M_mark_148 : decode me_M_mark.2.1 148 = .ok (.getfield 113, 3) := by decide +kernel
theorem g_M_mark_148 : bm_gf me_M_mark 148 11 40 := ⟨_, _, _, _, d_M_mark_148, rfl, by decide, uw_M, fl_M_113⟩
theorem d_M_mark_151 : decode me_M_mark.2.1 151 = .ok (.iload 7, 2) := by decide +kernel
theorem d_M_mark_153 : decode me_M_mark.2.1 153 = .ok (.baload, 1) := by decide +kernel
theorem d_M_mark_154 : decode me_M_mark.2.1 154 = .ok (.ifCond .ne (13), 3) := by decide +kernel
theorem d_M_mark_157 : decode me_M_mark.2.1 157 = .ok (.aload_n 0, 1) := by decide +kernel
theorem d_M_mark_158 : decode me_M_mark.2.1 158 = .ok (.getfield 113, 3) := by decide +kernel
theorem g_M_mark_158 : bm_gf me_M_mark 158 11 40 := ⟨_, _, _, _, d_M_mark_158, rfl, by decide, uw_M, fl_M_113⟩
theorem d_M_mark_161 : decode me_M_mark.2.1 161 = .ok (.iload 6, 2) := by decide +kernel
theorem d_M_mark_163 : decode me_M_mark.2.1 163 = .ok (.baload, 1) := by decide +kernel
theorem d_M_mark_164 : decode me_M_mark.2.1 164 = .ok (.ifCond .eq (7), 3) := by decide +kernel
theorem d_M_mark_167 : decode me_M_mark.2.1 167 = .ok (.iconst 1, 1) := by decide +kernel
theorem d_M_mark_168 : decode me_M_mark.2.1 168 = .ok (.goto (4), 3) := by decide +kernel
theorem d_M_mark_171 : decode me_M_mark.2.1 171 = .ok (.iconst 0, 1) := by decide +kernel
theorem d_M_mark_172 : decode me_M_mark.2.1 172 = .ok (.bastore, 1) := by decide +kernel
theorem d_M_mark_173 : decode me_M_mark.2.1 173 = .ok (.iinc 5 (1), 3) := by decide +kernel
theorem d_M_mark_176 : decode me_M_mark.2.1 176 = .ok (.goto (-115), 3) := by decide +kernel
theorem d_M_mark_179 : decode me_M_mark.2.1 179 = .ok (.iinc 4 (1), 3) := by decide +kernel
theorem d_M_mark_182 : decode me_M_mark.2.1 182 = .ok (.goto (-139), 3) := by decide +kernel
theorem d_M_mark_185 : decode me_M_mark.2.1 185 = .ok (.goto (-151), 3) := by decide +kernel
theorem d_M_mark_188 : decode me_M_mark.2.1 188 = .ok (.return_, 1) := by decide +kernel
theorem d_M_lots_0 : decode me_M_lots.2.1 0 = .ok (.aload_n 0, 1) := by decide +kernel
theorem d_M_lots_1 : decode me_M_lots.2.1 1 = .ok (.iconst 0, 1) := by decide +kernel
theorem d_M_lots_2 : decode me_M_lots.2.1 2 = .ok (.putfield 137, 3) := by decide +kernel
theorem p_M_lots_2 : bm_pf me_M_lots 2 11 0 .int := ⟨_, _, _, _, ty_M, d_M_lots_2, rfl, by decide, uw_M, fl_M_137, tk_M, nm_M, rfl, Or.inl rfl⟩
theorem d_M_lots_5 : decode me_M_lots.2.1 5 = .ok (.aload_n 0, 1) := by decide +kernel
theorem d_M_lots_6 : decode me_M_lots.2.1 6 = .ok (.getfield 200, 3) := by decide +kernel
theorem g_M_lots_6 : bm_gf me_M_lots 6 11 31 := ⟨_, _, _, _, d_M_lots_6, rfl, by decide, uw_M, fl_M_200⟩
theorem d_M_lots_9 : decode me_M_lots.2.1 9 = .ok (.ireturn, 1) := by decide +kernel
