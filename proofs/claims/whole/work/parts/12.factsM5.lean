theorem d_M_way_0 : decode me_M_way.2.1 0 = .ok (.iload_n 2, 1) := by decide +kernel
theorem d_M_way_1 : decode me_M_way.2.1 1 = .ok (.bipush (12), 2) := by decide +kernel
theorem d_M_way_3 : decode me_M_way.2.1 3 = .ok (.aload_n 0, 1) := by decide +kernel
theorem d_M_way_4 : decode me_M_way.2.1 4 = .ok (.getfield 53, 3) := by decide +kernel
theorem g_M_way_4 : bm_gf me_M_way 4 11 16 := ⟨_, _, _, _, d_M_way_4, rfl, by decide, uw_M, fl_M_53⟩
theorem d_M_way_7 : decode me_M_way.2.1 7 = .ok (.iload_n 1, 1) := by decide +kernel
theorem d_M_way_8 : decode me_M_way.2.1 8 = .ok (.iaload, 1) := by decide +kernel
theorem d_M_way_9 : decode me_M_way.2.1 9 = .ok (.imul, 1) := by decide +kernel
theorem d_M_way_10 : decode me_M_way.2.1 10 = .ok (.isub, 1) := by decide +kernel
theorem d_M_way_11 : decode me_M_way.2.1 11 = .ok (.istore_n 3, 1) := by decide +kernel
theorem d_M_way_12 : decode me_M_way.2.1 12 = .ok (.aload_n 0, 1) := by decide +kernel
theorem d_M_way_13 : decode me_M_way.2.1 13 = .ok (.getfield 35, 3) := by decide +kernel
theorem g_M_way_13 : bm_gf me_M_way 13 11 9 := ⟨_, _, _, _, d_M_way_13, rfl, by decide, uw_M, fl_M_35⟩
theorem d_M_way_16 : decode me_M_way.2.1 16 = .ok (.iload_n 2, 1) := by decide +kernel
theorem d_M_way_17 : decode me_M_way.2.1 17 = .ok (.iaload, 1) := by decide +kernel
theorem d_M_way_18 : decode me_M_way.2.1 18 = .ok (.bipush (7), 2) := by decide +kernel
theorem d_M_way_20 : decode me_M_way.2.1 20 = .ok (.if_icmp .ne (43), 3) := by decide +kernel
theorem d_M_way_23 : decode me_M_way.2.1 23 = .ok (.aload_n 0, 1) := by decide +kernel
theorem d_M_way_24 : decode me_M_way.2.1 24 = .ok (.getfield 65, 3) := by decide +kernel
theorem g_M_way_24 : bm_gf me_M_way 24 11 20 := ⟨_, _, _, _, d_M_way_24, rfl, by decide, uw_M, fl_M_65⟩
theorem d_M_way_27 : decode me_M_way.2.1 27 = .ok (.iconst 4, 1) := by decide +kernel
theorem d_M_way_28 : decode me_M_way.2.1 28 = .ok (.iload_n 1, 1) := by decide +kernel
theorem d_M_way_29 : decode me_M_way.2.1 29 = .ok (.imul, 1) := by decide +kernel
theorem d_M_way_30 : decode me_M_way.2.1 30 = .ok (.aload_n 0, 1) := by decide +kernel
theorem d_M_way_31 : decode me_M_way.2.1 31 = .ok (.getfield 38, 3) := by decide +kernel
theorem g_M_way_31 : bm_gf me_M_way 31 11 10 := ⟨_, _, _, _, d_M_way_31, rfl, by decide, uw_M, fl_M_38⟩
theorem d_M_way_34 : decode me_M_way.2.1 34 = .ok (.iload_n 2, 1) := by decide +kernel
theorem d_M_way_35 : decode me_M_way.2.1 35 = .ok (.iaload, 1) := by decide +kernel
theorem d_M_way_36 : decode me_M_way.2.1 36 = .ok (.iadd, 1) := by decide +kernel
theorem d_M_way_37 : decode me_M_way.2.1 37 = .ok (.iaload, 1) := by decide +kernel
theorem d_M_way_38 : decode me_M_way.2.1 38 = .ok (.aload_n 0, 1) := by decide +kernel
theorem d_M_way_39 : decode me_M_way.2.1 39 = .ok (.getfield 41, 3) := by decide +kernel
theorem g_M_way_39 : bm_gf me_M_way 39 11 11 := ⟨_, _, _, _, d_M_way_39, rfl, by decide, uw_M, fl_M_41⟩
theorem d_M_way_42 : decode me_M_way.2.1 42 = .ok (.iload_n 2, 1) := by decide +kernel
theorem d_M_way_43 : decode me_M_way.2.1 43 = .ok (.iaload, 1) := by decide +kernel
theorem d_M_way_44 : decode me_M_way.2.1 44 = .ok (.if_icmp .ge (12), 3) := by decide +kernel
theorem d_M_way_47 : decode me_M_way.2.1 47 = .ok (.aload_n 0, 1) := by decide +kernel
theorem d_M_way_48 : decode me_M_way.2.1 48 = .ok (.getfield 47, 3) := by decide +kernel
theorem g_M_way_48 : bm_gf me_M_way 48 11 13 := ⟨_, _, _, _, d_M_way_48, rfl, by decide, uw_M, fl_M_47⟩
theorem d_M_way_51 : decode me_M_way.2.1 51 = .ok (.iload_n 2, 1) := by decide +kernel
theorem d_M_way_52 : decode me_M_way.2.1 52 = .ok (.iaload, 1) := by decide +kernel
theorem d_M_way_53 : decode me_M_way.2.1 53 = .ok (.goto (9), 3) := by decide +kernel
theorem d_M_way_56 : decode me_M_way.2.1 56 = .ok (.aload_n 0, 1) := by decide +kernel
theorem d_M_way_57 : decode me_M_way.2.1 57 = .ok (.getfield 50, 3) := by decide +kernel
theorem g_M_way_57 : bm_gf me_M_way 57 11 14 := ⟨_, _, _, _, d_M_way_57, rfl, by decide, uw_M, fl_M_50⟩
theorem d_M_way_60 : decode me_M_way.2.1 60 = .ok (.iload_n 2, 1) := by decide +kernel
theorem d_M_way_61 : decode me_M_way.2.1 61 = .ok (.iaload, 1) := by decide +kernel
theorem d_M_way_62 : decode me_M_way.2.1 62 = .ok (.ireturn, 1) := by decide +kernel
theorem d_M_way_63 : decode me_M_way.2.1 63 = .ok (.aload_n 0, 1) := by decide +kernel
theorem d_M_way_64 : decode me_M_way.2.1 64 = .ok (.getfield 68, 3) := by decide +kernel
theorem g_M_way_64 : bm_gf me_M_way 64 11 21 := ⟨_, _, _, _, d_M_way_64, rfl, by decide, uw_M, fl_M_68⟩
theorem d_M_way_67 : decode me_M_way.2.1 67 = .ok (.bipush (12), 2) := by decide +kernel
theorem d_M_way_69 : decode me_M_way.2.1 69 = .ok (.iload_n 1, 1) := by decide +kernel
theorem d_M_way_70 : decode me_M_way.2.1 70 = .ok (.imul, 1) := by decide +kernel
theorem d_M_way_71 : decode me_M_way.2.1 71 = .ok (.iload_n 3, 1) := by decide +kernel
theorem d_M_way_72 : decode me_M_way.2.1 72 = .ok (.iadd, 1) := by decide +kernel
theorem d_M_way_73 : decode me_M_way.2.1 73 = .ok (.iaload, 1) := by decide +kernel
theorem d_M_way_74 : decode me_M_way.2.1 74 = .ok (.istore 4, 2) := by decide +kernel
theorem d_M_way_76 : decode me_M_way.2.1 76 = .ok (.aload_n 0, 1) := by decide +kernel
theorem d_M_way_77 : decode me_M_way.2.1 77 = .ok (.getfield 68, 3) := by decide +kernel
theorem g_M_way_77 : bm_gf me_M_way 77 11 21 := ⟨_, _, _, _, d_M_way_77, rfl, by decide, uw_M, fl_M_68⟩
theorem d_M_way_80 : decode me_M_way.2.1 80 = .ok (.bipush (12), 2) := by decide +kernel
theorem d_M_way_82 : decode me_M_way.2.1 82 = .ok (.iload_n 1, 1) := by decide +kernel
theorem d_M_way_83 : decode me_M_way.2.1 83 = .ok (.imul, 1) := by decide +kernel
theorem d_M_way_84 : decode me_M_way.2.1 84 = .ok (.iload_n 3, 1) := by decide +kernel
theorem d_M_way_85 : decode me_M_way.2.1 85 = .ok (.iadd, 1) := by decide +kernel
theorem d_M_way_86 : decode me_M_way.2.1 86 = .ok (.iload 4, 2) := by decide +kernel
theorem d_M_way_88 : decode me_M_way.2.1 88 = .ok (.aload_n 0, 1) := by decide +kernel
theorem d_M_way_89 : decode me_M_way.2.1 89 = .ok (.getfield 38, 3) := by decide +kernel
theorem g_M_way_89 : bm_gf me_M_way 89 11 10 := ⟨_, _, _, _, d_M_way_89, rfl, by decide, uw_M, fl_M_38⟩
theorem d_M_way_92 : decode me_M_way.2.1 92 = .ok (.iload_n 2, 1) := by decide +kernel
theorem d_M_way_93 : decode me_M_way.2.1 93 = .ok (.iaload, 1) := by decide +kernel
theorem d_M_way_94 : decode me_M_way.2.1 94 = .ok (.if_icmp .ge (10), 3) := by decide +kernel
theorem d_M_way_97 : decode me_M_way.2.1 97 = .ok (.iload 4, 2) := by decide +kernel
theorem d_M_way_99 : decode me_M_way.2.1 99 = .ok (.iconst 1, 1) := by decide +kernel
theorem d_M_way_100 : decode me_M_way.2.1 100 = .ok (.iadd, 1) := by decide +kernel
theorem d_M_way_101 : decode me_M_way.2.1 101 = .ok (.goto (4), 3) := by decide +kernel
theorem d_M_way_104 : decode me_M_way.2.1 104 = .ok (.iconst 0, 1) := by decide +kernel
theorem d_M_way_105 : decode me_M_way.2.1 105 = .ok (.iastore, 1) := by decide +kernel
theorem d_M_way_106 : decode me_M_way.2.1 106 = .ok (.iload 4, 2) := by decide +kernel
theorem d_M_way_108 : decode me_M_way.2.1 108 = .ok (.aload_n 0, 1) := by decide +kernel
theorem d_M_way_109 : decode me_M_way.2.1 109 = .ok (.getfield 38, 3) := by decide +kernel
theorem g_M_way_109 : bm_gf me_M_way 109 11 10 := ⟨_, _, _, _, d_M_way_109, rfl, by decide, uw_M, fl_M_38⟩
theorem d_M_way_112 : decode me_M_way.2.1 112 = .ok (.iload_n 2, 1) := by decide +kernel
theorem d_M_way_113 : decode me_M_way.2.1 113 = .ok (.iaload, 1) := by decide +kernel
theorem d_M_way_114 : decode me_M_way.2.1 114 = .ok (.if_icmp .ge (12), 3) := by decide +kernel
theorem d_M_way_117 : decode me_M_way.2.1 117 = .ok (.aload_n 0, 1) := by decide +kernel
theorem d_M_way_118 : decode me_M_way.2.1 118 = .ok (.getfield 50, 3) := by decide +kernel
theorem g_M_way_118 : bm_gf me_M_way 118 11 14 := ⟨_, _, _, _, d_M_way_118, rfl, by decide, uw_M, fl_M_50⟩
theorem d_M_way_121 : decode me_M_way.2.1 121 = .ok (.iload_n 2, 1) := by decide +kernel
theorem d_M_way_122 : decode me_M_way.2.1 122 = .ok (.iaload, 1) := by decide +kernel
theorem d_M_way_123 : decode me_M_way.2.1 123 = .ok (.goto (9), 3) := by decide +kernel
theorem d_M_way_126 : decode me_M_way.2.1 126 = .ok (.aload_n 0, 1) := by decide +kernel
theorem d_M_way_127 : decode me_M_way.2.1 127 = .ok (.getfield 47, 3) := by decide +kernel
theorem g_M_way_127 : bm_gf me_M_way 127 11 13 := ⟨_, _, _, _, d_M_way_127, rfl, by decide, uw_M, fl_M_47⟩
theorem d_M_way_130 : decode me_M_way.2.1 130 = .ok (.iload_n 2, 1) := by decide +kernel
theorem d_M_way_131 : decode me_M_way.2.1 131 = .ok (.iaload, 1) := by decide +kernel
theorem d_M_way_132 : decode me_M_way.2.1 132 = .ok (.ireturn, 1) := by decide +kernel
theorem d_M_claim_0 : decode me_M_claim.2.1 0 = .ok (.iconst 1, 1) := by decide +kernel
theorem d_M_claim_1 : decode me_M_claim.2.1 1 = .ok (.istore_n 1, 1) := by decide +kernel
theorem d_M_claim_2 : decode me_M_claim.2.1 2 = .ok (.iload_n 1, 1) := by decide +kernel
theorem d_M_claim_3 : decode me_M_claim.2.1 3 = .ok (.ifCond .eq (127), 3) := by decide +kernel
theorem d_M_claim_6 : decode me_M_claim.2.1 6 = .ok (.iconst 0, 1) := by decide +kernel
theorem d_M_claim_7 : decode me_M_claim.2.1 7 = .ok (.istore_n 1, 1) := by decide +kernel
theorem d_M_claim_8 : decode me_M_claim.2.1 8 = .ok (.iconst 0, 1) := by decide +kernel
theorem d_M_claim_9 : decode me_M_claim.2.1 9 = .ok (.istore_n 2, 1) := by decide +kernel
theorem d_M_claim_10 : decode me_M_claim.2.1 10 = .ok (.iconst 0, 1) := by decide +kernel
theorem d_M_claim_11 : decode me_M_claim.2.1 11 = .ok (.istore_n 3, 1) := by decide +kernel
theorem d_M_claim_12 : decode me_M_claim.2.1 12 = .ok (.iload_n 3, 1) := by decide +kernel
theorem d_M_claim_13 : decode me_M_claim.2.1 13 = .ok (.aload_n 0, 1) := by decide +kernel
theorem d_M_claim_14 : decode me_M_claim.2.1 14 = .ok (.getfield 217, 3) := by decide +kernel
theorem g_M_claim_14 : bm_gf me_M_claim 14 11 28 := ⟨_, _, _, _, d_M_claim_14, rfl, by decide, uw_M, fl_M_217⟩
theorem d_M_claim_17 : decode me_M_claim.2.1 17 = .ok (.if_icmp .ge (110), 3) := by decide +kernel
theorem d_M_claim_20 : decode me_M_claim.2.1 20 = .ok (.iload_n 1, 1) := by decide +kernel
theorem d_M_claim_21 : decode me_M_claim.2.1 21 = .ok (.ifCond .ne (106), 3) := by decide +kernel
theorem d_M_claim_24 : decode me_M_claim.2.1 24 = .ok (.aload_n 0, 1) := by decide +kernel
theorem d_M_claim_25 : decode me_M_claim.2.1 25 = .ok (.getfield 89, 3) := by decide +kernel
theorem g_M_claim_25 : bm_gf me_M_claim 25 11 29 := ⟨_, _, _, _, d_M_claim_25, rfl, by decide, uw_M, fl_M_89⟩
theorem d_M_claim_28 : decode me_M_claim.2.1 28 = .ok (.iload_n 3, 1) := by decide +kernel
theorem d_M_claim_29 : decode me_M_claim.2.1 29 = .ok (.iaload, 1) := by decide +kernel
theorem d_M_claim_30 : decode me_M_claim.2.1 30 = .ok (.istore 4, 2) := by decide +kernel
theorem d_M_claim_32 : decode me_M_claim.2.1 32 = .ok (.iload_n 2, 1) := by decide +kernel
theorem d_M_claim_33 : decode me_M_claim.2.1 33 = .ok (.aload_n 0, 1) := by decide +kernel
theorem d_M_claim_34 : decode me_M_claim.2.1 34 = .ok (.iload 4, 2) := by decide +kernel
theorem d_M_claim_36 : decode me_M_claim.2.1 36 = .ok (.invokevirtual 220, 3) := by decide +kernel
theorem c_M_claim_36 : bm_iv me_M_claim me_M_needs 36 11 1 := ⟨_, d_M_claim_36, Or.inl ml_M_220, ⟨kc_M_needs, in_BatchHallModel, by decide +kernel, by decide, by decide⟩, ki_M_needs, ks_M_needs, _, _, rfl⟩
theorem d_M_claim_39 : decode me_M_claim.2.1 39 = .ok (.iand, 1) := by decide +kernel
theorem d_M_claim_40 : decode me_M_claim.2.1 40 = .ok (.ifCond .ne (16), 3) := by decide +kernel
theorem d_M_claim_43 : decode me_M_claim.2.1 43 = .ok (.aload_n 0, 1) := by decide +kernel
theorem d_M_claim_44 : decode me_M_claim.2.1 44 = .ok (.iload 4, 2) := by decide +kernel
theorem d_M_claim_46 : decode me_M_claim.2.1 46 = .ok (.invokevirtual 223, 3) := by decide +kernel
theorem c_M_claim_46 : bm_iv me_M_claim me_M_gets 46 11 1 := ⟨_, d_M_claim_46, Or.inl ml_M_223, ⟨kc_M_gets, in_BatchHallModel, by decide +kernel, by decide, by decide⟩, ki_M_gets, ks_M_gets, _, _, rfl⟩
theorem d_M_claim_49 : decode me_M_claim.2.1 49 = .ok (.ifCond .eq (7), 3) := by decide +kernel
theorem d_M_claim_52 : decode me_M_claim.2.1 52 = .ok (.iconst 1, 1) := by decide +kernel
theorem d_M_claim_53 : decode me_M_claim.2.1 53 = .ok (.goto (4), 3) := by decide +kernel
theorem d_M_claim_56 : decode me_M_claim.2.1 56 = .ok (.iconst 0, 1) := by decide +kernel
theorem d_M_claim_57 : decode me_M_claim.2.1 57 = .ok (.istore_n 1, 1) := by decide +kernel
theorem d_M_claim_58 : decode me_M_claim.2.1 58 = .ok (.iload_n 2, 1) := by decide +kernel
theorem d_M_claim_59 : decode me_M_claim.2.1 59 = .ok (.aload_n 0, 1) := by decide +kernel
theorem d_M_claim_60 : decode me_M_claim.2.1 60 = .ok (.iload 4, 2) := by decide +kernel
theorem d_M_claim_62 : decode me_M_claim.2.1 62 = .ok (.invokevirtual 220, 3) := by decide +kernel
theorem c_M_claim_62 : bm_iv me_M_claim me_M_needs 62 11 1 := ⟨_, d_M_claim_62, Or.inl ml_M_220, ⟨kc_M_needs, in_BatchHallModel, by decide +kernel, by decide, by decide⟩, ki_M_needs, ks_M_needs, _, _, rfl⟩
theorem d_M_claim_65 : decode me_M_claim.2.1 65 = .ok (.ior, 1) := by decide +kernel
theorem d_M_claim_66 : decode me_M_claim.2.1 66 = .ok (.istore_n 2, 1) := by decide +kernel
theorem d_M_claim_67 : decode me_M_claim.2.1 67 = .ok (.iload_n 1, 1) := by decide +kernel
theorem d_M_claim_68 : decode me_M_claim.2.1 68 = .ok (.ifCond .eq (53), 3) := by decide +kernel
theorem d_M_claim_71 : decode me_M_claim.2.1 71 = .ok (.aload_n 0, 1) := by decide +kernel
theorem d_M_claim_72 : decode me_M_claim.2.1 72 = .ok (.iload 4, 2) := by decide +kernel
theorem d_M_claim_74 : decode me_M_claim.2.1 74 = .ok (.invokevirtual 226, 3) := by decide +kernel
theorem c_M_claim_74 : bm_iv me_M_claim me_M_leaveLine 74 11 1 := ⟨_, d_M_claim_74, Or.inl ml_M_226, ⟨kc_M_leaveLine, in_BatchHallModel, by decide +kernel, by decide, by decide⟩, ki_M_leaveLine, ks_M_leaveLine, _, _, rfl⟩
theorem d_M_claim_77 : decode me_M_claim.2.1 77 = .ok (.aload_n 0, 1) := by decide +kernel
theorem d_M_claim_78 : decode me_M_claim.2.1 78 = .ok (.getfield 59, 3) := by decide +kernel
theorem g_M_claim_78 : bm_gf me_M_claim 78 11 18 := ⟨_, _, _, _, d_M_claim_78, rfl, by decide, uw_M, fl_M_59⟩
theorem d_M_claim_81 : decode me_M_claim.2.1 81 = .ok (.iload 4, 2) := by decide +kernel
theorem d_M_claim_83 : decode me_M_claim.2.1 83 = .ok (.iconst 2, 1) := by decide +kernel
theorem d_M_claim_84 : decode me_M_claim.2.1 84 = .ok (.iastore, 1) := by decide +kernel
theorem d_M_claim_85 : decode me_M_claim.2.1 85 = .ok (.aload_n 0, 1) := by decide +kernel
theorem d_M_claim_86 : decode me_M_claim.2.1 86 = .ok (.getfield 62, 3) := by decide +kernel
theorem g_M_claim_86 : bm_gf me_M_claim 86 11 19 := ⟨_, _, _, _, d_M_claim_86, rfl, by decide, uw_M, fl_M_62⟩
theorem d_M_claim_89 : decode me_M_claim.2.1 89 = .ok (.iload 4, 2) := by decide +kernel
theorem d_M_claim_91 : decode me_M_claim.2.1 91 = .ok (.iconst 1, 1) := by decide +kernel
theorem d_M_claim_92 : decode me_M_claim.2.1 92 = .ok (.iastore, 1) := by decide +kernel
theorem d_M_claim_93 : decode me_M_claim.2.1 93 = .ok (.aload_n 0, 1) := by decide +kernel
theorem d_M_claim_94 : decode me_M_claim.2.1 94 = .ok (.getfield 74, 3) := by decide +kernel
theorem g_M_claim_94 : bm_gf me_M_claim 94 11 23 := ⟨_, _, _, _, d_M_claim_94, rfl, by decide, uw_M, fl_M_74⟩
theorem d_M_claim_97 : decode me_M_claim.2.1 97 = .ok (.bipush (8), 2) := by decide +kernel
theorem d_M_claim_99 : decode me_M_claim.2.1 99 = .ok (.iload 4, 2) := by decide +kernel
theorem d_M_claim_101 : decode me_M_claim.2.1 101 = .ok (.imul, 1) := by decide +kernel
theorem d_M_claim_102 : decode me_M_claim.2.1 102 = .ok (.iconst 0, 1) := by decide +kernel
theorem d_M_claim_103 : decode me_M_claim.2.1 103 = .ok (.iastore, 1) := by decide +kernel
theorem d_M_claim_104 : decode me_M_claim.2.1 104 = .ok (.aload_n 0, 1) := by decide +kernel
theorem d_M_claim_105 : decode me_M_claim.2.1 105 = .ok (.getfield 83, 3) := by decide +kernel
theorem g_M_claim_105 : bm_gf me_M_claim 105 11 26 := ⟨_, _, _, _, d_M_claim_105, rfl, by decide, uw_M, fl_M_83⟩
theorem d_M_claim_108 : decode me_M_claim.2.1 108 = .ok (.bipush (8), 2) := by decide +kernel
theorem d_M_claim_110 : decode me_M_claim.2.1 110 = .ok (.iload 4, 2) := by decide +kernel
theorem d_M_claim_112 : decode me_M_claim.2.1 112 = .ok (.imul, 1) := by decide +kernel
theorem d_M_claim_113 : decode me_M_claim.2.1 113 = .ok (.iconst 0, 1) := by decide +kernel
theorem d_M_claim_114 : decode me_M_claim.2.1 114 = .ok (.bastore, 1) := by decide +kernel
theorem d_M_claim_115 : decode me_M_claim.2.1 115 = .ok (.aload_n 0, 1) := by decide +kernel
theorem d_M_claim_116 : decode me_M_claim.2.1 116 = .ok (.iload 4, 2) := by decide +kernel
theorem d_M_claim_118 : decode me_M_claim.2.1 118 = .ok (.invokevirtual 229, 3) := by decide +kernel
theorem c_M_claim_118 : bm_iv me_M_claim me_M_move 118 11 1 := ⟨_, d_M_claim_118, Or.inl ml_M_229, ⟨kc_M_move, in_BatchHallModel, by decide +kernel, by decide, by decide⟩, ki_M_move, ks_M_move, _, _, rfl⟩
theorem d_M_claim_121 : decode me_M_claim.2.1 121 = .ok (.iinc 3 (1), 3) := by decide +kernel
theorem d_M_claim_124 : decode me_M_claim.2.1 124 = .ok (.goto (-112), 3) := by decide +kernel
theorem d_M_claim_127 : decode me_M_claim.2.1 127 = .ok (.goto (-125), 3) := by decide +kernel
theorem d_M_claim_130 : decode me_M_claim.2.1 130 = .ok (.aload_n 0, 1) := by decide +kernel
theorem d_M_claim_131 : decode me_M_claim.2.1 131 = .ok (.iconst 0, 1) := by decide +kernel
theorem d_M_claim_132 : decode me_M_claim.2.1 132 = .ok (.putfield 232, 3) := by decide +kernel
theorem p_M_claim_132 : bm_pf me_M_claim 132 11 30 .boolean := ⟨_, _, _, _, ty_M, d_M_claim_132, rfl, by decide, uw_M, fl_M_232, tk_M, nm_M, rfl, Or.inl rfl⟩
theorem d_M_claim_135 : decode me_M_claim.2.1 135 = .ok (.return_, 1) := by decide +kernel
theorem d_M_needs_0 : decode me_M_needs.2.1 0 = .ok (.iconst 0, 1) := by decide +kernel
theorem d_M_needs_1 : decode me_M_needs.2.1 1 = .ok (.istore_n 2, 1) := by decide +kernel
theorem d_M_needs_2 : decode me_M_needs.2.1 2 = .ok (.iconst 0, 1) := by decide +kernel
theorem d_M_needs_3 : decode me_M_needs.2.1 3 = .ok (.istore_n 3, 1) := by decide +kernel
theorem d_M_needs_4 : decode me_M_needs.2.1 4 = .ok (.iload_n 3, 1) := by decide +kernel
theorem d_M_needs_5 : decode me_M_needs.2.1 5 = .ok (.iconst 3, 1) := by decide +kernel
theorem d_M_needs_6 : decode me_M_needs.2.1 6 = .ok (.if_icmp .ge (29), 3) := by decide +kernel
theorem d_M_needs_9 : decode me_M_needs.2.1 9 = .ok (.iload_n 2, 1) := by decide +kernel
theorem d_M_needs_10 : decode me_M_needs.2.1 10 = .ok (.iconst 1, 1) := by decide +kernel
theorem d_M_needs_11 : decode me_M_needs.2.1 11 = .ok (.aload_n 0, 1) := by decide +kernel
theorem d_M_needs_12 : decode me_M_needs.2.1 12 = .ok (.getfield 25, 3) := by decide +kernel
theorem g_M_needs_12 : bm_gf me_M_needs 12 11 6 := ⟨_, _, _, _, d_M_needs_12, rfl, by decide, uw_M, fl_M_25⟩
theorem d_M_needs_15 : decode me_M_needs.2.1 15 = .ok (.iconst 3, 1) := by decide +kernel
theorem d_M_needs_16 : decode me_M_needs.2.1 16 = .ok (.aload_n 0, 1) := by decide +kernel
theorem d_M_needs_17 : decode me_M_needs.2.1 17 = .ok (.getfield 53, 3) := by decide +kernel
theorem g_M_needs_17 : bm_gf me_M_needs 17 11 16 := ⟨_, _, _, _, d_M_needs_17, rfl, by decide, uw_M, fl_M_53⟩
theorem d_M_needs_20 : decode me_M_needs.2.1 20 = .ok (.iload_n 1, 1) := by decide +kernel
theorem d_M_needs_21 : decode me_M_needs.2.1 21 = .ok (.iaload, 1) := by decide +kernel
theorem d_M_needs_22 : decode me_M_needs.2.1 22 = .ok (.imul, 1) := by decide +kernel
theorem d_M_needs_23 : decode me_M_needs.2.1 23 = .ok (.iload_n 3, 1) := by decide +kernel
theorem d_M_needs_24 : decode me_M_needs.2.1 24 = .ok (.iadd, 1) := by decide +kernel
theorem d_M_needs_25 : decode me_M_needs.2.1 25 = .ok (.iaload, 1) := by decide +kernel
theorem d_M_needs_26 : decode me_M_needs.2.1 26 = .ok (.ishl, 1) := by decide +kernel
theorem d_M_needs_27 : decode me_M_needs.2.1 27 = .ok (.ior, 1) := by decide +kernel
theorem d_M_needs_28 : decode me_M_needs.2.1 28 = .ok (.istore_n 2, 1) := by decide +kernel
theorem d_M_needs_29 : decode me_M_needs.2.1 29 = .ok (.iinc 3 (1), 3) := by decide +kernel
theorem d_M_needs_32 : decode me_M_needs.2.1 32 = .ok (.goto (-28), 3) := by decide +kernel
theorem d_M_needs_35 : decode me_M_needs.2.1 35 = .ok (.iload_n 2, 1) := by decide +kernel
theorem d_M_needs_36 : decode me_M_needs.2.1 36 = .ok (.bipush (7), 2) := by decide +kernel
theorem d_M_needs_38 : decode me_M_needs.2.1 38 = .ok (.iand, 1) := by decide +kernel
theorem d_M_needs_39 : decode me_M_needs.2.1 39 = .ok (.ireturn, 1) := by decide +kernel
theorem d_M_gets_0 : decode me_M_gets.2.1 0 = .ok (.iconst 1, 1) := by decide +kernel
theorem d_M_gets_1 : decode me_M_gets.2.1 1 = .ok (.istore_n 2, 1) := by decide +kernel
theorem d_M_gets_2 : decode me_M_gets.2.1 2 = .ok (.iconst 0, 1) := by decide +kernel
theorem d_M_gets_3 : decode me_M_gets.2.1 3 = .ok (.istore_n 3, 1) := by decide +kernel
theorem d_M_gets_4 : decode me_M_gets.2.1 4 = .ok (.iload_n 3, 1) := by decide +kernel
theorem d_M_gets_5 : decode me_M_gets.2.1 5 = .ok (.iconst 3, 1) := by decide +kernel
theorem d_M_gets_6 : decode me_M_gets.2.1 6 = .ok (.if_icmp .ge (135), 3) := by decide +kernel
theorem d_M_gets_9 : decode me_M_gets.2.1 9 = .ok (.aload_n 0, 1) := by decide +kernel
theorem d_M_gets_10 : decode me_M_gets.2.1 10 = .ok (.getfield 25, 3) := by decide +kernel
theorem g_M_gets_10 : bm_gf me_M_gets 10 11 6 := ⟨_, _, _, _, d_M_gets_10, rfl, by decide, uw_M, fl_M_25⟩
theorem d_M_gets_13 : decode me_M_gets.2.1 13 = .ok (.iconst 3, 1) := by decide +kernel
theorem d_M_gets_14 : decode me_M_gets.2.1 14 = .ok (.aload_n 0, 1) := by decide +kernel
theorem d_M_gets_15 : decode me_M_gets.2.1 15 = .ok (.getfield 53, 3) := by decide +kernel
theorem g_M_gets_15 : bm_gf me_M_gets 15 11 16 := ⟨_, _, _, _, d_M_gets_15, rfl, by decide, uw_M, fl_M_53⟩
theorem d_M_gets_18 : decode me_M_gets.2.1 18 = .ok (.iload_n 1, 1) := by decide +kernel
theorem d_M_gets_19 : decode me_M_gets.2.1 19 = .ok (.iaload, 1) := by decide +kernel
theorem d_M_gets_20 : decode me_M_gets.2.1 20 = .ok (.imul, 1) := by decide +kernel
theorem d_M_gets_21 : decode me_M_gets.2.1 21 = .ok (.iload_n 3, 1) := by decide +kernel
theorem d_M_gets_22 : decode me_M_gets.2.1 22 = .ok (.iadd, 1) := by decide +kernel
theorem d_M_gets_23 : decode me_M_gets.2.1 23 = .ok (.iaload, 1) := by decide +kernel
theorem d_M_gets_24 : decode me_M_gets.2.1 24 = .ok (.istore 4, 2) := by decide +kernel
theorem d_M_gets_26 : decode me_M_gets.2.1 26 = .ok (.iconst 0, 1) := by decide +kernel
theorem d_M_gets_27 : decode me_M_gets.2.1 27 = .ok (.istore 5, 2) := by decide +kernel
theorem d_M_gets_29 : decode me_M_gets.2.1 29 = .ok (.iload 5, 2) := by decide +kernel
theorem d_M_gets_31 : decode me_M_gets.2.1 31 = .ok (.bipush (6), 2) := by decide +kernel
theorem d_M_gets_33 : decode me_M_gets.2.1 33 = .ok (.if_icmp .ge (72), 3) := by decide +kernel
theorem d_M_gets_36 : decode me_M_gets.2.1 36 = .ok (.iload 4, 2) := by decide +kernel
theorem d_M_gets_38 : decode me_M_gets.2.1 38 = .ok (.iconst 3, 1) := by decide +kernel
theorem d_M_gets_39 : decode me_M_gets.2.1 39 = .ok (.if_icmp .ge (66), 3) := by decide +kernel
theorem d_M_gets_42 : decode me_M_gets.2.1 42 = .ok (.aload_n 0, 1) := by decide +kernel
theorem d_M_gets_43 : decode me_M_gets.2.1 43 = .ok (.getfield 71, 3) := by decide +kernel
theorem g_M_gets_43 : bm_gf me_M_gets 43 11 22 := ⟨_, _, _, _, d_M_gets_43, rfl, by decide, uw_M, fl_M_71⟩
theorem d_M_gets_46 : decode me_M_gets.2.1 46 = .ok (.iconst 3, 1) := by decide +kernel
theorem d_M_gets_47 : decode me_M_gets.2.1 47 = .ok (.iload_n 1, 1) := by decide +kernel
theorem d_M_gets_48 : decode me_M_gets.2.1 48 = .ok (.imul, 1) := by decide +kernel
theorem d_M_gets_49 : decode me_M_gets.2.1 49 = .ok (.iload_n 3, 1) := by decide +kernel
theorem d_M_gets_50 : decode me_M_gets.2.1 50 = .ok (.iadd, 1) := by decide +kernel
theorem d_M_gets_51 : decode me_M_gets.2.1 51 = .ok (.iaload, 1) := by decide +kernel
theorem d_M_gets_52 : decode me_M_gets.2.1 52 = .ok (.iconst (-1), 1) := by decide +kernel
theorem d_M_gets_53 : decode me_M_gets.2.1 53 = .ok (.if_icmp .ne (52), 3) := by decide +kernel
theorem d_M_gets_56 : decode me_M_gets.2.1 56 = .ok (.aload_n 0, 1) := by decide +kernel
theorem d_M_gets_57 : decode me_M_gets.2.1 57 = .ok (.getfield 7, 3) := by decide +kernel
theorem g_M_gets_57 : bm_gf me_M_gets 57 11 1 := ⟨_, _, _, _, d_M_gets_57, rfl, by decide, uw_M, fl_M_7⟩
theorem d_M_gets_60 : decode me_M_gets.2.1 60 = .ok (.iload 5, 2) := by decide +kernel
theorem d_M_gets_62 : decode me_M_gets.2.1 62 = .ok (.iaload, 1) := by decide +kernel
theorem d_M_gets_63 : decode me_M_gets.2.1 63 = .ok (.iload 4, 2) := by decide +kernel
theorem d_M_gets_65 : decode me_M_gets.2.1 65 = .ok (.if_icmp .ne (34), 3) := by decide +kernel
theorem d_M_gets_68 : decode me_M_gets.2.1 68 = .ok (.aload_n 0, 1) := by decide +kernel
theorem d_M_gets_69 : decode me_M_gets.2.1 69 = .ok (.getfield 13, 3) := by decide +kernel
theorem g_M_gets_69 : bm_gf me_M_gets 69 11 2 := ⟨_, _, _, _, d_M_gets_69, rfl, by decide, uw_M, fl_M_13⟩
theorem d_M_gets_72 : decode me_M_gets.2.1 72 = .ok (.iload 5, 2) := by decide +kernel
theorem d_M_gets_74 : decode me_M_gets.2.1 74 = .ok (.iaload, 1) := by decide +kernel
theorem d_M_gets_75 : decode me_M_gets.2.1 75 = .ok (.iconst (-1), 1) := by decide +kernel
theorem d_M_gets_76 : decode me_M_gets.2.1 76 = .ok (.if_icmp .ne (23), 3) := by decide +kernel
theorem d_M_gets_79 : decode me_M_gets.2.1 79 = .ok (.aload_n 0, 1) := by decide +kernel
theorem d_M_gets_80 : decode me_M_gets.2.1 80 = .ok (.getfield 13, 3) := by decide +kernel
theorem g_M_gets_80 : bm_gf me_M_gets 80 11 2 := ⟨_, _, _, _, d_M_gets_80, rfl, by decide, uw_M, fl_M_13⟩
theorem d_M_gets_83 : decode me_M_gets.2.1 83 = .ok (.iload 5, 2) := by decide +kernel
theorem d_M_gets_85 : decode me_M_gets.2.1 85 = .ok (.iload_n 1, 1) := by decide +kernel
theorem d_M_gets_86 : decode me_M_gets.2.1 86 = .ok (.iastore, 1) := by decide +kernel
theorem d_M_gets_87 : decode me_M_gets.2.1 87 = .ok (.aload_n 0, 1) := by decide +kernel
theorem d_M_gets_88 : decode me_M_gets.2.1 88 = .ok (.getfield 71, 3) := by decide +kernel
theorem g_M_gets_88 : bm_gf me_M_gets 88 11 22 := ⟨_, _, _, _, d_M_gets_88, rfl, by decide, uw_M, fl_M_71⟩
theorem d_M_gets_91 : decode me_M_gets.2.1 91 = .ok (.iconst 3, 1) := by decide +kernel
theorem d_M_gets_92 : decode me_M_gets.2.1 92 = .ok (.iload_n 1, 1) := by decide +kernel
theorem d_M_gets_93 : decode me_M_gets.2.1 93 = .ok (.imul, 1) := by decide +kernel
theorem d_M_gets_94 : decode me_M_gets.2.1 94 = .ok (.iload_n 3, 1) := by decide +kernel
theorem d_M_gets_95 : decode me_M_gets.2.1 95 = .ok (.iadd, 1) := by decide +kernel
theorem d_M_gets_96 : decode me_M_gets.2.1 96 = .ok (.iload 5, 2) := by decide +kernel
theorem d_M_gets_98 : decode me_M_gets.2.1 98 = .ok (.iastore, 1) := by decide +kernel
theorem d_M_gets_99 : decode me_M_gets.2.1 99 = .ok (.iinc 5 (1), 3) := by decide +kernel
theorem d_M_gets_102 : decode me_M_gets.2.1 102 = .ok (.goto (-73), 3) := by decide +kernel
theorem d_M_gets_105 : decode me_M_gets.2.1 105 = .ok (.iload_n 2, 1) := by decide +kernel
theorem d_M_gets_106 : decode me_M_gets.2.1 106 = .ok (.ifCond .eq (27), 3) := by decide +kernel
theorem d_M_gets_109 : decode me_M_gets.2.1 109 = .ok (.iload 4, 2) := by decide +kernel
theorem d_M_gets_111 : decode me_M_gets.2.1 111 = .ok (.iconst 3, 1) := by decide +kernel
theorem d_M_gets_112 : decode me_M_gets.2.1 112 = .ok (.if_icmp .eq (17), 3) := by decide +kernel
theorem d_M_gets_115 : decode me_M_gets.2.1 115 = .ok (.aload_n 0, 1) := by decide +kernel
theorem d_M_gets_116 : decode me_M_gets.2.1 116 = .ok (.getfield 71, 3) := by decide +kernel
theorem g_M_gets_116 : bm_gf me_M_gets 116 11 22 := ⟨_, _, _, _, d_M_gets_116, rfl, by decide, uw_M, fl_M_71⟩
theorem d_M_gets_119 : decode me_M_gets.2.1 119 = .ok (.iconst 3, 1) := by decide +kernel
theorem d_M_gets_120 : decode me_M_gets.2.1 120 = .ok (.iload_n 1, 1) := by decide +kernel
theorem d_M_gets_121 : decode me_M_gets.2.1 121 = .ok (.imul, 1) := by decide +kernel
theorem d_M_gets_122 : decode me_M_gets.2.1 122 = .ok (.iload_n 3, 1) := by decide +kernel
theorem d_M_gets_123 : decode me_M_gets.2.1 123 = .ok (.iadd, 1) := by decide +kernel
theorem d_M_gets_124 : decode me_M_gets.2.1 124 = .ok (.iaload, 1) := by decide +kernel
theorem d_M_gets_125 : decode me_M_gets.2.1 125 = .ok (.iconst (-1), 1) := by decide +kernel
theorem d_M_gets_126 : decode me_M_gets.2.1 126 = .ok (.if_icmp .eq (7), 3) := by decide +kernel
theorem d_M_gets_129 : decode me_M_gets.2.1 129 = .ok (.iconst 1, 1) := by decide +kernel
theorem d_M_gets_130 : decode me_M_gets.2.1 130 = .ok (.goto (4), 3) := by decide +kernel
theorem d_M_gets_133 : decode me_M_gets.2.1 133 = .ok (.iconst 0, 1) := by decide +kernel
theorem d_M_gets_134 : decode me_M_gets.2.1 134 = .ok (.istore_n 2, 1) := by decide +kernel
theorem d_M_gets_135 : decode me_M_gets.2.1 135 = .ok (.iinc 3 (1), 3) := by decide +kernel
theorem d_M_gets_138 : decode me_M_gets.2.1 138 = .ok (.goto (-134), 3) := by decide +kernel
theorem d_M_gets_141 : decode me_M_gets.2.1 141 = .ok (.iload_n 2, 1) := by decide +kernel
theorem d_M_gets_142 : decode me_M_gets.2.1 142 = .ok (.ifCond .ne (8), 3) := by decide +kernel
theorem d_M_gets_145 : decode me_M_gets.2.1 145 = .ok (.aload_n 0, 1) := by decide +kernel
theorem d_M_gets_146 : decode me_M_gets.2.1 146 = .ok (.iload_n 1, 1) := by decide +kernel
theorem d_M_gets_147 : decode me_M_gets.2.1 147 = .ok (.invokevirtual 214, 3) := by decide +kernel
theorem c_M_gets_147 : bm_iv me_M_gets me_M_giveBack 147 11 1 := ⟨_, d_M_gets_147, Or.inl ml_M_214, ⟨kc_M_giveBack, in_BatchHallModel, by decide +kernel, by decide, by decide⟩, ki_M_giveBack, ks_M_giveBack, _, _, rfl⟩
theorem d_M_gets_150 : decode me_M_gets.2.1 150 = .ok (.iload_n 2, 1) := by decide +kernel
theorem d_M_gets_151 : decode me_M_gets.2.1 151 = .ok (.ireturn, 1) := by decide +kernel
theorem d_M_batch_0 : decode me_M_batch.2.1 0 = .ok (.iload_n 1, 1) := by decide +kernel
theorem d_M_batch_1 : decode me_M_batch.2.1 1 = .ok (.iconst 0, 1) := by decide +kernel
theorem d_M_batch_2 : decode me_M_batch.2.1 2 = .ok (.iconst 3, 1) := by decide +kernel
theorem d_M_batch_3 : decode me_M_batch.2.1 3 = .ok (.invokestatic 141, 3) := by decide +kernel
theorem c_M_batch_3 : bm_is me_M_batch me_M_in 3 3 := ⟨_, d_M_batch_3, Or.inl ml_M_141, ⟨kc_M_in, in_BatchHallModel, by decide +kernel, by decide, by decide⟩, kt_M_in⟩
theorem d_M_batch_6 : decode me_M_batch.2.1 6 = .ok (.ifCond .eq (18), 3) := by decide +kernel
theorem d_M_batch_9 : decode me_M_batch.2.1 9 = .ok (.iload_n 2, 1) := by decide +kernel
theorem d_M_batch_10 : decode me_M_batch.2.1 10 = .ok (.iconst 0, 1) := by decide +kernel
theorem d_M_batch_11 : decode me_M_batch.2.1 11 = .ok (.sipush (1000), 3) := by decide +kernel
theorem d_M_batch_14 : decode me_M_batch.2.1 14 = .ok (.invokestatic 141, 3) := by decide +kernel
theorem c_M_batch_14 : bm_is me_M_batch me_M_in 14 3 := ⟨_, d_M_batch_14, Or.inl ml_M_141, ⟨kc_M_in, in_BatchHallModel, by decide +kernel, by decide, by decide⟩, kt_M_in⟩
theorem d_M_batch_17 : decode me_M_batch.2.1 17 = .ok (.ifCond .eq (7), 3) := by decide +kernel
theorem d_M_batch_20 : decode me_M_batch.2.1 20 = .ok (.iconst 1, 1) := by decide +kernel
theorem d_M_batch_21 : decode me_M_batch.2.1 21 = .ok (.goto (4), 3) := by decide +kernel
theorem d_M_batch_24 : decode me_M_batch.2.1 24 = .ok (.iconst 0, 1) := by decide +kernel
theorem d_M_batch_25 : decode me_M_batch.2.1 25 = .ok (.istore_n 3, 1) := by decide +kernel
theorem d_M_batch_26 : decode me_M_batch.2.1 26 = .ok (.aload_n 0, 1) := by decide +kernel
theorem d_M_batch_27 : decode me_M_batch.2.1 27 = .ok (.iload_n 3, 1) := by decide +kernel
theorem d_M_batch_28 : decode me_M_batch.2.1 28 = .ok (.iload_n 3, 1) := by decide +kernel
theorem d_M_batch_29 : decode me_M_batch.2.1 29 = .ok (.ifCond .eq (25), 3) := by decide +kernel
theorem d_M_batch_32 : decode me_M_batch.2.1 32 = .ok (.aload_n 0, 1) := by decide +kernel
theorem d_M_batch_33 : decode me_M_batch.2.1 33 = .ok (.getfield 31, 3) := by decide +kernel
theorem g_M_batch_33 : bm_gf me_M_batch 33 11 8 := ⟨_, _, _, _, d_M_batch_33, rfl, by decide, uw_M, fl_M_31⟩
theorem d_M_batch_36 : decode me_M_batch.2.1 36 = .ok (.iload_n 1, 1) := by decide +kernel
theorem d_M_batch_37 : decode me_M_batch.2.1 37 = .ok (.baload, 1) := by decide +kernel
theorem d_M_batch_38 : decode me_M_batch.2.1 38 = .ok (.ifCond .eq (16), 3) := by decide +kernel
theorem d_M_batch_41 : decode me_M_batch.2.1 41 = .ok (.aload_n 0, 1) := by decide +kernel
theorem d_M_batch_42 : decode me_M_batch.2.1 42 = .ok (.getfield 272, 3) := by decide +kernel
theorem g_M_batch_42 : bm_gf me_M_batch 42 11 15 := ⟨_, _, _, _, d_M_batch_42, rfl, by decide, uw_M, fl_M_272⟩
theorem d_M_batch_45 : decode me_M_batch.2.1 45 = .ok (.bipush (16), 2) := by decide +kernel
theorem d_M_batch_47 : decode me_M_batch.2.1 47 = .ok (.if_icmp .ge (7), 3) := by decide +kernel
theorem d_M_batch_50 : decode me_M_batch.2.1 50 = .ok (.iconst 1, 1) := by decide +kernel
theorem d_M_batch_51 : decode me_M_batch.2.1 51 = .ok (.goto (4), 3) := by decide +kernel
theorem d_M_batch_54 : decode me_M_batch.2.1 54 = .ok (.iconst 0, 1) := by decide +kernel
theorem d_M_batch_55 : decode me_M_batch.2.1 55 = .ok (.invokevirtual 169, 3) := by decide +kernel
theorem c_M_batch_55 : bm_iv me_M_batch me_M_goes 55 11 2 := ⟨_, d_M_batch_55, Or.inl ml_M_169, ⟨kc_M_goes, in_BatchHallModel, by decide +kernel, by decide, by decide⟩, ki_M_goes, ks_M_goes, _, _, rfl⟩
theorem d_M_batch_58 : decode me_M_batch.2.1 58 = .ok (.ifCond .ne (5), 3) := by decide +kernel
theorem d_M_batch_61 : decode me_M_batch.2.1 61 = .ok (.iconst 0, 1) := by decide +kernel
theorem d_M_batch_62 : decode me_M_batch.2.1 62 = .ok (.ireturn, 1) := by decide +kernel
theorem d_M_batch_63 : decode me_M_batch.2.1 63 = .ok (.aload_n 0, 1) := by decide +kernel
theorem d_M_batch_64 : decode me_M_batch.2.1 64 = .ok (.getfield 53, 3) := by decide +kernel
theorem g_M_batch_64 : bm_gf me_M_batch 64 11 16 := ⟨_, _, _, _, d_M_batch_64, rfl, by decide, uw_M, fl_M_53⟩
theorem d_M_batch_67 : decode me_M_batch.2.1 67 = .ok (.aload_n 0, 1) := by decide +kernel
theorem d_M_batch_68 : decode me_M_batch.2.1 68 = .ok (.getfield 272, 3) := by decide +kernel
theorem g_M_batch_68 : bm_gf me_M_batch 68 11 15 := ⟨_, _, _, _, d_M_batch_68, rfl, by decide, uw_M, fl_M_272⟩
theorem d_M_batch_71 : decode me_M_batch.2.1 71 = .ok (.iload_n 1, 1) := by decide +kernel
theorem d_M_batch_72 : decode me_M_batch.2.1 72 = .ok (.iastore, 1) := by decide +kernel
theorem d_M_batch_73 : decode me_M_batch.2.1 73 = .ok (.aload_n 0, 1) := by decide +kernel
theorem d_M_batch_74 : decode me_M_batch.2.1 74 = .ok (.getfield 56, 3) := by decide +kernel
theorem g_M_batch_74 : bm_gf me_M_batch 74 11 17 := ⟨_, _, _, _, d_M_batch_74, rfl, by decide, uw_M, fl_M_56⟩
theorem d_M_batch_77 : decode me_M_batch.2.1 77 = .ok (.aload_n 0, 1) := by decide +kernel
theorem d_M_batch_78 : decode me_M_batch.2.1 78 = .ok (.getfield 272, 3) := by decide +kernel
theorem g_M_batch_78 : bm_gf me_M_batch 78 11 15 := ⟨_, _, _, _, d_M_batch_78, rfl, by decide, uw_M, fl_M_272⟩
theorem d_M_batch_81 : decode me_M_batch.2.1 81 = .ok (.iload_n 2, 1) := by decide +kernel
theorem d_M_batch_82 : decode me_M_batch.2.1 82 = .ok (.iastore, 1) := by decide +kernel
theorem d_M_batch_83 : decode me_M_batch.2.1 83 = .ok (.aload_n 0, 1) := by decide +kernel
theorem d_M_batch_84 : decode me_M_batch.2.1 84 = .ok (.dup, 1) := by decide +kernel
theorem d_M_batch_85 : decode me_M_batch.2.1 85 = .ok (.getfield 272, 3) := by decide +kernel
theorem g_M_batch_85 : bm_gf me_M_batch 85 11 15 := ⟨_, _, _, _, d_M_batch_85, rfl, by decide, uw_M, fl_M_272⟩
theorem d_M_batch_88 : decode me_M_batch.2.1 88 = .ok (.iconst 1, 1) := by decide +kernel
theorem d_M_batch_89 : decode me_M_batch.2.1 89 = .ok (.iadd, 1) := by decide +kernel
theorem d_M_batch_90 : decode me_M_batch.2.1 90 = .ok (.putfield 272, 3) := by decide +kernel
theorem p_M_batch_90 : bm_pf me_M_batch 90 11 15 .int := ⟨_, _, _, _, ty_M, d_M_batch_90, rfl, by decide, uw_M, fl_M_272, tk_M, nm_M, rfl, Or.inl rfl⟩
theorem d_M_batch_93 : decode me_M_batch.2.1 93 = .ok (.aload_n 0, 1) := by decide +kernel
theorem d_M_batch_94 : decode me_M_batch.2.1 94 = .ok (.getfield 272, 3) := by decide +kernel
theorem g_M_batch_94 : bm_gf me_M_batch 94 11 15 := ⟨_, _, _, _, d_M_batch_94, rfl, by decide, uw_M, fl_M_272⟩
theorem d_M_batch_97 : decode me_M_batch.2.1 97 = .ok (.iconst 1, 1) := by decide +kernel
theorem d_M_batch_98 : decode me_M_batch.2.1 98 = .ok (.isub, 1) := by decide +kernel
theorem d_M_batch_99 : decode me_M_batch.2.1 99 = .ok (.ireturn, 1) := by decide +kernel
theorem d_M_start_0 : decode me_M_start.2.1 0 = .ok (.aload_n 0, 1) := by decide +kernel
theorem d_M_start_1 : decode me_M_start.2.1 1 = .ok (.aload_n 0, 1) := by decide +kernel
theorem d_M_start_2 : decode me_M_start.2.1 2 = .ok (.iload_n 1, 1) := by decide +kernel
theorem d_M_start_3 : decode me_M_start.2.1 3 = .ok (.invokevirtual 281, 3) := by decide +kernel
theorem c_M_start_3 : bm_iv me_M_start me_M_isBatch 3 11 1 := ⟨_, d_M_start_3, Or.inl ml_M_281, ⟨kc_M_isBatch, in_BatchHallModel, by decide +kernel, by decide, by decide⟩, ki_M_isBatch, ks_M_isBatch, _, _, rfl⟩
theorem d_M_start_6 : decode me_M_start.2.1 6 = .ok (.aload_n 0, 1) := by decide +kernel
theorem d_M_start_7 : decode me_M_start.2.1 7 = .ok (.iload_n 1, 1) := by decide +kernel
theorem d_M_start_8 : decode me_M_start.2.1 8 = .ok (.invokevirtual 281, 3) := by decide +kernel
theorem c_M_start_8 : bm_iv me_M_start me_M_isBatch 8 11 1 := ⟨_, d_M_start_8, Or.inl ml_M_281, ⟨kc_M_isBatch, in_BatchHallModel, by decide +kernel, by decide, by decide⟩, ki_M_isBatch, ks_M_isBatch, _, _, rfl⟩
theorem d_M_start_11 : decode me_M_start.2.1 11 = .ok (.ifCond .eq (16), 3) := by decide +kernel
theorem d_M_start_14 : decode me_M_start.2.1 14 = .ok (.aload_n 0, 1) := by decide +kernel
theorem d_M_start_15 : decode me_M_start.2.1 15 = .ok (.getfield 59, 3) := by decide +kernel
theorem g_M_start_15 : bm_gf me_M_start 15 11 18 := ⟨_, _, _, _, d_M_start_15, rfl, by decide, uw_M, fl_M_59⟩
theorem d_M_start_18 : decode me_M_start.2.1 18 = .ok (.iload_n 1, 1) := by decide +kernel
theorem d_M_start_19 : decode me_M_start.2.1 19 = .ok (.iaload, 1) := by decide +kernel
theorem d_M_start_20 : decode me_M_start.2.1 20 = .ok (.ifCond .ne (7), 3) := by decide +kernel
theorem d_M_start_23 : decode me_M_start.2.1 23 = .ok (.iconst 1, 1) := by decide +kernel
theorem d_M_start_24 : decode me_M_start.2.1 24 = .ok (.goto (4), 3) := by decide +kernel
theorem d_M_start_27 : decode me_M_start.2.1 27 = .ok (.iconst 0, 1) := by decide +kernel
theorem d_M_start_28 : decode me_M_start.2.1 28 = .ok (.invokevirtual 169, 3) := by decide +kernel
theorem c_M_start_28 : bm_iv me_M_start me_M_goes 28 11 2 := ⟨_, d_M_start_28, Or.inl ml_M_169, ⟨kc_M_goes, in_BatchHallModel, by decide +kernel, by decide, by decide⟩, ki_M_goes, ks_M_goes, _, _, rfl⟩
theorem d_M_start_31 : decode me_M_start.2.1 31 = .ok (.ifCond .ne (5), 3) := by decide +kernel
theorem d_M_start_34 : decode me_M_start.2.1 34 = .ok (.iconst 0, 1) := by decide +kernel
theorem d_M_start_35 : decode me_M_start.2.1 35 = .ok (.ireturn, 1) := by decide +kernel
theorem d_M_start_36 : decode me_M_start.2.1 36 = .ok (.aload_n 0, 1) := by decide +kernel
theorem d_M_start_37 : decode me_M_start.2.1 37 = .ok (.getfield 59, 3) := by decide +kernel
theorem g_M_start_37 : bm_gf me_M_start 37 11 18 := ⟨_, _, _, _, d_M_start_37, rfl, by decide, uw_M, fl_M_59⟩
theorem d_M_start_40 : decode me_M_start.2.1 40 = .ok (.iload_n 1, 1) := by decide +kernel
theorem d_M_start_41 : decode me_M_start.2.1 41 = .ok (.iconst 1, 1) := by decide +kernel
theorem d_M_start_42 : decode me_M_start.2.1 42 = .ok (.iastore, 1) := by decide +kernel
theorem d_M_start_43 : decode me_M_start.2.1 43 = .ok (.aload_n 0, 1) := by decide +kernel
theorem d_M_start_44 : decode me_M_start.2.1 44 = .ok (.getfield 89, 3) := by decide +kernel
theorem g_M_start_44 : bm_gf me_M_start 44 11 29 := ⟨_, _, _, _, d_M_start_44, rfl, by decide, uw_M, fl_M_89⟩
theorem d_M_start_47 : decode me_M_start.2.1 47 = .ok (.aload_n 0, 1) := by decide +kernel
theorem d_M_start_48 : decode me_M_start.2.1 48 = .ok (.getfield 217, 3) := by decide +kernel
theorem g_M_start_48 : bm_gf me_M_start 48 11 28 := ⟨_, _, _, _, d_M_start_48, rfl, by decide, uw_M, fl_M_217⟩
theorem d_M_start_51 : decode me_M_start.2.1 51 = .ok (.iload_n 1, 1) := by decide +kernel
theorem d_M_start_52 : decode me_M_start.2.1 52 = .ok (.iastore, 1) := by decide +kernel
theorem d_M_start_53 : decode me_M_start.2.1 53 = .ok (.aload_n 0, 1) := by decide +kernel
theorem d_M_start_54 : decode me_M_start.2.1 54 = .ok (.dup, 1) := by decide +kernel
theorem d_M_start_55 : decode me_M_start.2.1 55 = .ok (.getfield 217, 3) := by decide +kernel
theorem g_M_start_55 : bm_gf me_M_start 55 11 28 := ⟨_, _, _, _, d_M_start_55, rfl, by decide, uw_M, fl_M_217⟩
theorem d_M_start_58 : decode me_M_start.2.1 58 = .ok (.iconst 1, 1) := by decide +kernel
theorem d_M_start_59 : decode me_M_start.2.1 59 = .ok (.iadd, 1) := by decide +kernel
theorem d_M_start_60 : decode me_M_start.2.1 60 = .ok (.putfield 217, 3) := by decide +kernel
theorem p_M_start_60 : bm_pf me_M_start 60 11 28 .int := ⟨_, _, _, _, ty_M, d_M_start_60, rfl, by decide, uw_M, fl_M_217, tk_M, nm_M, rfl, Or.inl rfl⟩
theorem d_M_start_63 : decode me_M_start.2.1 63 = .ok (.aload_n 0, 1) := by decide +kernel
theorem d_M_start_64 : decode me_M_start.2.1 64 = .ok (.invokevirtual 278, 3) := by decide +kernel
theorem c_M_start_64 : bm_iv me_M_start me_M_claim 64 11 0 := ⟨_, d_M_start_64, Or.inl ml_M_278, ⟨kc_M_claim, in_BatchHallModel, by decide +kernel, by decide, by decide⟩, ki_M_claim, ks_M_claim, _, _, rfl⟩
theorem d_M_start_67 : decode me_M_start.2.1 67 = .ok (.aload_n 0, 1) := by decide +kernel
theorem d_M_start_68 : decode me_M_start.2.1 68 = .ok (.getfield 59, 3) := by decide +kernel
theorem g_M_start_68 : bm_gf me_M_start 68 11 18 := ⟨_, _, _, _, d_M_start_68, rfl, by decide, uw_M, fl_M_59⟩
theorem d_M_start_71 : decode me_M_start.2.1 71 = .ok (.iload_n 1, 1) := by decide +kernel
theorem d_M_start_72 : decode me_M_start.2.1 72 = .ok (.iaload, 1) := by decide +kernel
theorem d_M_start_73 : decode me_M_start.2.1 73 = .ok (.ireturn, 1) := by decide +kernel
theorem d_M_isBatch_0 : decode me_M_isBatch.2.1 0 = .ok (.iload_n 1, 1) := by decide +kernel
theorem d_M_isBatch_1 : decode me_M_isBatch.2.1 1 = .ok (.iconst 0, 1) := by decide +kernel
theorem d_M_isBatch_2 : decode me_M_isBatch.2.1 2 = .ok (.aload_n 0, 1) := by decide +kernel
theorem d_M_isBatch_3 : decode me_M_isBatch.2.1 3 = .ok (.getfield 272, 3) := by decide +kernel
theorem g_M_isBatch_3 : bm_gf me_M_isBatch 3 11 15 := ⟨_, _, _, _, d_M_isBatch_3, rfl, by decide, uw_M, fl_M_272⟩
theorem d_M_isBatch_6 : decode me_M_isBatch.2.1 6 = .ok (.iconst 1, 1) := by decide +kernel
theorem d_M_isBatch_7 : decode me_M_isBatch.2.1 7 = .ok (.isub, 1) := by decide +kernel
theorem d_M_isBatch_8 : decode me_M_isBatch.2.1 8 = .ok (.invokestatic 141, 3) := by decide +kernel
theorem c_M_isBatch_8 : bm_is me_M_isBatch me_M_in 8 3 := ⟨_, d_M_isBatch_8, Or.inl ml_M_141, ⟨kc_M_in, in_BatchHallModel, by decide +kernel, by decide, by decide⟩, kt_M_in⟩
theorem d_M_isBatch_11 : decode me_M_isBatch.2.1 11 = .ok (.ireturn, 1) := by decide +kernel
theorem d_M_hold_0 : decode me_M_hold.2.1 0 = .ok (.aload_n 0, 1) := by decide +kernel
theorem d_M_hold_1 : decode me_M_hold.2.1 1 = .ok (.aload_n 0, 1) := by decide +kernel
theorem d_M_hold_2 : decode me_M_hold.2.1 2 = .ok (.iload_n 1, 1) := by decide +kernel
theorem d_M_hold_3 : decode me_M_hold.2.1 3 = .ok (.invokevirtual 281, 3) := by decide +kernel
theorem c_M_hold_3 : bm_iv me_M_hold me_M_isBatch 3 11 1 := ⟨_, d_M_hold_3, Or.inl ml_M_281, ⟨kc_M_isBatch, in_BatchHallModel, by decide +kernel, by decide, by decide⟩, ki_M_isBatch, ks_M_isBatch, _, _, rfl⟩
theorem d_M_hold_6 : decode me_M_hold.2.1 6 = .ok (.aload_n 0, 1) := by decide +kernel
theorem d_M_hold_7 : decode me_M_hold.2.1 7 = .ok (.iload_n 1, 1) := by decide +kernel
theorem d_M_hold_8 : decode me_M_hold.2.1 8 = .ok (.invokevirtual 281, 3) := by decide +kernel
theorem c_M_hold_8 : bm_iv me_M_hold me_M_isBatch 8 11 1 := ⟨_, d_M_hold_8, Or.inl ml_M_281, ⟨kc_M_isBatch, in_BatchHallModel, by decide +kernel, by decide, by decide⟩, ki_M_isBatch, ks_M_isBatch, _, _, rfl⟩
theorem d_M_hold_11 : decode me_M_hold.2.1 11 = .ok (.ifCond .eq (17), 3) := by decide +kernel
theorem d_M_hold_14 : decode me_M_hold.2.1 14 = .ok (.aload_n 0, 1) := by decide +kernel
theorem d_M_hold_15 : decode me_M_hold.2.1 15 = .ok (.getfield 59, 3) := by decide +kernel
theorem g_M_hold_15 : bm_gf me_M_hold 15 11 18 := ⟨_, _, _, _, d_M_hold_15, rfl, by decide, uw_M, fl_M_59⟩
theorem d_M_hold_18 : decode me_M_hold.2.1 18 = .ok (.iload_n 1, 1) := by decide +kernel
theorem d_M_hold_19 : decode me_M_hold.2.1 19 = .ok (.iaload, 1) := by decide +kernel
theorem d_M_hold_20 : decode me_M_hold.2.1 20 = .ok (.iconst 2, 1) := by decide +kernel
theorem d_M_hold_21 : decode me_M_hold.2.1 21 = .ok (.if_icmp .ne (7), 3) := by decide +kernel
theorem d_M_hold_24 : decode me_M_hold.2.1 24 = .ok (.iconst 1, 1) := by decide +kernel
theorem d_M_hold_25 : decode me_M_hold.2.1 25 = .ok (.goto (4), 3) := by decide +kernel
theorem d_M_hold_28 : decode me_M_hold.2.1 28 = .ok (.iconst 0, 1) := by decide +kernel
theorem d_M_hold_29 : decode me_M_hold.2.1 29 = .ok (.invokevirtual 169, 3) := by decide +kernel
theorem c_M_hold_29 : bm_iv me_M_hold me_M_goes 29 11 2 := ⟨_, d_M_hold_29, Or.inl ml_M_169, ⟨kc_M_goes, in_BatchHallModel, by decide +kernel, by decide, by decide⟩, ki_M_goes, ks_M_goes, _, _, rfl⟩
theorem d_M_hold_32 : decode me_M_hold.2.1 32 = .ok (.ifCond .eq (10), 3) := by decide +kernel
theorem d_M_hold_35 : decode me_M_hold.2.1 35 = .ok (.aload_n 0, 1) := by decide +kernel
theorem d_M_hold_36 : decode me_M_hold.2.1 36 = .ok (.getfield 59, 3) := by decide +kernel
theorem g_M_hold_36 : bm_gf me_M_hold 36 11 18 := ⟨_, _, _, _, d_M_hold_36, rfl, by decide, uw_M, fl_M_59⟩
theorem d_M_hold_39 : decode me_M_hold.2.1 39 = .ok (.iload_n 1, 1) := by decide +kernel
theorem d_M_hold_40 : decode me_M_hold.2.1 40 = .ok (.iconst 3, 1) := by decide +kernel
theorem d_M_hold_41 : decode me_M_hold.2.1 41 = .ok (.iastore, 1) := by decide +kernel
theorem d_M_hold_42 : decode me_M_hold.2.1 42 = .ok (.return_, 1) := by decide +kernel
theorem d_M_restart_0 : decode me_M_restart.2.1 0 = .ok (.aload_n 0, 1) := by decide +kernel
theorem d_M_restart_1 : decode me_M_restart.2.1 1 = .ok (.aload_n 0, 1) := by decide +kernel
theorem d_M_restart_2 : decode me_M_restart.2.1 2 = .ok (.iload_n 1, 1) := by decide +kernel
theorem d_M_restart_3 : decode me_M_restart.2.1 3 = .ok (.invokevirtual 281, 3) := by decide +kernel
theorem c_M_restart_3 : bm_iv me_M_restart me_M_isBatch 3 11 1 := ⟨_, d_M_restart_3, Or.inl ml_M_281, ⟨kc_M_isBatch, in_BatchHallModel, by decide +kernel, by decide, by decide⟩, ki_M_isBatch, ks_M_isBatch, _, _, rfl⟩
theorem d_M_restart_6 : decode me_M_restart.2.1 6 = .ok (.aload_n 0, 1) := by decide +kernel
theorem d_M_restart_7 : decode me_M_restart.2.1 7 = .ok (.iload_n 1, 1) := by decide +kernel
theorem d_M_restart_8 : decode me_M_restart.2.1 8 = .ok (.invokevirtual 281, 3) := by decide +kernel
theorem c_M_restart_8 : bm_iv me_M_restart me_M_isBatch 8 11 1 := ⟨_, d_M_restart_8, Or.inl ml_M_281, ⟨kc_M_isBatch, in_BatchHallModel, by decide +kernel, by decide, by decide⟩, ki_M_isBatch, ks_M_isBatch, _, _, rfl⟩
theorem d_M_restart_11 : decode me_M_restart.2.1 11 = .ok (.ifCond .eq (17), 3) := by decide +kernel
theorem d_M_restart_14 : decode me_M_restart.2.1 14 = .ok (.aload_n 0, 1) := by decide +kernel
theorem d_M_restart_15 : decode me_M_restart.2.1 15 = .ok (.getfield 59, 3) := by decide +kernel
theorem g_M_restart_15 : bm_gf me_M_restart 15 11 18 := ⟨_, _, _, _, d_M_restart_15, rfl, by decide, uw_M, fl_M_59⟩
theorem d_M_restart_18 : decode me_M_restart.2.1 18 = .ok (.iload_n 1, 1) := by decide +kernel
theorem d_M_restart_19 : decode me_M_restart.2.1 19 = .ok (.iaload, 1) := by decide +kernel
theorem d_M_restart_20 : decode me_M_restart.2.1 20 = .ok (.iconst 3, 1) := by decide +kernel
theorem d_M_restart_21 : decode me_M_restart.2.1 21 = .ok (.if_icmp .ne (7), 3) := by decide +kernel
theorem d_M_restart_24 : decode me_M_restart.2.1 24 = .ok (.iconst 1, 1) := by decide +kernel
theorem d_M_restart_25 : decode me_M_restart.2.1 25 = .ok (.goto (4), 3) := by decide +kernel
theorem d_M_restart_28 : decode me_M_restart.2.1 28 = .ok (.iconst 0, 1) := by decide +kernel
theorem d_M_restart_29 : decode me_M_restart.2.1 29 = .ok (.invokevirtual 169, 3) := by decide +kernel
theorem c_M_restart_29 : bm_iv me_M_restart me_M_goes 29 11 2 := ⟨_, d_M_restart_29, Or.inl ml_M_169, ⟨kc_M_goes, in_BatchHallModel, by decide +kernel, by decide, by decide⟩, ki_M_goes, ks_M_goes, _, _, rfl⟩
theorem d_M_restart_32 : decode me_M_restart.2.1 32 = .ok (.ifCond .ne (5), 3) := by decide +kernel
theorem d_M_restart_35 : decode me_M_restart.2.1 35 = .ok (.iconst 0, 1) := by decide +kernel
theorem d_M_restart_36 : decode me_M_restart.2.1 36 = .ok (.ireturn, 1) := by decide +kernel
theorem d_M_restart_37 : decode me_M_restart.2.1 37 = .ok (.aload_n 0, 1) := by decide +kernel
theorem d_M_restart_38 : decode me_M_restart.2.1 38 = .ok (.getfield 59, 3) := by decide +kernel
theorem g_M_restart_38 : bm_gf me_M_restart 38 11 18 := ⟨_, _, _, _, d_M_restart_38, rfl, by decide, uw_M, fl_M_59⟩
theorem d_M_restart_41 : decode me_M_restart.2.1 41 = .ok (.iload_n 1, 1) := by decide +kernel
theorem d_M_restart_42 : decode me_M_restart.2.1 42 = .ok (.iconst 2, 1) := by decide +kernel
theorem d_M_restart_43 : decode me_M_restart.2.1 43 = .ok (.iastore, 1) := by decide +kernel
theorem d_M_restart_44 : decode me_M_restart.2.1 44 = .ok (.aload_n 0, 1) := by decide +kernel
theorem d_M_restart_45 : decode me_M_restart.2.1 45 = .ok (.getfield 59, 3) := by decide +kernel
theorem g_M_restart_45 : bm_gf me_M_restart 45 11 18 := ⟨_, _, _, _, d_M_restart_45, rfl, by decide, uw_M, fl_M_59⟩
theorem d_M_restart_48 : decode me_M_restart.2.1 48 = .ok (.iload_n 1, 1) := by decide +kernel
theorem d_M_restart_49 : decode me_M_restart.2.1 49 = .ok (.iaload, 1) := by decide +kernel
theorem d_M_restart_50 : decode me_M_restart.2.1 50 = .ok (.ireturn, 1) := by decide +kernel
theorem d_M_stop_0 : decode me_M_stop.2.1 0 = .ok (.aload_n 0, 1) := by decide +kernel
theorem d_M_stop_1 : decode me_M_stop.2.1 1 = .ok (.aload_n 0, 1) := by decide +kernel
theorem d_M_stop_2 : decode me_M_stop.2.1 2 = .ok (.iload_n 1, 1) := by decide +kernel
theorem d_M_stop_3 : decode me_M_stop.2.1 3 = .ok (.invokevirtual 281, 3) := by decide +kernel
theorem c_M_stop_3 : bm_iv me_M_stop me_M_isBatch 3 11 1 := ⟨_, d_M_stop_3, Or.inl ml_M_281, ⟨kc_M_isBatch, in_BatchHallModel, by decide +kernel, by decide, by decide⟩, ki_M_isBatch, ks_M_isBatch, _, _, rfl⟩
theorem d_M_stop_6 : decode me_M_stop.2.1 6 = .ok (.aload_n 0, 1) := by decide +kernel
theorem d_M_stop_7 : decode me_M_stop.2.1 7 = .ok (.iload_n 1, 1) := by decide +kernel
theorem d_M_stop_8 : decode me_M_stop.2.1 8 = .ok (.invokevirtual 281, 3) := by decide +kernel
theorem c_M_stop_8 : bm_iv me_M_stop me_M_isBatch 8 11 1 := ⟨_, d_M_stop_8, Or.inl ml_M_281, ⟨kc_M_isBatch, in_BatchHallModel, by decide +kernel, by decide, by decide⟩, ki_M_isBatch, ks_M_isBatch, _, _, rfl⟩
theorem d_M_stop_11 : decode me_M_stop.2.1 11 = .ok (.ifCond .eq (27), 3) := by decide +kernel
theorem d_M_stop_14 : decode me_M_stop.2.1 14 = .ok (.aload_n 0, 1) := by decide +kernel
theorem d_M_stop_15 : decode me_M_stop.2.1 15 = .ok (.getfield 59, 3) := by decide +kernel
theorem g_M_stop_15 : bm_gf me_M_stop 15 11 18 := ⟨_, _, _, _, d_M_stop_15, rfl, by decide, uw_M, fl_M_59⟩
theorem d_M_stop_18 : decode me_M_stop.2.1 18 = .ok (.iload_n 1, 1) := by decide +kernel
theorem d_M_stop_19 : decode me_M_stop.2.1 19 = .ok (.iaload, 1) := by decide +kernel
theorem d_M_stop_20 : decode me_M_stop.2.1 20 = .ok (.iconst 2, 1) := by decide +kernel
theorem d_M_stop_21 : decode me_M_stop.2.1 21 = .ok (.if_icmp .eq (13), 3) := by decide +kernel
theorem d_M_stop_24 : decode me_M_stop.2.1 24 = .ok (.aload_n 0, 1) := by decide +kernel
theorem d_M_stop_25 : decode me_M_stop.2.1 25 = .ok (.getfield 59, 3) := by decide +kernel
theorem g_M_stop_25 : bm_gf me_M_stop 25 11 18 := ⟨_, _, _, _, d_M_stop_25, rfl, by decide, uw_M, fl_M_59⟩
theorem d_M_stop_28 : decode me_M_stop.2.1 28 = .ok (.iload_n 1, 1) := by decide +kernel
theorem d_M_stop_29 : decode me_M_stop.2.1 29 = .ok (.iaload, 1) := by decide +kernel
theorem d_M_stop_30 : decode me_M_stop.2.1 30 = .ok (.iconst 3, 1) := by decide +kernel
theorem d_M_stop_31 : decode me_M_stop.2.1 31 = .ok (.if_icmp .ne (7), 3) := by decide +kernel
theorem d_M_stop_34 : decode me_M_stop.2.1 34 = .ok (.iconst 1, 1) := by decide +kernel
theorem d_M_stop_35 : decode me_M_stop.2.1 35 = .ok (.goto (4), 3) := by decide +kernel
theorem d_M_stop_38 : decode me_M_stop.2.1 38 = .ok (.iconst 0, 1) := by decide +kernel
theorem d_M_stop_39 : decode me_M_stop.2.1 39 = .ok (.invokevirtual 169, 3) := by decide +kernel
theorem c_M_stop_39 : bm_iv me_M_stop me_M_goes 39 11 2 := ⟨_, d_M_stop_39, Or.inl ml_M_169, ⟨kc_M_goes, in_BatchHallModel, by decide +kernel, by decide, by decide⟩, ki_M_goes, ks_M_goes, _, _, rfl⟩
theorem d_M_stop_42 : decode me_M_stop.2.1 42 = .ok (.ifCond .ne (5), 3) := by decide +kernel
theorem d_M_stop_45 : decode me_M_stop.2.1 45 = .ok (.iconst 0, 1) := by decide +kernel
theorem d_M_stop_46 : decode me_M_stop.2.1 46 = .ok (.ireturn, 1) := by decide +kernel
theorem d_M_stop_47 : decode me_M_stop.2.1 47 = .ok (.aload_n 0, 1) := by decide +kernel
theorem d_M_stop_48 : decode me_M_stop.2.1 48 = .ok (.getfield 59, 3) := by decide +kernel
theorem g_M_stop_48 : bm_gf me_M_stop 48 11 18 := ⟨_, _, _, _, d_M_stop_48, rfl, by decide, uw_M, fl_M_59⟩
theorem d_M_stop_51 : decode me_M_stop.2.1 51 = .ok (.iload_n 1, 1) := by decide +kernel
theorem d_M_stop_52 : decode me_M_stop.2.1 52 = .ok (.iconst 4, 1) := by decide +kernel
theorem d_M_stop_53 : decode me_M_stop.2.1 53 = .ok (.iastore, 1) := by decide +kernel
theorem d_M_stop_54 : decode me_M_stop.2.1 54 = .ok (.aload_n 0, 1) := by decide +kernel
theorem d_M_stop_55 : decode me_M_stop.2.1 55 = .ok (.iload_n 1, 1) := by decide +kernel
theorem d_M_stop_56 : decode me_M_stop.2.1 56 = .ok (.invokevirtual 269, 3) := by decide +kernel
theorem c_M_stop_56 : bm_iv me_M_stop me_M_running 56 11 1 := ⟨_, d_M_stop_56, Or.inl ml_M_269, ⟨kc_M_running, in_BatchHallModel, by decide +kernel, by decide, by decide⟩, ki_M_running, ks_M_running, _, _, rfl⟩
theorem d_M_stop_59 : decode me_M_stop.2.1 59 = .ok (.ifCond .ne (13), 3) := by decide +kernel
theorem d_M_stop_62 : decode me_M_stop.2.1 62 = .ok (.aload_n 0, 1) := by decide +kernel
theorem d_M_stop_63 : decode me_M_stop.2.1 63 = .ok (.iload_n 1, 1) := by decide +kernel
theorem d_M_stop_64 : decode me_M_stop.2.1 64 = .ok (.iconst 5, 1) := by decide +kernel
theorem d_M_stop_65 : decode me_M_stop.2.1 65 = .ok (.invokevirtual 203, 3) := by decide +kernel
theorem c_M_stop_65 : bm_iv me_M_stop me_M_close 65 11 2 := ⟨_, d_M_stop_65, Or.inl ml_M_203, ⟨kc_M_close, in_BatchHallModel, by decide +kernel, by decide, by decide⟩, ki_M_close, ks_M_close, _, _, rfl⟩
theorem d_M_stop_68 : decode me_M_stop.2.1 68 = .ok (.aload_n 0, 1) := by decide +kernel
theorem d_M_stop_69 : decode me_M_stop.2.1 69 = .ok (.invokevirtual 278, 3) := by decide +kernel
theorem c_M_stop_69 : bm_iv me_M_stop me_M_claim 69 11 0 := ⟨_, d_M_stop_69, Or.inl ml_M_278, ⟨kc_M_claim, in_BatchHallModel, by decide +kernel, by decide, by decide⟩, ki_M_claim, ks_M_claim, _, _, rfl⟩
theorem d_M_stop_72 : decode me_M_stop.2.1 72 = .ok (.aload_n 0, 1) := by decide +kernel
theorem d_M_stop_73 : decode me_M_stop.2.1 73 = .ok (.getfield 59, 3) := by decide +kernel
theorem g_M_stop_73 : bm_gf me_M_stop 73 11 18 := ⟨_, _, _, _, d_M_stop_73, rfl, by decide, uw_M, fl_M_59⟩
theorem d_M_stop_76 : decode me_M_stop.2.1 76 = .ok (.iload_n 1, 1) := by decide +kernel
theorem d_M_stop_77 : decode me_M_stop.2.1 77 = .ok (.iaload, 1) := by decide +kernel
theorem d_M_stop_78 : decode me_M_stop.2.1 78 = .ok (.ireturn, 1) := by decide +kernel
theorem d_M_abort_0 : decode me_M_abort.2.1 0 = .ok (.aload_n 0, 1) := by decide +kernel
theorem d_M_abort_1 : decode me_M_abort.2.1 1 = .ok (.aload_n 0, 1) := by decide +kernel
theorem d_M_abort_2 : decode me_M_abort.2.1 2 = .ok (.iload_n 1, 1) := by decide +kernel
theorem d_M_abort_3 : decode me_M_abort.2.1 3 = .ok (.invokevirtual 281, 3) := by decide +kernel
theorem c_M_abort_3 : bm_iv me_M_abort me_M_isBatch 3 11 1 := ⟨_, d_M_abort_3, Or.inl ml_M_281, ⟨kc_M_isBatch, in_BatchHallModel, by decide +kernel, by decide, by decide⟩, ki_M_isBatch, ks_M_isBatch, _, _, rfl⟩
theorem d_M_abort_6 : decode me_M_abort.2.1 6 = .ok (.aload_n 0, 1) := by decide +kernel
theorem d_M_abort_7 : decode me_M_abort.2.1 7 = .ok (.iload_n 1, 1) := by decide +kernel
theorem d_M_abort_8 : decode me_M_abort.2.1 8 = .ok (.invokevirtual 281, 3) := by decide +kernel
theorem c_M_abort_8 : bm_iv me_M_abort me_M_isBatch 8 11 1 := ⟨_, d_M_abort_8, Or.inl ml_M_281, ⟨kc_M_isBatch, in_BatchHallModel, by decide +kernel, by decide, by decide⟩, ki_M_isBatch, ks_M_isBatch, _, _, rfl⟩
theorem d_M_abort_11 : decode me_M_abort.2.1 11 = .ok (.ifCond .eq (21), 3) := by decide +kernel
theorem d_M_abort_14 : decode me_M_abort.2.1 14 = .ok (.aload_n 0, 1) := by decide +kernel
theorem d_M_abort_15 : decode me_M_abort.2.1 15 = .ok (.getfield 59, 3) := by decide +kernel
theorem g_M_abort_15 : bm_gf me_M_abort 15 11 18 := ⟨_, _, _, _, d_M_abort_15, rfl, by decide, uw_M, fl_M_59⟩
theorem d_M_abort_18 : decode me_M_abort.2.1 18 = .ok (.iload_n 1, 1) := by decide +kernel
theorem d_M_abort_19 : decode me_M_abort.2.1 19 = .ok (.iaload, 1) := by decide +kernel
theorem d_M_abort_20 : decode me_M_abort.2.1 20 = .ok (.iconst 1, 1) := by decide +kernel
theorem d_M_abort_21 : decode me_M_abort.2.1 21 = .ok (.iconst 4, 1) := by decide +kernel
theorem d_M_abort_22 : decode me_M_abort.2.1 22 = .ok (.invokestatic 141, 3) := by decide +kernel
theorem c_M_abort_22 : bm_is me_M_abort me_M_in 22 3 := ⟨_, d_M_abort_22, Or.inl ml_M_141, ⟨kc_M_in, in_BatchHallModel, by decide +kernel, by decide, by decide⟩, kt_M_in⟩
theorem d_M_abort_25 : decode me_M_abort.2.1 25 = .ok (.ifCond .eq (7), 3) := by decide +kernel
theorem d_M_abort_28 : decode me_M_abort.2.1 28 = .ok (.iconst 1, 1) := by decide +kernel
theorem d_M_abort_29 : decode me_M_abort.2.1 29 = .ok (.goto (4), 3) := by decide +kernel
theorem d_M_abort_32 : decode me_M_abort.2.1 32 = .ok (.iconst 0, 1) := by decide +kernel
theorem d_M_abort_33 : decode me_M_abort.2.1 33 = .ok (.invokevirtual 169, 3) := by decide +kernel
theorem c_M_abort_33 : bm_iv me_M_abort me_M_goes 33 11 2 := ⟨_, d_M_abort_33, Or.inl ml_M_169, ⟨kc_M_goes, in_BatchHallModel, by decide +kernel, by decide, by decide⟩, ki_M_goes, ks_M_goes, _, _, rfl⟩
theorem d_M_abort_36 : decode me_M_abort.2.1 36 = .ok (.ifCond .eq (14), 3) := by decide +kernel
theorem d_M_abort_39 : decode me_M_abort.2.1 39 = .ok (.aload_n 0, 1) := by decide +kernel
theorem d_M_abort_40 : decode me_M_abort.2.1 40 = .ok (.iload_n 1, 1) := by decide +kernel
theorem d_M_abort_41 : decode me_M_abort.2.1 41 = .ok (.bipush (6), 2) := by decide +kernel
theorem d_M_abort_43 : decode me_M_abort.2.1 43 = .ok (.invokevirtual 203, 3) := by decide +kernel
theorem c_M_abort_43 : bm_iv me_M_abort me_M_close 43 11 2 := ⟨_, d_M_abort_43, Or.inl ml_M_203, ⟨kc_M_close, in_BatchHallModel, by decide +kernel, by decide, by decide⟩, ki_M_close, ks_M_close, _, _, rfl⟩
theorem d_M_abort_46 : decode me_M_abort.2.1 46 = .ok (.aload_n 0, 1) := by decide +kernel
theorem d_M_abort_47 : decode me_M_abort.2.1 47 = .ok (.invokevirtual 278, 3) := by decide +kernel
theorem c_M_abort_47 : bm_iv me_M_abort me_M_claim 47 11 0 := ⟨_, d_M_abort_47, Or.inl ml_M_278, ⟨kc_M_claim, in_BatchHallModel, by decide +kernel, by decide, by decide⟩, ki_M_claim, ks_M_claim, _, _, rfl⟩
theorem d_M_abort_50 : decode me_M_abort.2.1 50 = .ok (.return_, 1) := by decide +kernel
