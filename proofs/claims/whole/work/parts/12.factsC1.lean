theorem d_C_endsWell_0 : decode me_C_endsWell.2.1 0 = .ok (.iload_n 1, 1) := by decide +kernel
theorem d_C_endsWell_1 : decode me_C_endsWell.2.1 1 = .ok (.tableswitch (109) (5) (9) #[(50), (93), (109), (109), (35)], 35) := by decide +kernel
theorem d_C_endsWell_36 : decode me_C_endsWell.2.1 36 = .ok (.aload_n 0, 1) := by decide +kernel
theorem d_C_endsWell_37 : decode me_C_endsWell.2.1 37 = .ok (.getfield 15, 3) := by decide +kernel
theorem g_C_endsWell_37 : bm_gf me_C_endsWell 37 7 1 := ⟨_, _, _, _, d_C_endsWell_37, rfl, by decide, uw_C, fl_C_15⟩
theorem d_C_endsWell_40 : decode me_C_endsWell.2.1 40 = .ok (.iload_n 2, 1) := by decide +kernel
theorem d_C_endsWell_41 : decode me_C_endsWell.2.1 41 = .ok (.iaload, 1) := by decide +kernel
theorem d_C_endsWell_42 : decode me_C_endsWell.2.1 42 = .ok (.ifCond .ne (7), 3) := by decide +kernel
theorem d_C_endsWell_45 : decode me_C_endsWell.2.1 45 = .ok (.iconst 1, 1) := by decide +kernel
theorem d_C_endsWell_46 : decode me_C_endsWell.2.1 46 = .ok (.goto (4), 3) := by decide +kernel
theorem d_C_endsWell_49 : decode me_C_endsWell.2.1 49 = .ok (.iconst 0, 1) := by decide +kernel
theorem d_C_endsWell_50 : decode me_C_endsWell.2.1 50 = .ok (.ireturn, 1) := by decide +kernel
theorem d_C_endsWell_51 : decode me_C_endsWell.2.1 51 = .ok (.aload_n 0, 1) := by decide +kernel
theorem d_C_endsWell_52 : decode me_C_endsWell.2.1 52 = .ok (.getfield 21, 3) := by decide +kernel
theorem g_C_endsWell_52 : bm_gf me_C_endsWell 52 7 3 := ⟨_, _, _, _, d_C_endsWell_52, rfl, by decide, uw_C, fl_C_21⟩
theorem d_C_endsWell_55 : decode me_C_endsWell.2.1 55 = .ok (.iconst 2, 1) := by decide +kernel
theorem d_C_endsWell_56 : decode me_C_endsWell.2.1 56 = .ok (.iload_n 2, 1) := by decide +kernel
theorem d_C_endsWell_57 : decode me_C_endsWell.2.1 57 = .ok (.imul, 1) := by decide +kernel
theorem d_C_endsWell_58 : decode me_C_endsWell.2.1 58 = .ok (.iconst 1, 1) := by decide +kernel
theorem d_C_endsWell_59 : decode me_C_endsWell.2.1 59 = .ok (.iadd, 1) := by decide +kernel
theorem d_C_endsWell_60 : decode me_C_endsWell.2.1 60 = .ok (.iaload, 1) := by decide +kernel
theorem d_C_endsWell_61 : decode me_C_endsWell.2.1 61 = .ok (.iconst (-1), 1) := by decide +kernel
theorem d_C_endsWell_62 : decode me_C_endsWell.2.1 62 = .ok (.if_icmp .eq (30), 3) := by decide +kernel
theorem d_C_endsWell_65 : decode me_C_endsWell.2.1 65 = .ok (.aload_n 0, 1) := by decide +kernel
theorem d_C_endsWell_66 : decode me_C_endsWell.2.1 66 = .ok (.getfield 21, 3) := by decide +kernel
theorem g_C_endsWell_66 : bm_gf me_C_endsWell 66 7 3 := ⟨_, _, _, _, d_C_endsWell_66, rfl, by decide, uw_C, fl_C_21⟩
theorem d_C_endsWell_69 : decode me_C_endsWell.2.1 69 = .ok (.iconst 2, 1) := by decide +kernel
theorem d_C_endsWell_70 : decode me_C_endsWell.2.1 70 = .ok (.iload_n 2, 1) := by decide +kernel
theorem d_C_endsWell_71 : decode me_C_endsWell.2.1 71 = .ok (.imul, 1) := by decide +kernel
theorem d_C_endsWell_72 : decode me_C_endsWell.2.1 72 = .ok (.iconst 1, 1) := by decide +kernel
theorem d_C_endsWell_73 : decode me_C_endsWell.2.1 73 = .ok (.iadd, 1) := by decide +kernel
theorem d_C_endsWell_74 : decode me_C_endsWell.2.1 74 = .ok (.iaload, 1) := by decide +kernel
theorem d_C_endsWell_75 : decode me_C_endsWell.2.1 75 = .ok (.aload_n 0, 1) := by decide +kernel
theorem d_C_endsWell_76 : decode me_C_endsWell.2.1 76 = .ok (.getfield 21, 3) := by decide +kernel
theorem g_C_endsWell_76 : bm_gf me_C_endsWell 76 7 3 := ⟨_, _, _, _, d_C_endsWell_76, rfl, by decide, uw_C, fl_C_21⟩
theorem d_C_endsWell_79 : decode me_C_endsWell.2.1 79 = .ok (.iconst 2, 1) := by decide +kernel
theorem d_C_endsWell_80 : decode me_C_endsWell.2.1 80 = .ok (.iload_n 2, 1) := by decide +kernel
theorem d_C_endsWell_81 : decode me_C_endsWell.2.1 81 = .ok (.imul, 1) := by decide +kernel
theorem d_C_endsWell_82 : decode me_C_endsWell.2.1 82 = .ok (.iconst 2, 1) := by decide +kernel
theorem d_C_endsWell_83 : decode me_C_endsWell.2.1 83 = .ok (.iadd, 1) := by decide +kernel
theorem d_C_endsWell_84 : decode me_C_endsWell.2.1 84 = .ok (.iaload, 1) := by decide +kernel
theorem d_C_endsWell_85 : decode me_C_endsWell.2.1 85 = .ok (.if_icmp .ne (7), 3) := by decide +kernel
theorem d_C_endsWell_88 : decode me_C_endsWell.2.1 88 = .ok (.iconst 1, 1) := by decide +kernel
theorem d_C_endsWell_89 : decode me_C_endsWell.2.1 89 = .ok (.goto (4), 3) := by decide +kernel
theorem d_C_endsWell_92 : decode me_C_endsWell.2.1 92 = .ok (.iconst 0, 1) := by decide +kernel
theorem d_C_endsWell_93 : decode me_C_endsWell.2.1 93 = .ok (.ireturn, 1) := by decide +kernel
theorem d_C_endsWell_94 : decode me_C_endsWell.2.1 94 = .ok (.aload_n 0, 1) := by decide +kernel
theorem d_C_endsWell_95 : decode me_C_endsWell.2.1 95 = .ok (.getfield 18, 3) := by decide +kernel
theorem g_C_endsWell_95 : bm_gf me_C_endsWell 95 7 2 := ⟨_, _, _, _, d_C_endsWell_95, rfl, by decide, uw_C, fl_C_18⟩
theorem d_C_endsWell_98 : decode me_C_endsWell.2.1 98 = .ok (.iload_n 2, 1) := by decide +kernel
theorem d_C_endsWell_99 : decode me_C_endsWell.2.1 99 = .ok (.iaload, 1) := by decide +kernel
theorem d_C_endsWell_100 : decode me_C_endsWell.2.1 100 = .ok (.iconst (-1), 1) := by decide +kernel
theorem d_C_endsWell_101 : decode me_C_endsWell.2.1 101 = .ok (.if_icmp .eq (7), 3) := by decide +kernel
theorem d_C_endsWell_104 : decode me_C_endsWell.2.1 104 = .ok (.iconst 1, 1) := by decide +kernel
theorem d_C_endsWell_105 : decode me_C_endsWell.2.1 105 = .ok (.goto (4), 3) := by decide +kernel
theorem d_C_endsWell_108 : decode me_C_endsWell.2.1 108 = .ok (.iconst 0, 1) := by decide +kernel
theorem d_C_endsWell_109 : decode me_C_endsWell.2.1 109 = .ok (.ireturn, 1) := by decide +kernel
theorem d_C_endsWell_110 : decode me_C_endsWell.2.1 110 = .ok (.iconst 1, 1) := by decide +kernel
theorem d_C_endsWell_111 : decode me_C_endsWell.2.1 111 = .ok (.ireturn, 1) := by decide +kernel
theorem d_C_isMeasuredForChoices_0 : decode me_C_isMeasuredForChoices.2.1 0 = .ok (.aload_n 0, 1) := by decide +kernel
theorem d_C_isMeasuredForChoices_1 : decode me_C_isMeasuredForChoices.2.1 1 = .ok (.getfield 24, 3) := by decide +kernel
theorem g_C_isMeasuredForChoices_1 : bm_gf me_C_isMeasuredForChoices 1 7 4 := ⟨_, _, _, _, d_C_isMeasuredForChoices_1, rfl, by decide, uw_C, fl_C_24⟩
theorem d_C_isMeasuredForChoices_4 : decode me_C_isMeasuredForChoices.2.1 4 = .ok (.bipush (15), 2) := by decide +kernel
theorem d_C_isMeasuredForChoices_6 : decode me_C_isMeasuredForChoices.2.1 6 = .ok (.invokestatic 93, 3) := by decide +kernel
theorem c_C_isMeasuredForChoices_6 : bm_is me_C_isMeasuredForChoices me_A_fill 6 2 := ⟨_, d_C_isMeasuredForChoices_6, Or.inl ml_C_93, ⟨kc_A_fill, in_java_util_Arrays, by decide +kernel, by decide, by decide⟩, kt_A_fill⟩
theorem d_C_isMeasuredForChoices_9 : decode me_C_isMeasuredForChoices.2.1 9 = .ok (.aload_n 0, 1) := by decide +kernel
theorem d_C_isMeasuredForChoices_10 : decode me_C_isMeasuredForChoices.2.1 10 = .ok (.getfield 27, 3) := by decide +kernel
theorem g_C_isMeasuredForChoices_10 : bm_gf me_C_isMeasuredForChoices 10 7 5 := ⟨_, _, _, _, d_C_isMeasuredForChoices_10, rfl, by decide, uw_C, fl_C_27⟩
theorem d_C_isMeasuredForChoices_13 : decode me_C_isMeasuredForChoices.2.1 13 = .ok (.bipush (15), 2) := by decide +kernel
theorem d_C_isMeasuredForChoices_15 : decode me_C_isMeasuredForChoices.2.1 15 = .ok (.invokestatic 93, 3) := by decide +kernel
theorem c_C_isMeasuredForChoices_15 : bm_is me_C_isMeasuredForChoices me_A_fill 15 2 := ⟨_, d_C_isMeasuredForChoices_15, Or.inl ml_C_93, ⟨kc_A_fill, in_java_util_Arrays, by decide +kernel, by decide, by decide⟩, kt_A_fill⟩
theorem d_C_isMeasuredForChoices_18 : decode me_C_isMeasuredForChoices.2.1 18 = .ok (.aload_n 0, 1) := by decide +kernel
theorem d_C_isMeasuredForChoices_19 : decode me_C_isMeasuredForChoices.2.1 19 = .ok (.getfield 24, 3) := by decide +kernel
theorem g_C_isMeasuredForChoices_19 : bm_gf me_C_isMeasuredForChoices 19 7 4 := ⟨_, _, _, _, d_C_isMeasuredForChoices_19, rfl, by decide, uw_C, fl_C_24⟩
theorem d_C_isMeasuredForChoices_22 : decode me_C_isMeasuredForChoices.2.1 22 = .ok (.iconst 0, 1) := by decide +kernel
theorem d_C_isMeasuredForChoices_23 : decode me_C_isMeasuredForChoices.2.1 23 = .ok (.iconst 0, 1) := by decide +kernel
theorem d_C_isMeasuredForChoices_24 : decode me_C_isMeasuredForChoices.2.1 24 = .ok (.iastore, 1) := by decide +kernel
theorem d_C_isMeasuredForChoices_25 : decode me_C_isMeasuredForChoices.2.1 25 = .ok (.iconst 0, 1) := by decide +kernel
theorem d_C_isMeasuredForChoices_26 : decode me_C_isMeasuredForChoices.2.1 26 = .ok (.istore_n 2, 1) := by decide +kernel
theorem d_C_isMeasuredForChoices_27 : decode me_C_isMeasuredForChoices.2.1 27 = .ok (.iload_n 2, 1) := by decide +kernel
theorem d_C_isMeasuredForChoices_28 : decode me_C_isMeasuredForChoices.2.1 28 = .ok (.aload_n 1, 1) := by decide +kernel
theorem d_C_isMeasuredForChoices_29 : decode me_C_isMeasuredForChoices.2.1 29 = .ok (.getfield 47, 3) := by decide +kernel
theorem g_C_isMeasuredForChoices_29 : bm_gf me_C_isMeasuredForChoices 29 6 1 := ⟨_, _, _, _, d_C_isMeasuredForChoices_29, rfl, by decide, uw_R, fl_C_47⟩
theorem d_C_isMeasuredForChoices_32 : decode me_C_isMeasuredForChoices.2.1 32 = .ok (.if_icmp .ge (156), 3) := by decide +kernel
theorem d_C_isMeasuredForChoices_35 : decode me_C_isMeasuredForChoices.2.1 35 = .ok (.aload_n 1, 1) := by decide +kernel
theorem d_C_isMeasuredForChoices_36 : decode me_C_isMeasuredForChoices.2.1 36 = .ok (.getfield 53, 3) := by decide +kernel
theorem g_C_isMeasuredForChoices_36 : bm_gf me_C_isMeasuredForChoices 36 6 3 := ⟨_, _, _, _, d_C_isMeasuredForChoices_36, rfl, by decide, uw_R, fl_C_53⟩
theorem d_C_isMeasuredForChoices_39 : decode me_C_isMeasuredForChoices.2.1 39 = .ok (.iload_n 2, 1) := by decide +kernel
theorem d_C_isMeasuredForChoices_40 : decode me_C_isMeasuredForChoices.2.1 40 = .ok (.aaload, 1) := by decide +kernel
theorem d_C_isMeasuredForChoices_41 : decode me_C_isMeasuredForChoices.2.1 41 = .ok (.astore_n 3, 1) := by decide +kernel
theorem d_C_isMeasuredForChoices_42 : decode me_C_isMeasuredForChoices.2.1 42 = .ok (.aload_n 3, 1) := by decide +kernel
theorem d_C_isMeasuredForChoices_43 : decode me_C_isMeasuredForChoices.2.1 43 = .ok (.getfield 65, 3) := by decide +kernel
theorem g_C_isMeasuredForChoices_43 : bm_gf me_C_isMeasuredForChoices 43 8 0 := ⟨_, _, _, _, d_C_isMeasuredForChoices_43, rfl, by decide, uw_S, fl_C_65⟩
theorem d_C_isMeasuredForChoices_46 : decode me_C_isMeasuredForChoices.2.1 46 = .ok (.bipush (6), 2) := by decide +kernel
theorem d_C_isMeasuredForChoices_48 : decode me_C_isMeasuredForChoices.2.1 48 = .ok (.if_icmp .ne (40), 3) := by decide +kernel
theorem d_C_isMeasuredForChoices_51 : decode me_C_isMeasuredForChoices.2.1 51 = .ok (.aload_n 0, 1) := by decide +kernel
theorem d_C_isMeasuredForChoices_52 : decode me_C_isMeasuredForChoices.2.1 52 = .ok (.getfield 18, 3) := by decide +kernel
theorem g_C_isMeasuredForChoices_52 : bm_gf me_C_isMeasuredForChoices 52 7 2 := ⟨_, _, _, _, d_C_isMeasuredForChoices_52, rfl, by decide, uw_C, fl_C_18⟩
theorem d_C_isMeasuredForChoices_55 : decode me_C_isMeasuredForChoices.2.1 55 = .ok (.iload_n 2, 1) := by decide +kernel
theorem d_C_isMeasuredForChoices_56 : decode me_C_isMeasuredForChoices.2.1 56 = .ok (.iaload, 1) := by decide +kernel
theorem d_C_isMeasuredForChoices_57 : decode me_C_isMeasuredForChoices.2.1 57 = .ok (.istore 4, 2) := by decide +kernel
theorem d_C_isMeasuredForChoices_59 : decode me_C_isMeasuredForChoices.2.1 59 = .ok (.aload_n 0, 1) := by decide +kernel
theorem d_C_isMeasuredForChoices_60 : decode me_C_isMeasuredForChoices.2.1 60 = .ok (.getfield 24, 3) := by decide +kernel
theorem g_C_isMeasuredForChoices_60 : bm_gf me_C_isMeasuredForChoices 60 7 4 := ⟨_, _, _, _, d_C_isMeasuredForChoices_60, rfl, by decide, uw_C, fl_C_24⟩
theorem d_C_isMeasuredForChoices_63 : decode me_C_isMeasuredForChoices.2.1 63 = .ok (.iload_n 2, 1) := by decide +kernel
theorem d_C_isMeasuredForChoices_64 : decode me_C_isMeasuredForChoices.2.1 64 = .ok (.aload_n 0, 1) := by decide +kernel
theorem d_C_isMeasuredForChoices_65 : decode me_C_isMeasuredForChoices.2.1 65 = .ok (.getfield 27, 3) := by decide +kernel
theorem g_C_isMeasuredForChoices_65 : bm_gf me_C_isMeasuredForChoices 65 7 5 := ⟨_, _, _, _, d_C_isMeasuredForChoices_65, rfl, by decide, uw_C, fl_C_27⟩
theorem d_C_isMeasuredForChoices_68 : decode me_C_isMeasuredForChoices.2.1 68 = .ok (.iconst 2, 1) := by decide +kernel
theorem d_C_isMeasuredForChoices_69 : decode me_C_isMeasuredForChoices.2.1 69 = .ok (.iload 4, 2) := by decide +kernel
theorem d_C_isMeasuredForChoices_71 : decode me_C_isMeasuredForChoices.2.1 71 = .ok (.imul, 1) := by decide +kernel
theorem d_C_isMeasuredForChoices_72 : decode me_C_isMeasuredForChoices.2.1 72 = .ok (.iconst 1, 1) := by decide +kernel
theorem d_C_isMeasuredForChoices_73 : decode me_C_isMeasuredForChoices.2.1 73 = .ok (.iadd, 1) := by decide +kernel
theorem d_C_isMeasuredForChoices_74 : decode me_C_isMeasuredForChoices.2.1 74 = .ok (.iaload, 1) := by decide +kernel
theorem d_C_isMeasuredForChoices_75 : decode me_C_isMeasuredForChoices.2.1 75 = .ok (.aload_n 0, 1) := by decide +kernel
theorem d_C_isMeasuredForChoices_76 : decode me_C_isMeasuredForChoices.2.1 76 = .ok (.getfield 27, 3) := by decide +kernel
theorem g_C_isMeasuredForChoices_76 : bm_gf me_C_isMeasuredForChoices 76 7 5 := ⟨_, _, _, _, d_C_isMeasuredForChoices_76, rfl, by decide, uw_C, fl_C_27⟩
theorem d_C_isMeasuredForChoices_79 : decode me_C_isMeasuredForChoices.2.1 79 = .ok (.iconst 2, 1) := by decide +kernel
theorem d_C_isMeasuredForChoices_80 : decode me_C_isMeasuredForChoices.2.1 80 = .ok (.iload 4, 2) := by decide +kernel
theorem d_C_isMeasuredForChoices_82 : decode me_C_isMeasuredForChoices.2.1 82 = .ok (.imul, 1) := by decide +kernel
theorem d_C_isMeasuredForChoices_83 : decode me_C_isMeasuredForChoices.2.1 83 = .ok (.iconst 2, 1) := by decide +kernel
theorem d_C_isMeasuredForChoices_84 : decode me_C_isMeasuredForChoices.2.1 84 = .ok (.iadd, 1) := by decide +kernel
theorem d_C_isMeasuredForChoices_85 : decode me_C_isMeasuredForChoices.2.1 85 = .ok (.iaload, 1) := by decide +kernel
theorem d_C_isMeasuredForChoices_86 : decode me_C_isMeasuredForChoices.2.1 86 = .ok (.ior, 1) := by decide +kernel
theorem d_C_isMeasuredForChoices_87 : decode me_C_isMeasuredForChoices.2.1 87 = .ok (.iastore, 1) := by decide +kernel
theorem d_C_isMeasuredForChoices_88 : decode me_C_isMeasuredForChoices.2.1 88 = .ok (.aload_n 3, 1) := by decide +kernel
theorem d_C_isMeasuredForChoices_89 : decode me_C_isMeasuredForChoices.2.1 89 = .ok (.getfield 65, 3) := by decide +kernel
theorem g_C_isMeasuredForChoices_89 : bm_gf me_C_isMeasuredForChoices 89 8 0 := ⟨_, _, _, _, d_C_isMeasuredForChoices_89, rfl, by decide, uw_S, fl_C_65⟩
theorem d_C_isMeasuredForChoices_92 : decode me_C_isMeasuredForChoices.2.1 92 = .ok (.bipush (7), 2) := by decide +kernel
theorem d_C_isMeasuredForChoices_94 : decode me_C_isMeasuredForChoices.2.1 94 = .ok (.if_icmp .ne (21), 3) := by decide +kernel
theorem d_C_isMeasuredForChoices_97 : decode me_C_isMeasuredForChoices.2.1 97 = .ok (.aload_n 0, 1) := by decide +kernel
theorem d_C_isMeasuredForChoices_98 : decode me_C_isMeasuredForChoices.2.1 98 = .ok (.getfield 24, 3) := by decide +kernel
theorem g_C_isMeasuredForChoices_98 : bm_gf me_C_isMeasuredForChoices 98 7 4 := ⟨_, _, _, _, d_C_isMeasuredForChoices_98, rfl, by decide, uw_C, fl_C_24⟩
theorem d_C_isMeasuredForChoices_101 : decode me_C_isMeasuredForChoices.2.1 101 = .ok (.iload_n 2, 1) := by decide +kernel
theorem d_C_isMeasuredForChoices_102 : decode me_C_isMeasuredForChoices.2.1 102 = .ok (.iaload, 1) := by decide +kernel
theorem d_C_isMeasuredForChoices_103 : decode me_C_isMeasuredForChoices.2.1 103 = .ok (.aload_n 3, 1) := by decide +kernel
theorem d_C_isMeasuredForChoices_104 : decode me_C_isMeasuredForChoices.2.1 104 = .ok (.getfield 70, 3) := by decide +kernel
theorem g_C_isMeasuredForChoices_104 : bm_gf me_C_isMeasuredForChoices 104 8 1 := ⟨_, _, _, _, d_C_isMeasuredForChoices_104, rfl, by decide, uw_S, fl_C_70⟩
theorem d_C_isMeasuredForChoices_107 : decode me_C_isMeasuredForChoices.2.1 107 = .ok (.ishr, 1) := by decide +kernel
theorem d_C_isMeasuredForChoices_108 : decode me_C_isMeasuredForChoices.2.1 108 = .ok (.iconst 1, 1) := by decide +kernel
theorem d_C_isMeasuredForChoices_109 : decode me_C_isMeasuredForChoices.2.1 109 = .ok (.iand, 1) := by decide +kernel
theorem d_C_isMeasuredForChoices_110 : decode me_C_isMeasuredForChoices.2.1 110 = .ok (.ifCond .ne (5), 3) := by decide +kernel
theorem d_C_isMeasuredForChoices_113 : decode me_C_isMeasuredForChoices.2.1 113 = .ok (.iconst 0, 1) := by decide +kernel
theorem d_C_isMeasuredForChoices_114 : decode me_C_isMeasuredForChoices.2.1 114 = .ok (.ireturn, 1) := by decide +kernel
theorem d_C_isMeasuredForChoices_115 : decode me_C_isMeasuredForChoices.2.1 115 = .ok (.aload_n 3, 1) := by decide +kernel
theorem d_C_isMeasuredForChoices_116 : decode me_C_isMeasuredForChoices.2.1 116 = .ok (.getfield 65, 3) := by decide +kernel
theorem g_C_isMeasuredForChoices_116 : bm_gf me_C_isMeasuredForChoices 116 8 0 := ⟨_, _, _, _, d_C_isMeasuredForChoices_116, rfl, by decide, uw_S, fl_C_65⟩
theorem d_C_isMeasuredForChoices_119 : decode me_C_isMeasuredForChoices.2.1 119 = .ok (.iconst 4, 1) := by decide +kernel
theorem d_C_isMeasuredForChoices_120 : decode me_C_isMeasuredForChoices.2.1 120 = .ok (.if_icmp .ne (19), 3) := by decide +kernel
theorem d_C_isMeasuredForChoices_123 : decode me_C_isMeasuredForChoices.2.1 123 = .ok (.aload_n 0, 1) := by decide +kernel
theorem d_C_isMeasuredForChoices_124 : decode me_C_isMeasuredForChoices.2.1 124 = .ok (.getfield 24, 3) := by decide +kernel
theorem g_C_isMeasuredForChoices_124 : bm_gf me_C_isMeasuredForChoices 124 7 4 := ⟨_, _, _, _, d_C_isMeasuredForChoices_124, rfl, by decide, uw_C, fl_C_24⟩
theorem d_C_isMeasuredForChoices_127 : decode me_C_isMeasuredForChoices.2.1 127 = .ok (.iload_n 2, 1) := by decide +kernel
theorem d_C_isMeasuredForChoices_128 : decode me_C_isMeasuredForChoices.2.1 128 = .ok (.iaload, 1) := by decide +kernel
theorem d_C_isMeasuredForChoices_129 : decode me_C_isMeasuredForChoices.2.1 129 = .ok (.iconst 1, 1) := by decide +kernel
theorem d_C_isMeasuredForChoices_130 : decode me_C_isMeasuredForChoices.2.1 130 = .ok (.aload_n 3, 1) := by decide +kernel
theorem d_C_isMeasuredForChoices_131 : decode me_C_isMeasuredForChoices.2.1 131 = .ok (.getfield 77, 3) := by decide +kernel
theorem g_C_isMeasuredForChoices_131 : bm_gf me_C_isMeasuredForChoices 131 8 2 := ⟨_, _, _, _, d_C_isMeasuredForChoices_131, rfl, by decide, uw_S, fl_C_77⟩
theorem d_C_isMeasuredForChoices_134 : decode me_C_isMeasuredForChoices.2.1 134 = .ok (.ishl, 1) := by decide +kernel
theorem d_C_isMeasuredForChoices_135 : decode me_C_isMeasuredForChoices.2.1 135 = .ok (.ior, 1) := by decide +kernel
theorem d_C_isMeasuredForChoices_136 : decode me_C_isMeasuredForChoices.2.1 136 = .ok (.goto (9), 3) := by decide +kernel
theorem d_C_isMeasuredForChoices_139 : decode me_C_isMeasuredForChoices.2.1 139 = .ok (.aload_n 0, 1) := by decide +kernel
theorem d_C_isMeasuredForChoices_140 : decode me_C_isMeasuredForChoices.2.1 140 = .ok (.getfield 24, 3) := by decide +kernel
theorem g_C_isMeasuredForChoices_140 : bm_gf me_C_isMeasuredForChoices 140 7 4 := ⟨_, _, _, _, d_C_isMeasuredForChoices_140, rfl, by decide, uw_C, fl_C_24⟩
theorem d_C_isMeasuredForChoices_143 : decode me_C_isMeasuredForChoices.2.1 143 = .ok (.iload_n 2, 1) := by decide +kernel
theorem d_C_isMeasuredForChoices_144 : decode me_C_isMeasuredForChoices.2.1 144 = .ok (.iaload, 1) := by decide +kernel
theorem d_C_isMeasuredForChoices_145 : decode me_C_isMeasuredForChoices.2.1 145 = .ok (.istore 4, 2) := by decide +kernel
theorem d_C_isMeasuredForChoices_147 : decode me_C_isMeasuredForChoices.2.1 147 = .ok (.aload_n 0, 1) := by decide +kernel
theorem d_C_isMeasuredForChoices_148 : decode me_C_isMeasuredForChoices.2.1 148 = .ok (.aload_n 1, 1) := by decide +kernel
theorem d_C_isMeasuredForChoices_149 : decode me_C_isMeasuredForChoices.2.1 149 = .ok (.iload_n 2, 1) := by decide +kernel
theorem d_C_isMeasuredForChoices_150 : decode me_C_isMeasuredForChoices.2.1 150 = .ok (.aload_n 3, 1) := by decide +kernel
theorem d_C_isMeasuredForChoices_151 : decode me_C_isMeasuredForChoices.2.1 151 = .ok (.iconst 0, 1) := by decide +kernel
theorem d_C_isMeasuredForChoices_152 : decode me_C_isMeasuredForChoices.2.1 152 = .ok (.invokevirtual 99, 3) := by decide +kernel
theorem c_C_isMeasuredForChoices_152 : bm_iv me_C_isMeasuredForChoices me_S_wayOut 152 8 1 := ⟨_, d_C_isMeasuredForChoices_152, Or.inl ml_C_99, ⟨kc_S_wayOut, in_BatchHall_Step, by decide +kernel, by decide, by decide⟩, ki_S_wayOut, ks_S_wayOut, _, _, rfl⟩
theorem d_C_isMeasuredForChoices_155 : decode me_C_isMeasuredForChoices.2.1 155 = .ok (.iload 4, 2) := by decide +kernel
theorem d_C_isMeasuredForChoices_157 : decode me_C_isMeasuredForChoices.2.1 157 = .ok (.invokevirtual 120, 3) := by decide +kernel
theorem c_C_isMeasuredForChoices_157 : bm_iv me_C_isMeasuredForChoices me_C_spreadNames 157 7 4 := ⟨_, d_C_isMeasuredForChoices_157, Or.inl ml_C_120, ⟨kc_C_spreadNames, in_BatchHall_ReleaseCheck, by decide +kernel, by decide, by decide⟩, ki_C_spreadNames, ks_C_spreadNames, _, _, rfl⟩
theorem d_C_isMeasuredForChoices_160 : decode me_C_isMeasuredForChoices.2.1 160 = .ok (.aload_n 3, 1) := by decide +kernel
theorem d_C_isMeasuredForChoices_161 : decode me_C_isMeasuredForChoices.2.1 161 = .ok (.getfield 65, 3) := by decide +kernel
theorem g_C_isMeasuredForChoices_161 : bm_gf me_C_isMeasuredForChoices 161 8 0 := ⟨_, _, _, _, d_C_isMeasuredForChoices_161, rfl, by decide, uw_S, fl_C_65⟩
theorem d_C_isMeasuredForChoices_164 : decode me_C_isMeasuredForChoices.2.1 164 = .ok (.bipush (8), 2) := by decide +kernel
theorem d_C_isMeasuredForChoices_166 : decode me_C_isMeasuredForChoices.2.1 166 = .ok (.if_icmp .eq (16), 3) := by decide +kernel
theorem d_C_isMeasuredForChoices_169 : decode me_C_isMeasuredForChoices.2.1 169 = .ok (.aload_n 0, 1) := by decide +kernel
theorem d_C_isMeasuredForChoices_170 : decode me_C_isMeasuredForChoices.2.1 170 = .ok (.aload_n 1, 1) := by decide +kernel
theorem d_C_isMeasuredForChoices_171 : decode me_C_isMeasuredForChoices.2.1 171 = .ok (.iload_n 2, 1) := by decide +kernel
theorem d_C_isMeasuredForChoices_172 : decode me_C_isMeasuredForChoices.2.1 172 = .ok (.aload_n 3, 1) := by decide +kernel
theorem d_C_isMeasuredForChoices_173 : decode me_C_isMeasuredForChoices.2.1 173 = .ok (.iconst 1, 1) := by decide +kernel
theorem d_C_isMeasuredForChoices_174 : decode me_C_isMeasuredForChoices.2.1 174 = .ok (.invokevirtual 99, 3) := by decide +kernel
theorem c_C_isMeasuredForChoices_174 : bm_iv me_C_isMeasuredForChoices me_S_wayOut 174 8 1 := ⟨_, d_C_isMeasuredForChoices_174, Or.inl ml_C_99, ⟨kc_S_wayOut, in_BatchHall_Step, by decide +kernel, by decide, by decide⟩, ki_S_wayOut, ks_S_wayOut, _, _, rfl⟩
theorem d_C_isMeasuredForChoices_177 : decode me_C_isMeasuredForChoices.2.1 177 = .ok (.iload 4, 2) := by decide +kernel
theorem d_C_isMeasuredForChoices_179 : decode me_C_isMeasuredForChoices.2.1 179 = .ok (.invokevirtual 120, 3) := by decide +kernel
theorem c_C_isMeasuredForChoices_179 : bm_iv me_C_isMeasuredForChoices me_C_spreadNames 179 7 4 := ⟨_, d_C_isMeasuredForChoices_179, Or.inl ml_C_120, ⟨kc_C_spreadNames, in_BatchHall_ReleaseCheck, by decide +kernel, by decide, by decide⟩, ki_C_spreadNames, ks_C_spreadNames, _, _, rfl⟩
theorem d_C_isMeasuredForChoices_182 : decode me_C_isMeasuredForChoices.2.1 182 = .ok (.iinc 2 (1), 3) := by decide +kernel
theorem d_C_isMeasuredForChoices_185 : decode me_C_isMeasuredForChoices.2.1 185 = .ok (.goto (-158), 3) := by decide +kernel
theorem d_C_isMeasuredForChoices_188 : decode me_C_isMeasuredForChoices.2.1 188 = .ok (.iconst 1, 1) := by decide +kernel
theorem d_C_isMeasuredForChoices_189 : decode me_C_isMeasuredForChoices.2.1 189 = .ok (.ireturn, 1) := by decide +kernel
theorem d_C_spreadNames_0 : decode me_C_spreadNames.2.1 0 = .ok (.iload_n 3, 1) := by decide +kernel
theorem d_C_spreadNames_1 : decode me_C_spreadNames.2.1 1 = .ok (.aload_n 1, 1) := by decide +kernel
theorem d_C_spreadNames_2 : decode me_C_spreadNames.2.1 2 = .ok (.getfield 47, 3) := by decide +kernel
theorem g_C_spreadNames_2 : bm_gf me_C_spreadNames 2 6 1 := ⟨_, _, _, _, d_C_spreadNames_2, rfl, by decide, uw_R, fl_C_47⟩
theorem d_C_spreadNames_5 : decode me_C_spreadNames.2.1 5 = .ok (.invokestatic 80, 3) := by decide +kernel
theorem c_C_spreadNames_5 : bm_is me_C_spreadNames me_H_isBelow 5 2 := ⟨_, d_C_spreadNames_5, Or.inr ⟨"BatchHall", by decide +kernel⟩, ⟨kc_H_isBelow, in_BatchHall, by decide +kernel, by decide, by decide⟩, kt_H_isBelow⟩
theorem d_C_spreadNames_8 : decode me_C_spreadNames.2.1 8 = .ok (.ifCond .ne (4), 3) := by decide +kernel
theorem d_C_spreadNames_11 : decode me_C_spreadNames.2.1 11 = .ok (.return_, 1) := by decide +kernel
theorem d_C_spreadNames_12 : decode me_C_spreadNames.2.1 12 = .ok (.aload_n 1, 1) := by decide +kernel
theorem d_C_spreadNames_13 : decode me_C_spreadNames.2.1 13 = .ok (.getfield 53, 3) := by decide +kernel
theorem g_C_spreadNames_13 : bm_gf me_C_spreadNames 13 6 3 := ⟨_, _, _, _, d_C_spreadNames_13, rfl, by decide, uw_R, fl_C_53⟩
theorem d_C_spreadNames_16 : decode me_C_spreadNames.2.1 16 = .ok (.iload_n 3, 1) := by decide +kernel
theorem d_C_spreadNames_17 : decode me_C_spreadNames.2.1 17 = .ok (.aaload, 1) := by decide +kernel
theorem d_C_spreadNames_18 : decode me_C_spreadNames.2.1 18 = .ok (.getfield 65, 3) := by decide +kernel
theorem g_C_spreadNames_18 : bm_gf me_C_spreadNames 18 8 0 := ⟨_, _, _, _, d_C_spreadNames_18, rfl, by decide, uw_S, fl_C_65⟩
theorem d_C_spreadNames_21 : decode me_C_spreadNames.2.1 21 = .ok (.bipush (6), 2) := by decide +kernel
theorem d_C_spreadNames_23 : decode me_C_spreadNames.2.1 23 = .ok (.if_icmp .ne (22), 3) := by decide +kernel
theorem d_C_spreadNames_26 : decode me_C_spreadNames.2.1 26 = .ok (.aload_n 0, 1) := by decide +kernel
theorem d_C_spreadNames_27 : decode me_C_spreadNames.2.1 27 = .ok (.getfield 27, 3) := by decide +kernel
theorem g_C_spreadNames_27 : bm_gf me_C_spreadNames 27 7 5 := ⟨_, _, _, _, d_C_spreadNames_27, rfl, by decide, uw_C, fl_C_27⟩
theorem d_C_spreadNames_30 : decode me_C_spreadNames.2.1 30 = .ok (.aload_n 0, 1) := by decide +kernel
theorem d_C_spreadNames_31 : decode me_C_spreadNames.2.1 31 = .ok (.getfield 15, 3) := by decide +kernel
theorem g_C_spreadNames_31 : bm_gf me_C_spreadNames 31 7 1 := ⟨_, _, _, _, d_C_spreadNames_31, rfl, by decide, uw_C, fl_C_15⟩
theorem d_C_spreadNames_34 : decode me_C_spreadNames.2.1 34 = .ok (.iload_n 2, 1) := by decide +kernel
theorem d_C_spreadNames_35 : decode me_C_spreadNames.2.1 35 = .ok (.iaload, 1) := by decide +kernel
theorem d_C_spreadNames_36 : decode me_C_spreadNames.2.1 36 = .ok (.dup2, 1) := by decide +kernel
theorem d_C_spreadNames_37 : decode me_C_spreadNames.2.1 37 = .ok (.iaload, 1) := by decide +kernel
theorem d_C_spreadNames_38 : decode me_C_spreadNames.2.1 38 = .ok (.iload 4, 2) := by decide +kernel
theorem d_C_spreadNames_40 : decode me_C_spreadNames.2.1 40 = .ok (.iand, 1) := by decide +kernel
theorem d_C_spreadNames_41 : decode me_C_spreadNames.2.1 41 = .ok (.iastore, 1) := by decide +kernel
theorem d_C_spreadNames_42 : decode me_C_spreadNames.2.1 42 = .ok (.goto (14), 3) := by decide +kernel
theorem d_C_spreadNames_45 : decode me_C_spreadNames.2.1 45 = .ok (.aload_n 0, 1) := by decide +kernel
theorem d_C_spreadNames_46 : decode me_C_spreadNames.2.1 46 = .ok (.getfield 24, 3) := by decide +kernel
theorem g_C_spreadNames_46 : bm_gf me_C_spreadNames 46 7 4 := ⟨_, _, _, _, d_C_spreadNames_46, rfl, by decide, uw_C, fl_C_24⟩
theorem d_C_spreadNames_49 : decode me_C_spreadNames.2.1 49 = .ok (.iload_n 3, 1) := by decide +kernel
theorem d_C_spreadNames_50 : decode me_C_spreadNames.2.1 50 = .ok (.dup2, 1) := by decide +kernel
theorem d_C_spreadNames_51 : decode me_C_spreadNames.2.1 51 = .ok (.iaload, 1) := by decide +kernel
theorem d_C_spreadNames_52 : decode me_C_spreadNames.2.1 52 = .ok (.iload 4, 2) := by decide +kernel
theorem d_C_spreadNames_54 : decode me_C_spreadNames.2.1 54 = .ok (.iand, 1) := by decide +kernel
theorem d_C_spreadNames_55 : decode me_C_spreadNames.2.1 55 = .ok (.iastore, 1) := by decide +kernel
theorem d_C_spreadNames_56 : decode me_C_spreadNames.2.1 56 = .ok (.return_, 1) := by decide +kernel
theorem d_C_hasEnoughUnits_0 : decode me_C_hasEnoughUnits.2.1 0 = .ok (.iconst 0, 1) := by decide +kernel
theorem d_C_hasEnoughUnits_1 : decode me_C_hasEnoughUnits.2.1 1 = .ok (.istore_n 3, 1) := by decide +kernel
theorem d_C_hasEnoughUnits_2 : decode me_C_hasEnoughUnits.2.1 2 = .ok (.iload_n 3, 1) := by decide +kernel
theorem d_C_hasEnoughUnits_3 : decode me_C_hasEnoughUnits.2.1 3 = .ok (.iconst 3, 1) := by decide +kernel
theorem d_C_hasEnoughUnits_4 : decode me_C_hasEnoughUnits.2.1 4 = .ok (.if_icmp .ge (54), 3) := by decide +kernel
theorem d_C_hasEnoughUnits_7 : decode me_C_hasEnoughUnits.2.1 7 = .ok (.iconst 0, 1) := by decide +kernel
theorem d_C_hasEnoughUnits_8 : decode me_C_hasEnoughUnits.2.1 8 = .ok (.istore 4, 2) := by decide +kernel
theorem d_C_hasEnoughUnits_10 : decode me_C_hasEnoughUnits.2.1 10 = .ok (.iconst 0, 1) := by decide +kernel
theorem d_C_hasEnoughUnits_11 : decode me_C_hasEnoughUnits.2.1 11 = .ok (.istore 5, 2) := by decide +kernel
theorem d_C_hasEnoughUnits_13 : decode me_C_hasEnoughUnits.2.1 13 = .ok (.iload 5, 2) := by decide +kernel
theorem d_C_hasEnoughUnits_15 : decode me_C_hasEnoughUnits.2.1 15 = .ok (.bipush (6), 2) := by decide +kernel
theorem d_C_hasEnoughUnits_17 : decode me_C_hasEnoughUnits.2.1 17 = .ok (.if_icmp .ge (23), 3) := by decide +kernel
theorem d_C_hasEnoughUnits_20 : decode me_C_hasEnoughUnits.2.1 20 = .ok (.aload_n 2, 1) := by decide +kernel
theorem d_C_hasEnoughUnits_21 : decode me_C_hasEnoughUnits.2.1 21 = .ok (.iload 5, 2) := by decide +kernel
theorem d_C_hasEnoughUnits_23 : decode me_C_hasEnoughUnits.2.1 23 = .ok (.aaload, 1) := by decide +kernel
theorem d_C_hasEnoughUnits_24 : decode me_C_hasEnoughUnits.2.1 24 = .ok (.getfield 124, 3) := by decide +kernel
theorem g_C_hasEnoughUnits_24 : bm_gf me_C_hasEnoughUnits 24 10 0 := ⟨_, _, _, _, d_C_hasEnoughUnits_24, rfl, by decide, uw_U, fl_C_124⟩
theorem d_C_hasEnoughUnits_27 : decode me_C_hasEnoughUnits.2.1 27 = .ok (.iload_n 3, 1) := by decide +kernel
theorem d_C_hasEnoughUnits_28 : decode me_C_hasEnoughUnits.2.1 28 = .ok (.if_icmp .ne (6), 3) := by decide +kernel
theorem d_C_hasEnoughUnits_31 : decode me_C_hasEnoughUnits.2.1 31 = .ok (.iinc 4 (1), 3) := by decide +kernel
theorem d_C_hasEnoughUnits_34 : decode me_C_hasEnoughUnits.2.1 34 = .ok (.iinc 5 (1), 3) := by decide +kernel
theorem d_C_hasEnoughUnits_37 : decode me_C_hasEnoughUnits.2.1 37 = .ok (.goto (-24), 3) := by decide +kernel
theorem d_C_hasEnoughUnits_40 : decode me_C_hasEnoughUnits.2.1 40 = .ok (.iload 4, 2) := by decide +kernel
theorem d_C_hasEnoughUnits_42 : decode me_C_hasEnoughUnits.2.1 42 = .ok (.aload_n 1, 1) := by decide +kernel
theorem d_C_hasEnoughUnits_43 : decode me_C_hasEnoughUnits.2.1 43 = .ok (.iload_n 3, 1) := by decide +kernel
theorem d_C_hasEnoughUnits_44 : decode me_C_hasEnoughUnits.2.1 44 = .ok (.invokevirtual 129, 3) := by decide +kernel
theorem c_C_hasEnoughUnits_44 : bm_iv me_C_hasEnoughUnits me_R_countRoles 44 6 1 := ⟨_, d_C_hasEnoughUnits_44, Or.inl ml_C_129, ⟨kc_R_countRoles, in_BatchHall_Recipe, by decide +kernel, by decide, by decide⟩, ki_R_countRoles, ks_R_countRoles, _, _, rfl⟩
theorem d_C_hasEnoughUnits_47 : decode me_C_hasEnoughUnits.2.1 47 = .ok (.if_icmp .ge (5), 3) := by decide +kernel
theorem d_C_hasEnoughUnits_50 : decode me_C_hasEnoughUnits.2.1 50 = .ok (.iconst 0, 1) := by decide +kernel
theorem d_C_hasEnoughUnits_51 : decode me_C_hasEnoughUnits.2.1 51 = .ok (.ireturn, 1) := by decide +kernel
theorem d_C_hasEnoughUnits_52 : decode me_C_hasEnoughUnits.2.1 52 = .ok (.iinc 3 (1), 3) := by decide +kernel
theorem d_C_hasEnoughUnits_55 : decode me_C_hasEnoughUnits.2.1 55 = .ok (.goto (-53), 3) := by decide +kernel
theorem d_C_hasEnoughUnits_58 : decode me_C_hasEnoughUnits.2.1 58 = .ok (.iconst 1, 1) := by decide +kernel
theorem d_C_hasEnoughUnits_59 : decode me_C_hasEnoughUnits.2.1 59 = .ok (.ireturn, 1) := by decide +kernel
