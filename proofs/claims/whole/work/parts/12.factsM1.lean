theorem d_M_isSound_0 : decode me_M_isSound.2.1 0 = .ok (.bipush (12), 2) := by decide +kernel
theorem d_M_isSound_2 : decode me_M_isSound.2.1 2 = .ok (.iload_n 1, 1) := by decide +kernel
theorem d_M_isSound_3 : decode me_M_isSound.2.1 3 = .ok (.imul, 1) := by decide +kernel
theorem d_M_isSound_4 : decode me_M_isSound.2.1 4 = .ok (.iload_n 2, 1) := by decide +kernel
theorem d_M_isSound_5 : decode me_M_isSound.2.1 5 = .ok (.iadd, 1) := by decide +kernel
theorem d_M_isSound_6 : decode me_M_isSound.2.1 6 = .ok (.istore_n 3, 1) := by decide +kernel
theorem d_M_isSound_7 : decode me_M_isSound.2.1 7 = .ok (.aload_n 0, 1) := by decide +kernel
theorem d_M_isSound_8 : decode me_M_isSound.2.1 8 = .ok (.getfield 35, 3) := by decide +kernel
theorem g_M_isSound_8 : bm_gf me_M_isSound 8 11 9 := ⟨_, _, _, _, d_M_isSound_8, rfl, by decide, uw_M, fl_M_35⟩
theorem d_M_isSound_11 : decode me_M_isSound.2.1 11 = .ok (.iload_n 3, 1) := by decide +kernel
theorem d_M_isSound_12 : decode me_M_isSound.2.1 12 = .ok (.iaload, 1) := by decide +kernel
theorem d_M_isSound_13 : decode me_M_isSound.2.1 13 = .ok (.istore 4, 2) := by decide +kernel
theorem d_M_isSound_15 : decode me_M_isSound.2.1 15 = .ok (.aload_n 0, 1) := by decide +kernel
theorem d_M_isSound_16 : decode me_M_isSound.2.1 16 = .ok (.getfield 28, 3) := by decide +kernel
theorem g_M_isSound_16 : bm_gf me_M_isSound 16 11 7 := ⟨_, _, _, _, d_M_isSound_16, rfl, by decide, uw_M, fl_M_28⟩
theorem d_M_isSound_19 : decode me_M_isSound.2.1 19 = .ok (.iload_n 1, 1) := by decide +kernel
theorem d_M_isSound_20 : decode me_M_isSound.2.1 20 = .ok (.iaload, 1) := by decide +kernel
theorem d_M_isSound_21 : decode me_M_isSound.2.1 21 = .ok (.iconst 1, 1) := by decide +kernel
theorem d_M_isSound_22 : decode me_M_isSound.2.1 22 = .ok (.isub, 1) := by decide +kernel
theorem d_M_isSound_23 : decode me_M_isSound.2.1 23 = .ok (.istore 5, 2) := by decide +kernel
theorem d_M_isSound_25 : decode me_M_isSound.2.1 25 = .ok (.iload 4, 2) := by decide +kernel
theorem d_M_isSound_27 : decode me_M_isSound.2.1 27 = .ok (.iconst 4, 1) := by decide +kernel
theorem d_M_isSound_28 : decode me_M_isSound.2.1 28 = .ok (.if_icmp .gt (37), 3) := by decide +kernel
theorem d_M_isSound_31 : decode me_M_isSound.2.1 31 = .ok (.aload_n 0, 1) := by decide +kernel
theorem d_M_isSound_32 : decode me_M_isSound.2.1 32 = .ok (.iload_n 1, 1) := by decide +kernel
theorem d_M_isSound_33 : decode me_M_isSound.2.1 33 = .ok (.aload_n 0, 1) := by decide +kernel
theorem d_M_isSound_34 : decode me_M_isSound.2.1 34 = .ok (.getfield 38, 3) := by decide +kernel
theorem g_M_isSound_34 : bm_gf me_M_isSound 34 11 10 := ⟨_, _, _, _, d_M_isSound_34, rfl, by decide, uw_M, fl_M_38⟩
theorem d_M_isSound_37 : decode me_M_isSound.2.1 37 = .ok (.iload_n 3, 1) := by decide +kernel
theorem d_M_isSound_38 : decode me_M_isSound.2.1 38 = .ok (.iaload, 1) := by decide +kernel
theorem d_M_isSound_39 : decode me_M_isSound.2.1 39 = .ok (.invokevirtual 149, 3) := by decide +kernel
theorem c_M_isSound_39 : bm_iv me_M_isSound me_M_hasClass 39 11 2 := ⟨_, d_M_isSound_39, Or.inl ml_M_149, ⟨kc_M_hasClass, in_BatchHallModel, by decide +kernel, by decide, by decide⟩, ki_M_hasClass, ks_M_hasClass, _, _, rfl⟩
theorem d_M_isSound_42 : decode me_M_isSound.2.1 42 = .ok (.ifCond .eq (27), 3) := by decide +kernel
theorem d_M_isSound_45 : decode me_M_isSound.2.1 45 = .ok (.iload 4, 2) := by decide +kernel
theorem d_M_isSound_47 : decode me_M_isSound.2.1 47 = .ok (.iconst 2, 1) := by decide +kernel
theorem d_M_isSound_48 : decode me_M_isSound.2.1 48 = .ok (.if_icmp .ne (17), 3) := by decide +kernel
theorem d_M_isSound_51 : decode me_M_isSound.2.1 51 = .ok (.aload_n 0, 1) := by decide +kernel
theorem d_M_isSound_52 : decode me_M_isSound.2.1 52 = .ok (.iload_n 1, 1) := by decide +kernel
theorem d_M_isSound_53 : decode me_M_isSound.2.1 53 = .ok (.aload_n 0, 1) := by decide +kernel
theorem d_M_isSound_54 : decode me_M_isSound.2.1 54 = .ok (.getfield 41, 3) := by decide +kernel
theorem g_M_isSound_54 : bm_gf me_M_isSound 54 11 11 := ⟨_, _, _, _, d_M_isSound_54, rfl, by decide, uw_M, fl_M_41⟩
theorem d_M_isSound_57 : decode me_M_isSound.2.1 57 = .ok (.iload_n 3, 1) := by decide +kernel
theorem d_M_isSound_58 : decode me_M_isSound.2.1 58 = .ok (.iaload, 1) := by decide +kernel
theorem d_M_isSound_59 : decode me_M_isSound.2.1 59 = .ok (.invokevirtual 149, 3) := by decide +kernel
theorem c_M_isSound_59 : bm_iv me_M_isSound me_M_hasClass 59 11 2 := ⟨_, d_M_isSound_59, Or.inl ml_M_149, ⟨kc_M_hasClass, in_BatchHallModel, by decide +kernel, by decide, by decide⟩, ki_M_hasClass, ks_M_hasClass, _, _, rfl⟩
theorem d_M_isSound_62 : decode me_M_isSound.2.1 62 = .ok (.ifCond .eq (7), 3) := by decide +kernel
theorem d_M_isSound_65 : decode me_M_isSound.2.1 65 = .ok (.iconst 1, 1) := by decide +kernel
theorem d_M_isSound_66 : decode me_M_isSound.2.1 66 = .ok (.goto (4), 3) := by decide +kernel
theorem d_M_isSound_69 : decode me_M_isSound.2.1 69 = .ok (.iconst 0, 1) := by decide +kernel
theorem d_M_isSound_70 : decode me_M_isSound.2.1 70 = .ok (.istore 6, 2) := by decide +kernel
theorem d_M_isSound_72 : decode me_M_isSound.2.1 72 = .ok (.iload 4, 2) := by decide +kernel
theorem d_M_isSound_74 : decode me_M_isSound.2.1 74 = .ok (.bipush (9), 2) := by decide +kernel
theorem d_M_isSound_76 : decode me_M_isSound.2.1 76 = .ok (.if_icmp .eq (20), 3) := by decide +kernel
theorem d_M_isSound_79 : decode me_M_isSound.2.1 79 = .ok (.aload_n 0, 1) := by decide +kernel
theorem d_M_isSound_80 : decode me_M_isSound.2.1 80 = .ok (.getfield 47, 3) := by decide +kernel
theorem g_M_isSound_80 : bm_gf me_M_isSound 80 11 13 := ⟨_, _, _, _, d_M_isSound_80, rfl, by decide, uw_M, fl_M_47⟩
theorem d_M_isSound_83 : decode me_M_isSound.2.1 83 = .ok (.iload_n 3, 1) := by decide +kernel
theorem d_M_isSound_84 : decode me_M_isSound.2.1 84 = .ok (.iaload, 1) := by decide +kernel
theorem d_M_isSound_85 : decode me_M_isSound.2.1 85 = .ok (.iload_n 2, 1) := by decide +kernel
theorem d_M_isSound_86 : decode me_M_isSound.2.1 86 = .ok (.iconst 1, 1) := by decide +kernel
theorem d_M_isSound_87 : decode me_M_isSound.2.1 87 = .ok (.iadd, 1) := by decide +kernel
theorem d_M_isSound_88 : decode me_M_isSound.2.1 88 = .ok (.iload 5, 2) := by decide +kernel
theorem d_M_isSound_90 : decode me_M_isSound.2.1 90 = .ok (.invokestatic 141, 3) := by decide +kernel
theorem c_M_isSound_90 : bm_is me_M_isSound me_M_in 90 3 := ⟨_, d_M_isSound_90, Or.inl ml_M_141, ⟨kc_M_in, in_BatchHallModel, by decide +kernel, by decide, by decide⟩, kt_M_in⟩
theorem d_M_isSound_93 : decode me_M_isSound.2.1 93 = .ok (.ifCond .eq (7), 3) := by decide +kernel
theorem d_M_isSound_96 : decode me_M_isSound.2.1 96 = .ok (.iconst 1, 1) := by decide +kernel
theorem d_M_isSound_97 : decode me_M_isSound.2.1 97 = .ok (.goto (4), 3) := by decide +kernel
theorem d_M_isSound_100 : decode me_M_isSound.2.1 100 = .ok (.iconst 0, 1) := by decide +kernel
theorem d_M_isSound_101 : decode me_M_isSound.2.1 101 = .ok (.istore 7, 2) := by decide +kernel
theorem d_M_isSound_103 : decode me_M_isSound.2.1 103 = .ok (.iload 4, 2) := by decide +kernel
theorem d_M_isSound_105 : decode me_M_isSound.2.1 105 = .ok (.bipush (8), 2) := by decide +kernel
theorem d_M_isSound_107 : decode me_M_isSound.2.1 107 = .ok (.if_icmp .ne (19), 3) := by decide +kernel
theorem d_M_isSound_110 : decode me_M_isSound.2.1 110 = .ok (.aload_n 0, 1) := by decide +kernel
theorem d_M_isSound_111 : decode me_M_isSound.2.1 111 = .ok (.getfield 50, 3) := by decide +kernel
theorem g_M_isSound_111 : bm_gf me_M_isSound 111 11 14 := ⟨_, _, _, _, d_M_isSound_111, rfl, by decide, uw_M, fl_M_50⟩
theorem d_M_isSound_114 : decode me_M_isSound.2.1 114 = .ok (.iload_n 3, 1) := by decide +kernel
theorem d_M_isSound_115 : decode me_M_isSound.2.1 115 = .ok (.iaload, 1) := by decide +kernel
theorem d_M_isSound_116 : decode me_M_isSound.2.1 116 = .ok (.iconst 0, 1) := by decide +kernel
theorem d_M_isSound_117 : decode me_M_isSound.2.1 117 = .ok (.iload_n 2, 1) := by decide +kernel
theorem d_M_isSound_118 : decode me_M_isSound.2.1 118 = .ok (.iconst 1, 1) := by decide +kernel
theorem d_M_isSound_119 : decode me_M_isSound.2.1 119 = .ok (.isub, 1) := by decide +kernel
theorem d_M_isSound_120 : decode me_M_isSound.2.1 120 = .ok (.invokestatic 141, 3) := by decide +kernel
theorem c_M_isSound_120 : bm_is me_M_isSound me_M_in 120 3 := ⟨_, d_M_isSound_120, Or.inl ml_M_141, ⟨kc_M_in, in_BatchHallModel, by decide +kernel, by decide, by decide⟩, kt_M_in⟩
theorem d_M_isSound_123 : decode me_M_isSound.2.1 123 = .ok (.goto (34), 3) := by decide +kernel
theorem d_M_isSound_126 : decode me_M_isSound.2.1 126 = .ok (.aload_n 0, 1) := by decide +kernel
theorem d_M_isSound_127 : decode me_M_isSound.2.1 127 = .ok (.iload 4, 2) := by decide +kernel
theorem d_M_isSound_129 : decode me_M_isSound.2.1 129 = .ok (.invokevirtual 153, 3) := by decide +kernel
theorem c_M_isSound_129 : bm_iv me_M_isSound me_M_hasOther 129 11 1 := ⟨_, d_M_isSound_129, Or.inl ml_M_153, ⟨kc_M_hasOther, in_BatchHallModel, by decide +kernel, by decide, by decide⟩, ki_M_hasOther, ks_M_hasOther, _, _, rfl⟩
theorem d_M_isSound_132 : decode me_M_isSound.2.1 132 = .ok (.ifCond .eq (20), 3) := by decide +kernel
theorem d_M_isSound_135 : decode me_M_isSound.2.1 135 = .ok (.aload_n 0, 1) := by decide +kernel
theorem d_M_isSound_136 : decode me_M_isSound.2.1 136 = .ok (.getfield 50, 3) := by decide +kernel
theorem g_M_isSound_136 : bm_gf me_M_isSound 136 11 14 := ⟨_, _, _, _, d_M_isSound_136, rfl, by decide, uw_M, fl_M_50⟩
theorem d_M_isSound_139 : decode me_M_isSound.2.1 139 = .ok (.iload_n 3, 1) := by decide +kernel
theorem d_M_isSound_140 : decode me_M_isSound.2.1 140 = .ok (.iaload, 1) := by decide +kernel
theorem d_M_isSound_141 : decode me_M_isSound.2.1 141 = .ok (.iload_n 2, 1) := by decide +kernel
theorem d_M_isSound_142 : decode me_M_isSound.2.1 142 = .ok (.iconst 1, 1) := by decide +kernel
theorem d_M_isSound_143 : decode me_M_isSound.2.1 143 = .ok (.iadd, 1) := by decide +kernel
theorem d_M_isSound_144 : decode me_M_isSound.2.1 144 = .ok (.iload 5, 2) := by decide +kernel
theorem d_M_isSound_146 : decode me_M_isSound.2.1 146 = .ok (.invokestatic 141, 3) := by decide +kernel
theorem c_M_isSound_146 : bm_is me_M_isSound me_M_in 146 3 := ⟨_, d_M_isSound_146, Or.inl ml_M_141, ⟨kc_M_in, in_BatchHallModel, by decide +kernel, by decide, by decide⟩, kt_M_in⟩
theorem d_M_isSound_149 : decode me_M_isSound.2.1 149 = .ok (.ifCond .eq (7), 3) := by decide +kernel
theorem d_M_isSound_152 : decode me_M_isSound.2.1 152 = .ok (.iconst 1, 1) := by decide +kernel
theorem d_M_isSound_153 : decode me_M_isSound.2.1 153 = .ok (.goto (4), 3) := by decide +kernel
theorem d_M_isSound_156 : decode me_M_isSound.2.1 156 = .ok (.iconst 0, 1) := by decide +kernel
theorem d_M_isSound_157 : decode me_M_isSound.2.1 157 = .ok (.istore 8, 2) := by decide +kernel
theorem d_M_isSound_159 : decode me_M_isSound.2.1 159 = .ok (.aload_n 0, 1) := by decide +kernel
theorem d_M_isSound_160 : decode me_M_isSound.2.1 160 = .ok (.iload_n 3, 1) := by decide +kernel
theorem d_M_isSound_161 : decode me_M_isSound.2.1 161 = .ok (.invokevirtual 156, 3) := by decide +kernel
theorem c_M_isSound_161 : bm_iv me_M_isSound me_M_isNumbered 161 11 1 := ⟨_, d_M_isSound_161, Or.inl ml_M_156, ⟨kc_M_isNumbered, in_BatchHallModel, by decide +kernel, by decide, by decide⟩, ki_M_isNumbered, ks_M_isNumbered, _, _, rfl⟩
theorem d_M_isSound_164 : decode me_M_isSound.2.1 164 = .ok (.ifCond .eq (22), 3) := by decide +kernel
theorem d_M_isSound_167 : decode me_M_isSound.2.1 167 = .ok (.iload 6, 2) := by decide +kernel
theorem d_M_isSound_169 : decode me_M_isSound.2.1 169 = .ok (.ifCond .eq (17), 3) := by decide +kernel
theorem d_M_isSound_172 : decode me_M_isSound.2.1 172 = .ok (.iload 7, 2) := by decide +kernel
theorem d_M_isSound_174 : decode me_M_isSound.2.1 174 = .ok (.ifCond .eq (12), 3) := by decide +kernel
theorem d_M_isSound_177 : decode me_M_isSound.2.1 177 = .ok (.iload 8, 2) := by decide +kernel
theorem d_M_isSound_179 : decode me_M_isSound.2.1 179 = .ok (.ifCond .eq (7), 3) := by decide +kernel
theorem d_M_isSound_182 : decode me_M_isSound.2.1 182 = .ok (.iconst 1, 1) := by decide +kernel
theorem d_M_isSound_183 : decode me_M_isSound.2.1 183 = .ok (.goto (4), 3) := by decide +kernel
theorem d_M_isSound_186 : decode me_M_isSound.2.1 186 = .ok (.iconst 0, 1) := by decide +kernel
theorem d_M_isSound_187 : decode me_M_isSound.2.1 187 = .ok (.ireturn, 1) := by decide +kernel
theorem d_M_hasClass_0 : decode me_M_hasClass.2.1 0 = .ok (.iload_n 2, 1) := by decide +kernel
theorem d_M_hasClass_1 : decode me_M_hasClass.2.1 1 = .ok (.iconst 0, 1) := by decide +kernel
theorem d_M_hasClass_2 : decode me_M_hasClass.2.1 2 = .ok (.iconst 2, 1) := by decide +kernel
theorem d_M_hasClass_3 : decode me_M_hasClass.2.1 3 = .ok (.invokestatic 141, 3) := by decide +kernel
theorem c_M_hasClass_3 : bm_is me_M_hasClass me_M_in 3 3 := ⟨_, d_M_hasClass_3, Or.inl ml_M_141, ⟨kc_M_in, in_BatchHallModel, by decide +kernel, by decide, by decide⟩, kt_M_in⟩
theorem d_M_hasClass_6 : decode me_M_hasClass.2.1 6 = .ok (.ifCond .eq (21), 3) := by decide +kernel
theorem d_M_hasClass_9 : decode me_M_hasClass.2.1 9 = .ok (.aload_n 0, 1) := by decide +kernel
theorem d_M_hasClass_10 : decode me_M_hasClass.2.1 10 = .ok (.getfield 25, 3) := by decide +kernel
theorem g_M_hasClass_10 : bm_gf me_M_hasClass 10 11 6 := ⟨_, _, _, _, d_M_hasClass_10, rfl, by decide, uw_M, fl_M_25⟩
theorem d_M_hasClass_13 : decode me_M_hasClass.2.1 13 = .ok (.iconst 3, 1) := by decide +kernel
theorem d_M_hasClass_14 : decode me_M_hasClass.2.1 14 = .ok (.iload_n 1, 1) := by decide +kernel
theorem d_M_hasClass_15 : decode me_M_hasClass.2.1 15 = .ok (.imul, 1) := by decide +kernel
theorem d_M_hasClass_16 : decode me_M_hasClass.2.1 16 = .ok (.iload_n 2, 1) := by decide +kernel
theorem d_M_hasClass_17 : decode me_M_hasClass.2.1 17 = .ok (.iadd, 1) := by decide +kernel
theorem d_M_hasClass_18 : decode me_M_hasClass.2.1 18 = .ok (.iaload, 1) := by decide +kernel
theorem d_M_hasClass_19 : decode me_M_hasClass.2.1 19 = .ok (.iconst 3, 1) := by decide +kernel
theorem d_M_hasClass_20 : decode me_M_hasClass.2.1 20 = .ok (.if_icmp .ge (7), 3) := by decide +kernel
theorem d_M_hasClass_23 : decode me_M_hasClass.2.1 23 = .ok (.iconst 1, 1) := by decide +kernel
theorem d_M_hasClass_24 : decode me_M_hasClass.2.1 24 = .ok (.goto (4), 3) := by decide +kernel
theorem d_M_hasClass_27 : decode me_M_hasClass.2.1 27 = .ok (.iconst 0, 1) := by decide +kernel
theorem d_M_hasClass_28 : decode me_M_hasClass.2.1 28 = .ok (.ireturn, 1) := by decide +kernel
theorem d_M_hasOther_0 : decode me_M_hasOther.2.1 0 = .ok (.iload_n 1, 1) := by decide +kernel
theorem d_M_hasOther_1 : decode me_M_hasOther.2.1 1 = .ok (.iconst 5, 1) := by decide +kernel
theorem d_M_hasOther_2 : decode me_M_hasOther.2.1 2 = .ok (.if_icmp .eq (15), 3) := by decide +kernel
theorem d_M_hasOther_5 : decode me_M_hasOther.2.1 5 = .ok (.iload_n 1, 1) := by decide +kernel
theorem d_M_hasOther_6 : decode me_M_hasOther.2.1 6 = .ok (.bipush (7), 2) := by decide +kernel
theorem d_M_hasOther_8 : decode me_M_hasOther.2.1 8 = .ok (.if_icmp .eq (9), 3) := by decide +kernel
theorem d_M_hasOther_11 : decode me_M_hasOther.2.1 11 = .ok (.iload_n 1, 1) := by decide +kernel
theorem d_M_hasOther_12 : decode me_M_hasOther.2.1 12 = .ok (.bipush (8), 2) := by decide +kernel
theorem d_M_hasOther_14 : decode me_M_hasOther.2.1 14 = .ok (.if_icmp .ne (7), 3) := by decide +kernel
theorem d_M_hasOther_17 : decode me_M_hasOther.2.1 17 = .ok (.iconst 1, 1) := by decide +kernel
theorem d_M_hasOther_18 : decode me_M_hasOther.2.1 18 = .ok (.goto (4), 3) := by decide +kernel
theorem d_M_hasOther_21 : decode me_M_hasOther.2.1 21 = .ok (.iconst 0, 1) := by decide +kernel
theorem d_M_hasOther_22 : decode me_M_hasOther.2.1 22 = .ok (.ireturn, 1) := by decide +kernel
theorem d_M_isNumbered_0 : decode me_M_isNumbered.2.1 0 = .ok (.aload_n 0, 1) := by decide +kernel
theorem d_M_isNumbered_1 : decode me_M_isNumbered.2.1 1 = .ok (.getfield 35, 3) := by decide +kernel
theorem g_M_isNumbered_1 : bm_gf me_M_isNumbered 1 11 9 := ⟨_, _, _, _, d_M_isNumbered_1, rfl, by decide, uw_M, fl_M_35⟩
theorem d_M_isNumbered_4 : decode me_M_isNumbered.2.1 4 = .ok (.iload_n 1, 1) := by decide +kernel
theorem d_M_isNumbered_5 : decode me_M_isNumbered.2.1 5 = .ok (.iaload, 1) := by decide +kernel
theorem d_M_isNumbered_6 : decode me_M_isNumbered.2.1 6 = .ok (.tableswitch (173) (0) (8) #[(50), (88), (101), (88), (137), (173), (173), (149), (161)], 50) := by decide +kernel
theorem d_M_isNumbered_56 : decode me_M_isNumbered.2.1 56 = .ok (.aload_n 0, 1) := by decide +kernel
theorem d_M_isNumbered_57 : decode me_M_isNumbered.2.1 57 = .ok (.getfield 41, 3) := by decide +kernel
theorem g_M_isNumbered_57 : bm_gf me_M_isNumbered 57 11 11 := ⟨_, _, _, _, d_M_isNumbered_57, rfl, by decide, uw_M, fl_M_41⟩
theorem d_M_isNumbered_60 : decode me_M_isNumbered.2.1 60 = .ok (.iload_n 1, 1) := by decide +kernel
theorem d_M_isNumbered_61 : decode me_M_isNumbered.2.1 61 = .ok (.iaload, 1) := by decide +kernel
theorem d_M_isNumbered_62 : decode me_M_isNumbered.2.1 62 = .ok (.iconst 0, 1) := by decide +kernel
theorem d_M_isNumbered_63 : decode me_M_isNumbered.2.1 63 = .ok (.sipush (500), 3) := by decide +kernel
theorem d_M_isNumbered_66 : decode me_M_isNumbered.2.1 66 = .ok (.invokestatic 141, 3) := by decide +kernel
theorem c_M_isNumbered_66 : bm_is me_M_isNumbered me_M_in 66 3 := ⟨_, d_M_isNumbered_66, Or.inl ml_M_141, ⟨kc_M_in, in_BatchHallModel, by decide +kernel, by decide, by decide⟩, kt_M_in⟩
theorem d_M_isNumbered_69 : decode me_M_isNumbered.2.1 69 = .ok (.ifCond .eq (23), 3) := by decide +kernel
theorem d_M_isNumbered_72 : decode me_M_isNumbered.2.1 72 = .ok (.aload_n 0, 1) := by decide +kernel
theorem d_M_isNumbered_73 : decode me_M_isNumbered.2.1 73 = .ok (.getfield 44, 3) := by decide +kernel
theorem g_M_isNumbered_73 : bm_gf me_M_isNumbered 73 11 12 := ⟨_, _, _, _, d_M_isNumbered_73, rfl, by decide, uw_M, fl_M_44⟩
theorem d_M_isNumbered_76 : decode me_M_isNumbered.2.1 76 = .ok (.iload_n 1, 1) := by decide +kernel
theorem d_M_isNumbered_77 : decode me_M_isNumbered.2.1 77 = .ok (.iaload, 1) := by decide +kernel
theorem d_M_isNumbered_78 : decode me_M_isNumbered.2.1 78 = .ok (.iconst 0, 1) := by decide +kernel
theorem d_M_isNumbered_79 : decode me_M_isNumbered.2.1 79 = .ok (.sipush (500), 3) := by decide +kernel
theorem d_M_isNumbered_82 : decode me_M_isNumbered.2.1 82 = .ok (.invokestatic 141, 3) := by decide +kernel
theorem c_M_isNumbered_82 : bm_is me_M_isNumbered me_M_in 82 3 := ⟨_, d_M_isNumbered_82, Or.inl ml_M_141, ⟨kc_M_in, in_BatchHallModel, by decide +kernel, by decide, by decide⟩, kt_M_in⟩
theorem d_M_isNumbered_85 : decode me_M_isNumbered.2.1 85 = .ok (.ifCond .eq (7), 3) := by decide +kernel
theorem d_M_isNumbered_88 : decode me_M_isNumbered.2.1 88 = .ok (.iconst 1, 1) := by decide +kernel
theorem d_M_isNumbered_89 : decode me_M_isNumbered.2.1 89 = .ok (.goto (4), 3) := by decide +kernel
theorem d_M_isNumbered_92 : decode me_M_isNumbered.2.1 92 = .ok (.iconst 0, 1) := by decide +kernel
theorem d_M_isNumbered_93 : decode me_M_isNumbered.2.1 93 = .ok (.ireturn, 1) := by decide +kernel
theorem d_M_isNumbered_94 : decode me_M_isNumbered.2.1 94 = .ok (.aload_n 0, 1) := by decide +kernel
theorem d_M_isNumbered_95 : decode me_M_isNumbered.2.1 95 = .ok (.getfield 41, 3) := by decide +kernel
theorem g_M_isNumbered_95 : bm_gf me_M_isNumbered 95 11 11 := ⟨_, _, _, _, d_M_isNumbered_95, rfl, by decide, uw_M, fl_M_41⟩
theorem d_M_isNumbered_98 : decode me_M_isNumbered.2.1 98 = .ok (.iload_n 1, 1) := by decide +kernel
theorem d_M_isNumbered_99 : decode me_M_isNumbered.2.1 99 = .ok (.iaload, 1) := by decide +kernel
theorem d_M_isNumbered_100 : decode me_M_isNumbered.2.1 100 = .ok (.iconst 1, 1) := by decide +kernel
theorem d_M_isNumbered_101 : decode me_M_isNumbered.2.1 101 = .ok (.bipush (20), 2) := by decide +kernel
theorem d_M_isNumbered_103 : decode me_M_isNumbered.2.1 103 = .ok (.invokestatic 141, 3) := by decide +kernel
theorem c_M_isNumbered_103 : bm_is me_M_isNumbered me_M_in 103 3 := ⟨_, d_M_isNumbered_103, Or.inl ml_M_141, ⟨kc_M_in, in_BatchHallModel, by decide +kernel, by decide, by decide⟩, kt_M_in⟩
theorem d_M_isNumbered_106 : decode me_M_isNumbered.2.1 106 = .ok (.ireturn, 1) := by decide +kernel
theorem d_M_isNumbered_107 : decode me_M_isNumbered.2.1 107 = .ok (.aload_n 0, 1) := by decide +kernel
theorem d_M_isNumbered_108 : decode me_M_isNumbered.2.1 108 = .ok (.getfield 41, 3) := by decide +kernel
theorem g_M_isNumbered_108 : bm_gf me_M_isNumbered 108 11 11 := ⟨_, _, _, _, d_M_isNumbered_108, rfl, by decide, uw_M, fl_M_41⟩
theorem d_M_isNumbered_111 : decode me_M_isNumbered.2.1 111 = .ok (.iload_n 1, 1) := by decide +kernel
theorem d_M_isNumbered_112 : decode me_M_isNumbered.2.1 112 = .ok (.iaload, 1) := by decide +kernel
theorem d_M_isNumbered_113 : decode me_M_isNumbered.2.1 113 = .ok (.aload_n 0, 1) := by decide +kernel
theorem d_M_isNumbered_114 : decode me_M_isNumbered.2.1 114 = .ok (.getfield 38, 3) := by decide +kernel
theorem g_M_isNumbered_114 : bm_gf me_M_isNumbered 114 11 10 := ⟨_, _, _, _, d_M_isNumbered_114, rfl, by decide, uw_M, fl_M_38⟩
theorem d_M_isNumbered_117 : decode me_M_isNumbered.2.1 117 = .ok (.iload_n 1, 1) := by decide +kernel
theorem d_M_isNumbered_118 : decode me_M_isNumbered.2.1 118 = .ok (.iaload, 1) := by decide +kernel
theorem d_M_isNumbered_119 : decode me_M_isNumbered.2.1 119 = .ok (.if_icmp .eq (22), 3) := by decide +kernel
theorem d_M_isNumbered_122 : decode me_M_isNumbered.2.1 122 = .ok (.aload_n 0, 1) := by decide +kernel
theorem d_M_isNumbered_123 : decode me_M_isNumbered.2.1 123 = .ok (.getfield 44, 3) := by decide +kernel
theorem g_M_isNumbered_123 : bm_gf me_M_isNumbered 123 11 12 := ⟨_, _, _, _, d_M_isNumbered_123, rfl, by decide, uw_M, fl_M_44⟩
theorem d_M_isNumbered_126 : decode me_M_isNumbered.2.1 126 = .ok (.iload_n 1, 1) := by decide +kernel
theorem d_M_isNumbered_127 : decode me_M_isNumbered.2.1 127 = .ok (.iaload, 1) := by decide +kernel
theorem d_M_isNumbered_128 : decode me_M_isNumbered.2.1 128 = .ok (.iconst 1, 1) := by decide +kernel
theorem d_M_isNumbered_129 : decode me_M_isNumbered.2.1 129 = .ok (.bipush (100), 2) := by decide +kernel
theorem d_M_isNumbered_131 : decode me_M_isNumbered.2.1 131 = .ok (.invokestatic 141, 3) := by decide +kernel
theorem c_M_isNumbered_131 : bm_is me_M_isNumbered me_M_in 131 3 := ⟨_, d_M_isNumbered_131, Or.inl ml_M_141, ⟨kc_M_in, in_BatchHallModel, by decide +kernel, by decide, by decide⟩, kt_M_in⟩
theorem d_M_isNumbered_134 : decode me_M_isNumbered.2.1 134 = .ok (.ifCond .eq (7), 3) := by decide +kernel
theorem d_M_isNumbered_137 : decode me_M_isNumbered.2.1 137 = .ok (.iconst 1, 1) := by decide +kernel
theorem d_M_isNumbered_138 : decode me_M_isNumbered.2.1 138 = .ok (.goto (4), 3) := by decide +kernel
theorem d_M_isNumbered_141 : decode me_M_isNumbered.2.1 141 = .ok (.iconst 0, 1) := by decide +kernel
theorem d_M_isNumbered_142 : decode me_M_isNumbered.2.1 142 = .ok (.ireturn, 1) := by decide +kernel
theorem d_M_isNumbered_143 : decode me_M_isNumbered.2.1 143 = .ok (.aload_n 0, 1) := by decide +kernel
theorem d_M_isNumbered_144 : decode me_M_isNumbered.2.1 144 = .ok (.getfield 41, 3) := by decide +kernel
theorem g_M_isNumbered_144 : bm_gf me_M_isNumbered 144 11 11 := ⟨_, _, _, _, d_M_isNumbered_144, rfl, by decide, uw_M, fl_M_41⟩
theorem d_M_isNumbered_147 : decode me_M_isNumbered.2.1 147 = .ok (.iload_n 1, 1) := by decide +kernel
theorem d_M_isNumbered_148 : decode me_M_isNumbered.2.1 148 = .ok (.iaload, 1) := by decide +kernel
theorem d_M_isNumbered_149 : decode me_M_isNumbered.2.1 149 = .ok (.iconst 0, 1) := by decide +kernel
theorem d_M_isNumbered_150 : decode me_M_isNumbered.2.1 150 = .ok (.iconst 3, 1) := by decide +kernel
theorem d_M_isNumbered_151 : decode me_M_isNumbered.2.1 151 = .ok (.invokestatic 141, 3) := by decide +kernel
theorem c_M_isNumbered_151 : bm_is me_M_isNumbered me_M_in 151 3 := ⟨_, d_M_isNumbered_151, Or.inl ml_M_141, ⟨kc_M_in, in_BatchHallModel, by decide +kernel, by decide, by decide⟩, kt_M_in⟩
theorem d_M_isNumbered_154 : decode me_M_isNumbered.2.1 154 = .ok (.ireturn, 1) := by decide +kernel
theorem d_M_isNumbered_155 : decode me_M_isNumbered.2.1 155 = .ok (.aload_n 0, 1) := by decide +kernel
theorem d_M_isNumbered_156 : decode me_M_isNumbered.2.1 156 = .ok (.getfield 38, 3) := by decide +kernel
theorem g_M_isNumbered_156 : bm_gf me_M_isNumbered 156 11 10 := ⟨_, _, _, _, d_M_isNumbered_156, rfl, by decide, uw_M, fl_M_38⟩
theorem d_M_isNumbered_159 : decode me_M_isNumbered.2.1 159 = .ok (.iload_n 1, 1) := by decide +kernel
theorem d_M_isNumbered_160 : decode me_M_isNumbered.2.1 160 = .ok (.iaload, 1) := by decide +kernel
theorem d_M_isNumbered_161 : decode me_M_isNumbered.2.1 161 = .ok (.iconst 0, 1) := by decide +kernel
theorem d_M_isNumbered_162 : decode me_M_isNumbered.2.1 162 = .ok (.iconst 3, 1) := by decide +kernel
theorem d_M_isNumbered_163 : decode me_M_isNumbered.2.1 163 = .ok (.invokestatic 141, 3) := by decide +kernel
theorem c_M_isNumbered_163 : bm_is me_M_isNumbered me_M_in 163 3 := ⟨_, d_M_isNumbered_163, Or.inl ml_M_141, ⟨kc_M_in, in_BatchHallModel, by decide +kernel, by decide, by decide⟩, kt_M_in⟩
theorem d_M_isNumbered_166 : decode me_M_isNumbered.2.1 166 = .ok (.ireturn, 1) := by decide +kernel
theorem d_M_isNumbered_167 : decode me_M_isNumbered.2.1 167 = .ok (.aload_n 0, 1) := by decide +kernel
theorem d_M_isNumbered_168 : decode me_M_isNumbered.2.1 168 = .ok (.getfield 38, 3) := by decide +kernel
theorem g_M_isNumbered_168 : bm_gf me_M_isNumbered 168 11 10 := ⟨_, _, _, _, d_M_isNumbered_168, rfl, by decide, uw_M, fl_M_38⟩
theorem d_M_isNumbered_171 : decode me_M_isNumbered.2.1 171 = .ok (.iload_n 1, 1) := by decide +kernel
theorem d_M_isNumbered_172 : decode me_M_isNumbered.2.1 172 = .ok (.iaload, 1) := by decide +kernel
theorem d_M_isNumbered_173 : decode me_M_isNumbered.2.1 173 = .ok (.iconst 1, 1) := by decide +kernel
theorem d_M_isNumbered_174 : decode me_M_isNumbered.2.1 174 = .ok (.iconst 5, 1) := by decide +kernel
theorem d_M_isNumbered_175 : decode me_M_isNumbered.2.1 175 = .ok (.invokestatic 141, 3) := by decide +kernel
theorem c_M_isNumbered_175 : bm_is me_M_isNumbered me_M_in 175 3 := ⟨_, d_M_isNumbered_175, Or.inl ml_M_141, ⟨kc_M_in, in_BatchHallModel, by decide +kernel, by decide, by decide⟩, kt_M_in⟩
theorem d_M_isNumbered_178 : decode me_M_isNumbered.2.1 178 = .ok (.ireturn, 1) := by decide +kernel
theorem d_M_isNumbered_179 : decode me_M_isNumbered.2.1 179 = .ok (.iconst 1, 1) := by decide +kernel
theorem d_M_isNumbered_180 : decode me_M_isNumbered.2.1 180 = .ok (.ireturn, 1) := by decide +kernel
theorem d_M_isWhole_0 : decode me_M_isWhole.2.1 0 = .ok (.iconst 0, 1) := by decide +kernel
theorem d_M_isWhole_1 : decode me_M_isWhole.2.1 1 = .ok (.istore_n 2, 1) := by decide +kernel
theorem d_M_isWhole_2 : decode me_M_isWhole.2.1 2 = .ok (.iload_n 2, 1) := by decide +kernel
theorem d_M_isWhole_3 : decode me_M_isWhole.2.1 3 = .ok (.bipush (12), 2) := by decide +kernel
theorem d_M_isWhole_5 : decode me_M_isWhole.2.1 5 = .ok (.if_icmp .ge (24), 3) := by decide +kernel
theorem d_M_isWhole_8 : decode me_M_isWhole.2.1 8 = .ok (.aload_n 0, 1) := by decide +kernel
theorem d_M_isWhole_9 : decode me_M_isWhole.2.1 9 = .ok (.getfield 134, 3) := by decide +kernel
theorem g_M_isWhole_9 : bm_gf me_M_isWhole 9 11 47 := ⟨_, _, _, _, d_M_isWhole_9, rfl, by decide, uw_M, fl_M_134⟩
theorem d_M_isWhole_12 : decode me_M_isWhole.2.1 12 = .ok (.iload_n 2, 1) := by decide +kernel
theorem d_M_isWhole_13 : decode me_M_isWhole.2.1 13 = .ok (.iload_n 2, 1) := by decide +kernel
theorem d_M_isWhole_14 : decode me_M_isWhole.2.1 14 = .ok (.ifCond .ne (7), 3) := by decide +kernel
theorem d_M_isWhole_17 : decode me_M_isWhole.2.1 17 = .ok (.iconst 1, 1) := by decide +kernel
theorem d_M_isWhole_18 : decode me_M_isWhole.2.1 18 = .ok (.goto (4), 3) := by decide +kernel
theorem d_M_isWhole_21 : decode me_M_isWhole.2.1 21 = .ok (.iconst 0, 1) := by decide +kernel
theorem d_M_isWhole_22 : decode me_M_isWhole.2.1 22 = .ok (.bastore, 1) := by decide +kernel
theorem d_M_isWhole_23 : decode me_M_isWhole.2.1 23 = .ok (.iinc 2 (1), 3) := by decide +kernel
theorem d_M_isWhole_26 : decode me_M_isWhole.2.1 26 = .ok (.goto (-24), 3) := by decide +kernel
theorem d_M_isWhole_29 : decode me_M_isWhole.2.1 29 = .ok (.iconst 0, 1) := by decide +kernel
theorem d_M_isWhole_30 : decode me_M_isWhole.2.1 30 = .ok (.istore_n 2, 1) := by decide +kernel
theorem d_M_isWhole_31 : decode me_M_isWhole.2.1 31 = .ok (.iload_n 2, 1) := by decide +kernel
theorem d_M_isWhole_32 : decode me_M_isWhole.2.1 32 = .ok (.aload_n 0, 1) := by decide +kernel
theorem d_M_isWhole_33 : decode me_M_isWhole.2.1 33 = .ok (.getfield 28, 3) := by decide +kernel
theorem g_M_isWhole_33 : bm_gf me_M_isWhole 33 11 7 := ⟨_, _, _, _, d_M_isWhole_33, rfl, by decide, uw_M, fl_M_28⟩
theorem d_M_isWhole_36 : decode me_M_isWhole.2.1 36 = .ok (.iload_n 1, 1) := by decide +kernel
theorem d_M_isWhole_37 : decode me_M_isWhole.2.1 37 = .ok (.iaload, 1) := by decide +kernel
theorem d_M_isWhole_38 : decode me_M_isWhole.2.1 38 = .ok (.if_icmp .ge (105), 3) := by decide +kernel
theorem d_M_isWhole_41 : decode me_M_isWhole.2.1 41 = .ok (.iconst 0, 1) := by decide +kernel
theorem d_M_isWhole_42 : decode me_M_isWhole.2.1 42 = .ok (.istore_n 3, 1) := by decide +kernel
theorem d_M_isWhole_43 : decode me_M_isWhole.2.1 43 = .ok (.iload_n 3, 1) := by decide +kernel
theorem d_M_isWhole_44 : decode me_M_isWhole.2.1 44 = .ok (.aload_n 0, 1) := by decide +kernel
theorem d_M_isWhole_45 : decode me_M_isWhole.2.1 45 = .ok (.getfield 28, 3) := by decide +kernel
theorem g_M_isWhole_45 : bm_gf me_M_isWhole 45 11 7 := ⟨_, _, _, _, d_M_isWhole_45, rfl, by decide, uw_M, fl_M_28⟩
theorem d_M_isWhole_48 : decode me_M_isWhole.2.1 48 = .ok (.iload_n 1, 1) := by decide +kernel
theorem d_M_isWhole_49 : decode me_M_isWhole.2.1 49 = .ok (.iaload, 1) := by decide +kernel
theorem d_M_isWhole_50 : decode me_M_isWhole.2.1 50 = .ok (.if_icmp .ge (87), 3) := by decide +kernel
theorem d_M_isWhole_53 : decode me_M_isWhole.2.1 53 = .ok (.bipush (12), 2) := by decide +kernel
theorem d_M_isWhole_55 : decode me_M_isWhole.2.1 55 = .ok (.iload_n 1, 1) := by decide +kernel
theorem d_M_isWhole_56 : decode me_M_isWhole.2.1 56 = .ok (.imul, 1) := by decide +kernel
theorem d_M_isWhole_57 : decode me_M_isWhole.2.1 57 = .ok (.iload_n 3, 1) := by decide +kernel
theorem d_M_isWhole_58 : decode me_M_isWhole.2.1 58 = .ok (.iadd, 1) := by decide +kernel
theorem d_M_isWhole_59 : decode me_M_isWhole.2.1 59 = .ok (.istore 4, 2) := by decide +kernel
theorem d_M_isWhole_61 : decode me_M_isWhole.2.1 61 = .ok (.aload_n 0, 1) := by decide +kernel
theorem d_M_isWhole_62 : decode me_M_isWhole.2.1 62 = .ok (.getfield 134, 3) := by decide +kernel
theorem g_M_isWhole_62 : bm_gf me_M_isWhole 62 11 47 := ⟨_, _, _, _, d_M_isWhole_62, rfl, by decide, uw_M, fl_M_134⟩
theorem d_M_isWhole_65 : decode me_M_isWhole.2.1 65 = .ok (.iload_n 3, 1) := by decide +kernel
theorem d_M_isWhole_66 : decode me_M_isWhole.2.1 66 = .ok (.baload, 1) := by decide +kernel
theorem d_M_isWhole_67 : decode me_M_isWhole.2.1 67 = .ok (.ifCond .eq (28), 3) := by decide +kernel
theorem d_M_isWhole_70 : decode me_M_isWhole.2.1 70 = .ok (.aload_n 0, 1) := by decide +kernel
theorem d_M_isWhole_71 : decode me_M_isWhole.2.1 71 = .ok (.getfield 35, 3) := by decide +kernel
theorem g_M_isWhole_71 : bm_gf me_M_isWhole 71 11 9 := ⟨_, _, _, _, d_M_isWhole_71, rfl, by decide, uw_M, fl_M_35⟩
theorem d_M_isWhole_74 : decode me_M_isWhole.2.1 74 = .ok (.iload 4, 2) := by decide +kernel
theorem d_M_isWhole_76 : decode me_M_isWhole.2.1 76 = .ok (.iaload, 1) := by decide +kernel
theorem d_M_isWhole_77 : decode me_M_isWhole.2.1 77 = .ok (.bipush (9), 2) := by decide +kernel
theorem d_M_isWhole_79 : decode me_M_isWhole.2.1 79 = .ok (.if_icmp .eq (16), 3) := by decide +kernel
theorem d_M_isWhole_82 : decode me_M_isWhole.2.1 82 = .ok (.aload_n 0, 1) := by decide +kernel
theorem d_M_isWhole_83 : decode me_M_isWhole.2.1 83 = .ok (.getfield 134, 3) := by decide +kernel
theorem g_M_isWhole_83 : bm_gf me_M_isWhole 83 11 47 := ⟨_, _, _, _, d_M_isWhole_83, rfl, by decide, uw_M, fl_M_134⟩
theorem d_M_isWhole_86 : decode me_M_isWhole.2.1 86 = .ok (.aload_n 0, 1) := by decide +kernel
theorem d_M_isWhole_87 : decode me_M_isWhole.2.1 87 = .ok (.getfield 47, 3) := by decide +kernel
theorem g_M_isWhole_87 : bm_gf me_M_isWhole 87 11 13 := ⟨_, _, _, _, d_M_isWhole_87, rfl, by decide, uw_M, fl_M_47⟩
theorem d_M_isWhole_90 : decode me_M_isWhole.2.1 90 = .ok (.iload 4, 2) := by decide +kernel
theorem d_M_isWhole_92 : decode me_M_isWhole.2.1 92 = .ok (.iaload, 1) := by decide +kernel
theorem d_M_isWhole_93 : decode me_M_isWhole.2.1 93 = .ok (.iconst 1, 1) := by decide +kernel
theorem d_M_isWhole_94 : decode me_M_isWhole.2.1 94 = .ok (.bastore, 1) := by decide +kernel
theorem d_M_isWhole_95 : decode me_M_isWhole.2.1 95 = .ok (.aload_n 0, 1) := by decide +kernel
theorem d_M_isWhole_96 : decode me_M_isWhole.2.1 96 = .ok (.getfield 134, 3) := by decide +kernel
theorem g_M_isWhole_96 : bm_gf me_M_isWhole 96 11 47 := ⟨_, _, _, _, d_M_isWhole_96, rfl, by decide, uw_M, fl_M_134⟩
theorem d_M_isWhole_99 : decode me_M_isWhole.2.1 99 = .ok (.iload_n 3, 1) := by decide +kernel
theorem d_M_isWhole_100 : decode me_M_isWhole.2.1 100 = .ok (.baload, 1) := by decide +kernel
theorem d_M_isWhole_101 : decode me_M_isWhole.2.1 101 = .ok (.ifCond .eq (30), 3) := by decide +kernel
theorem d_M_isWhole_104 : decode me_M_isWhole.2.1 104 = .ok (.aload_n 0, 1) := by decide +kernel
theorem d_M_isWhole_105 : decode me_M_isWhole.2.1 105 = .ok (.aload_n 0, 1) := by decide +kernel
theorem d_M_isWhole_106 : decode me_M_isWhole.2.1 106 = .ok (.getfield 35, 3) := by decide +kernel
theorem g_M_isWhole_106 : bm_gf me_M_isWhole 106 11 9 := ⟨_, _, _, _, d_M_isWhole_106, rfl, by decide, uw_M, fl_M_35⟩
theorem d_M_isWhole_109 : decode me_M_isWhole.2.1 109 = .ok (.iload 4, 2) := by decide +kernel
theorem d_M_isWhole_111 : decode me_M_isWhole.2.1 111 = .ok (.iaload, 1) := by decide +kernel
theorem d_M_isWhole_112 : decode me_M_isWhole.2.1 112 = .ok (.invokevirtual 153, 3) := by decide +kernel
theorem c_M_isWhole_112 : bm_iv me_M_isWhole me_M_hasOther 112 11 1 := ⟨_, d_M_isWhole_112, Or.inl ml_M_153, ⟨kc_M_hasOther, in_BatchHallModel, by decide +kernel, by decide, by decide⟩, ki_M_hasOther, ks_M_hasOther, _, _, rfl⟩
theorem d_M_isWhole_115 : decode me_M_isWhole.2.1 115 = .ok (.ifCond .eq (16), 3) := by decide +kernel
theorem d_M_isWhole_118 : decode me_M_isWhole.2.1 118 = .ok (.aload_n 0, 1) := by decide +kernel
theorem d_M_isWhole_119 : decode me_M_isWhole.2.1 119 = .ok (.getfield 134, 3) := by decide +kernel
theorem g_M_isWhole_119 : bm_gf me_M_isWhole 119 11 47 := ⟨_, _, _, _, d_M_isWhole_119, rfl, by decide, uw_M, fl_M_134⟩
theorem d_M_isWhole_122 : decode me_M_isWhole.2.1 122 = .ok (.aload_n 0, 1) := by decide +kernel
theorem d_M_isWhole_123 : decode me_M_isWhole.2.1 123 = .ok (.getfield 50, 3) := by decide +kernel
theorem g_M_isWhole_123 : bm_gf me_M_isWhole 123 11 14 := ⟨_, _, _, _, d_M_isWhole_123, rfl, by decide, uw_M, fl_M_50⟩
theorem d_M_isWhole_126 : decode me_M_isWhole.2.1 126 = .ok (.iload 4, 2) := by decide +kernel
theorem d_M_isWhole_128 : decode me_M_isWhole.2.1 128 = .ok (.iaload, 1) := by decide +kernel
theorem d_M_isWhole_129 : decode me_M_isWhole.2.1 129 = .ok (.iconst 1, 1) := by decide +kernel
theorem d_M_isWhole_130 : decode me_M_isWhole.2.1 130 = .ok (.bastore, 1) := by decide +kernel
theorem d_M_isWhole_131 : decode me_M_isWhole.2.1 131 = .ok (.iinc 3 (1), 3) := by decide +kernel
theorem d_M_isWhole_134 : decode me_M_isWhole.2.1 134 = .ok (.goto (-91), 3) := by decide +kernel
theorem d_M_isWhole_137 : decode me_M_isWhole.2.1 137 = .ok (.iinc 2 (1), 3) := by decide +kernel
theorem d_M_isWhole_140 : decode me_M_isWhole.2.1 140 = .ok (.goto (-109), 3) := by decide +kernel
theorem d_M_isWhole_143 : decode me_M_isWhole.2.1 143 = .ok (.iconst 1, 1) := by decide +kernel
theorem d_M_isWhole_144 : decode me_M_isWhole.2.1 144 = .ok (.istore_n 2, 1) := by decide +kernel
theorem d_M_isWhole_145 : decode me_M_isWhole.2.1 145 = .ok (.iconst 0, 1) := by decide +kernel
theorem d_M_isWhole_146 : decode me_M_isWhole.2.1 146 = .ok (.istore_n 3, 1) := by decide +kernel
theorem d_M_isWhole_147 : decode me_M_isWhole.2.1 147 = .ok (.iload_n 3, 1) := by decide +kernel
theorem d_M_isWhole_148 : decode me_M_isWhole.2.1 148 = .ok (.aload_n 0, 1) := by decide +kernel
theorem d_M_isWhole_149 : decode me_M_isWhole.2.1 149 = .ok (.getfield 28, 3) := by decide +kernel
theorem g_M_isWhole_149 : bm_gf me_M_isWhole 149 11 7 := ⟨_, _, _, _, d_M_isWhole_149, rfl, by decide, uw_M, fl_M_28⟩
theorem d_M_isWhole_152 : decode me_M_isWhole.2.1 152 = .ok (.iload_n 1, 1) := by decide +kernel
theorem d_M_isWhole_153 : decode me_M_isWhole.2.1 153 = .ok (.iaload, 1) := by decide +kernel
theorem d_M_isWhole_154 : decode me_M_isWhole.2.1 154 = .ok (.if_icmp .ge (28), 3) := by decide +kernel
theorem d_M_isWhole_157 : decode me_M_isWhole.2.1 157 = .ok (.iload_n 2, 1) := by decide +kernel
theorem d_M_isWhole_158 : decode me_M_isWhole.2.1 158 = .ok (.ifCond .eq (16), 3) := by decide +kernel
theorem d_M_isWhole_161 : decode me_M_isWhole.2.1 161 = .ok (.aload_n 0, 1) := by decide +kernel
theorem d_M_isWhole_162 : decode me_M_isWhole.2.1 162 = .ok (.getfield 134, 3) := by decide +kernel
theorem g_M_isWhole_162 : bm_gf me_M_isWhole 162 11 47 := ⟨_, _, _, _, d_M_isWhole_162, rfl, by decide, uw_M, fl_M_134⟩
theorem d_M_isWhole_165 : decode me_M_isWhole.2.1 165 = .ok (.iload_n 3, 1) := by decide +kernel
theorem d_M_isWhole_166 : decode me_M_isWhole.2.1 166 = .ok (.baload, 1) := by decide +kernel
theorem d_M_isWhole_167 : decode me_M_isWhole.2.1 167 = .ok (.ifCond .eq (7), 3) := by decide +kernel
theorem d_M_isWhole_170 : decode me_M_isWhole.2.1 170 = .ok (.iconst 1, 1) := by decide +kernel
theorem d_M_isWhole_171 : decode me_M_isWhole.2.1 171 = .ok (.goto (4), 3) := by decide +kernel
theorem d_M_isWhole_174 : decode me_M_isWhole.2.1 174 = .ok (.iconst 0, 1) := by decide +kernel
theorem d_M_isWhole_175 : decode me_M_isWhole.2.1 175 = .ok (.istore_n 2, 1) := by decide +kernel
theorem d_M_isWhole_176 : decode me_M_isWhole.2.1 176 = .ok (.iinc 3 (1), 3) := by decide +kernel
theorem d_M_isWhole_179 : decode me_M_isWhole.2.1 179 = .ok (.goto (-32), 3) := by decide +kernel
theorem d_M_isWhole_182 : decode me_M_isWhole.2.1 182 = .ok (.iload_n 2, 1) := by decide +kernel
theorem d_M_isWhole_183 : decode me_M_isWhole.2.1 183 = .ok (.ireturn, 1) := by decide +kernel
theorem d_M_branches_0 : decode me_M_branches.2.1 0 = .ok (.iconst 0, 1) := by decide +kernel
theorem d_M_branches_1 : decode me_M_branches.2.1 1 = .ok (.istore_n 2, 1) := by decide +kernel
theorem d_M_branches_2 : decode me_M_branches.2.1 2 = .ok (.iload_n 2, 1) := by decide +kernel
theorem d_M_branches_3 : decode me_M_branches.2.1 3 = .ok (.bipush (12), 2) := by decide +kernel
theorem d_M_branches_5 : decode me_M_branches.2.1 5 = .ok (.if_icmp .ge (30), 3) := by decide +kernel
theorem d_M_branches_8 : decode me_M_branches.2.1 8 = .ok (.aload_n 0, 1) := by decide +kernel
theorem d_M_branches_9 : decode me_M_branches.2.1 9 = .ok (.getfield 116, 3) := by decide +kernel
theorem g_M_branches_9 : bm_gf me_M_branches 9 11 41 := ⟨_, _, _, _, d_M_branches_9, rfl, by decide, uw_M, fl_M_116⟩
theorem d_M_branches_12 : decode me_M_branches.2.1 12 = .ok (.iload_n 2, 1) := by decide +kernel
theorem d_M_branches_13 : decode me_M_branches.2.1 13 = .ok (.iconst (-1), 1) := by decide +kernel
theorem d_M_branches_14 : decode me_M_branches.2.1 14 = .ok (.iastore, 1) := by decide +kernel
theorem d_M_branches_15 : decode me_M_branches.2.1 15 = .ok (.aload_n 0, 1) := by decide +kernel
theorem d_M_branches_16 : decode me_M_branches.2.1 16 = .ok (.getfield 119, 3) := by decide +kernel
theorem g_M_branches_16 : bm_gf me_M_branches 16 11 42 := ⟨_, _, _, _, d_M_branches_16, rfl, by decide, uw_M, fl_M_119⟩
theorem d_M_branches_19 : decode me_M_branches.2.1 19 = .ok (.iload_n 2, 1) := by decide +kernel
theorem d_M_branches_20 : decode me_M_branches.2.1 20 = .ok (.iconst (-1), 1) := by decide +kernel
theorem d_M_branches_21 : decode me_M_branches.2.1 21 = .ok (.iastore, 1) := by decide +kernel
theorem d_M_branches_22 : decode me_M_branches.2.1 22 = .ok (.aload_n 0, 1) := by decide +kernel
theorem d_M_branches_23 : decode me_M_branches.2.1 23 = .ok (.getfield 122, 3) := by decide +kernel
theorem g_M_branches_23 : bm_gf me_M_branches 23 11 43 := ⟨_, _, _, _, d_M_branches_23, rfl, by decide, uw_M, fl_M_122⟩
theorem d_M_branches_26 : decode me_M_branches.2.1 26 = .ok (.iload_n 2, 1) := by decide +kernel
theorem d_M_branches_27 : decode me_M_branches.2.1 27 = .ok (.iconst (-1), 1) := by decide +kernel
theorem d_M_branches_28 : decode me_M_branches.2.1 28 = .ok (.iastore, 1) := by decide +kernel
theorem d_M_branches_29 : decode me_M_branches.2.1 29 = .ok (.iinc 2 (1), 3) := by decide +kernel
theorem d_M_branches_32 : decode me_M_branches.2.1 32 = .ok (.goto (-30), 3) := by decide +kernel
theorem d_M_branches_35 : decode me_M_branches.2.1 35 = .ok (.aload_n 0, 1) := by decide +kernel
theorem d_M_branches_36 : decode me_M_branches.2.1 36 = .ok (.getfield 116, 3) := by decide +kernel
theorem g_M_branches_36 : bm_gf me_M_branches 36 11 41 := ⟨_, _, _, _, d_M_branches_36, rfl, by decide, uw_M, fl_M_116⟩
theorem d_M_branches_39 : decode me_M_branches.2.1 39 = .ok (.iconst 0, 1) := by decide +kernel
theorem d_M_branches_40 : decode me_M_branches.2.1 40 = .ok (.iconst 0, 1) := by decide +kernel
theorem d_M_branches_41 : decode me_M_branches.2.1 41 = .ok (.iastore, 1) := by decide +kernel
theorem d_M_branches_42 : decode me_M_branches.2.1 42 = .ok (.aload_n 0, 1) := by decide +kernel
theorem d_M_branches_43 : decode me_M_branches.2.1 43 = .ok (.getfield 35, 3) := by decide +kernel
theorem g_M_branches_43 : bm_gf me_M_branches 43 11 9 := ⟨_, _, _, _, d_M_branches_43, rfl, by decide, uw_M, fl_M_35⟩
theorem d_M_branches_46 : decode me_M_branches.2.1 46 = .ok (.bipush (12), 2) := by decide +kernel
theorem d_M_branches_48 : decode me_M_branches.2.1 48 = .ok (.iload_n 1, 1) := by decide +kernel
theorem d_M_branches_49 : decode me_M_branches.2.1 49 = .ok (.imul, 1) := by decide +kernel
theorem d_M_branches_50 : decode me_M_branches.2.1 50 = .ok (.iaload, 1) := by decide +kernel
theorem d_M_branches_51 : decode me_M_branches.2.1 51 = .ok (.bipush (6), 2) := by decide +kernel
theorem d_M_branches_53 : decode me_M_branches.2.1 53 = .ok (.if_icmp .eq (7), 3) := by decide +kernel
theorem d_M_branches_56 : decode me_M_branches.2.1 56 = .ok (.iconst 1, 1) := by decide +kernel
theorem d_M_branches_57 : decode me_M_branches.2.1 57 = .ok (.goto (4), 3) := by decide +kernel
theorem d_M_branches_60 : decode me_M_branches.2.1 60 = .ok (.iconst 0, 1) := by decide +kernel
theorem d_M_branches_61 : decode me_M_branches.2.1 61 = .ok (.istore_n 2, 1) := by decide +kernel
theorem d_M_branches_62 : decode me_M_branches.2.1 62 = .ok (.iconst 0, 1) := by decide +kernel
theorem d_M_branches_63 : decode me_M_branches.2.1 63 = .ok (.istore_n 3, 1) := by decide +kernel
theorem d_M_branches_64 : decode me_M_branches.2.1 64 = .ok (.iload_n 3, 1) := by decide +kernel
theorem d_M_branches_65 : decode me_M_branches.2.1 65 = .ok (.aload_n 0, 1) := by decide +kernel
theorem d_M_branches_66 : decode me_M_branches.2.1 66 = .ok (.getfield 28, 3) := by decide +kernel
theorem g_M_branches_66 : bm_gf me_M_branches 66 11 7 := ⟨_, _, _, _, d_M_branches_66, rfl, by decide, uw_M, fl_M_28⟩
theorem d_M_branches_69 : decode me_M_branches.2.1 69 = .ok (.iload_n 1, 1) := by decide +kernel
theorem d_M_branches_70 : decode me_M_branches.2.1 70 = .ok (.iaload, 1) := by decide +kernel
theorem d_M_branches_71 : decode me_M_branches.2.1 71 = .ok (.if_icmp .gt (64), 3) := by decide +kernel
theorem d_M_branches_74 : decode me_M_branches.2.1 74 = .ok (.iload_n 2, 1) := by decide +kernel
theorem d_M_branches_75 : decode me_M_branches.2.1 75 = .ok (.ifCond .eq (60), 3) := by decide +kernel
theorem d_M_branches_78 : decode me_M_branches.2.1 78 = .ok (.iconst 0, 1) := by decide +kernel
theorem d_M_branches_79 : decode me_M_branches.2.1 79 = .ok (.istore 4, 2) := by decide +kernel
theorem d_M_branches_81 : decode me_M_branches.2.1 81 = .ok (.iload 4, 2) := by decide +kernel
theorem d_M_branches_83 : decode me_M_branches.2.1 83 = .ok (.aload_n 0, 1) := by decide +kernel
theorem d_M_branches_84 : decode me_M_branches.2.1 84 = .ok (.getfield 28, 3) := by decide +kernel
theorem g_M_branches_84 : bm_gf me_M_branches 84 11 7 := ⟨_, _, _, _, d_M_branches_84, rfl, by decide, uw_M, fl_M_28⟩
theorem d_M_branches_87 : decode me_M_branches.2.1 87 = .ok (.iload_n 1, 1) := by decide +kernel
theorem d_M_branches_88 : decode me_M_branches.2.1 88 = .ok (.iaload, 1) := by decide +kernel
theorem d_M_branches_89 : decode me_M_branches.2.1 89 = .ok (.if_icmp .ge (40), 3) := by decide +kernel
theorem d_M_branches_92 : decode me_M_branches.2.1 92 = .ok (.iload_n 2, 1) := by decide +kernel
theorem d_M_branches_93 : decode me_M_branches.2.1 93 = .ok (.ifCond .eq (36), 3) := by decide +kernel
theorem d_M_branches_96 : decode me_M_branches.2.1 96 = .ok (.aload_n 0, 1) := by decide +kernel
theorem d_M_branches_97 : decode me_M_branches.2.1 97 = .ok (.getfield 116, 3) := by decide +kernel
theorem g_M_branches_97 : bm_gf me_M_branches 97 11 41 := ⟨_, _, _, _, d_M_branches_97, rfl, by decide, uw_M, fl_M_116⟩
theorem d_M_branches_100 : decode me_M_branches.2.1 100 = .ok (.iload 4, 2) := by decide +kernel
theorem d_M_branches_102 : decode me_M_branches.2.1 102 = .ok (.iaload, 1) := by decide +kernel
theorem d_M_branches_103 : decode me_M_branches.2.1 103 = .ok (.iconst (-1), 1) := by decide +kernel
theorem d_M_branches_104 : decode me_M_branches.2.1 104 = .ok (.if_icmp .eq (13), 3) := by decide +kernel
theorem d_M_branches_107 : decode me_M_branches.2.1 107 = .ok (.aload_n 0, 1) := by decide +kernel
theorem d_M_branches_108 : decode me_M_branches.2.1 108 = .ok (.iload_n 1, 1) := by decide +kernel
theorem d_M_branches_109 : decode me_M_branches.2.1 109 = .ok (.iload 4, 2) := by decide +kernel
theorem d_M_branches_111 : decode me_M_branches.2.1 111 = .ok (.invokevirtual 162, 3) := by decide +kernel
theorem c_M_branches_111 : bm_iv me_M_branches me_M_leads 111 11 2 := ⟨_, d_M_branches_111, Or.inl ml_M_162, ⟨kc_M_leads, in_BatchHallModel, by decide +kernel, by decide, by decide⟩, ki_M_leads, ks_M_leads, _, _, rfl⟩
theorem d_M_branches_114 : decode me_M_branches.2.1 114 = .ok (.ifCond .eq (7), 3) := by decide +kernel
theorem d_M_branches_117 : decode me_M_branches.2.1 117 = .ok (.iconst 1, 1) := by decide +kernel
theorem d_M_branches_118 : decode me_M_branches.2.1 118 = .ok (.goto (4), 3) := by decide +kernel
theorem d_M_branches_121 : decode me_M_branches.2.1 121 = .ok (.iconst 0, 1) := by decide +kernel
theorem d_M_branches_122 : decode me_M_branches.2.1 122 = .ok (.istore_n 2, 1) := by decide +kernel
theorem d_M_branches_123 : decode me_M_branches.2.1 123 = .ok (.iinc 4 (1), 3) := by decide +kernel
theorem d_M_branches_126 : decode me_M_branches.2.1 126 = .ok (.goto (-45), 3) := by decide +kernel
theorem d_M_branches_129 : decode me_M_branches.2.1 129 = .ok (.iinc 3 (1), 3) := by decide +kernel
theorem d_M_branches_132 : decode me_M_branches.2.1 132 = .ok (.goto (-68), 3) := by decide +kernel
theorem d_M_branches_135 : decode me_M_branches.2.1 135 = .ok (.iconst 0, 1) := by decide +kernel
theorem d_M_branches_136 : decode me_M_branches.2.1 136 = .ok (.istore_n 3, 1) := by decide +kernel
theorem d_M_branches_137 : decode me_M_branches.2.1 137 = .ok (.iload_n 3, 1) := by decide +kernel
theorem d_M_branches_138 : decode me_M_branches.2.1 138 = .ok (.aload_n 0, 1) := by decide +kernel
theorem d_M_branches_139 : decode me_M_branches.2.1 139 = .ok (.getfield 28, 3) := by decide +kernel
theorem g_M_branches_139 : bm_gf me_M_branches 139 11 7 := ⟨_, _, _, _, d_M_branches_139, rfl, by decide, uw_M, fl_M_28⟩
theorem d_M_branches_142 : decode me_M_branches.2.1 142 = .ok (.iload_n 1, 1) := by decide +kernel
theorem d_M_branches_143 : decode me_M_branches.2.1 143 = .ok (.iaload, 1) := by decide +kernel
theorem d_M_branches_144 : decode me_M_branches.2.1 144 = .ok (.if_icmp .ge (125), 3) := by decide +kernel
theorem d_M_branches_147 : decode me_M_branches.2.1 147 = .ok (.iload_n 2, 1) := by decide +kernel
theorem d_M_branches_148 : decode me_M_branches.2.1 148 = .ok (.ifCond .eq (43), 3) := by decide +kernel
theorem d_M_branches_151 : decode me_M_branches.2.1 151 = .ok (.aload_n 0, 1) := by decide +kernel
theorem d_M_branches_152 : decode me_M_branches.2.1 152 = .ok (.getfield 116, 3) := by decide +kernel
theorem g_M_branches_152 : bm_gf me_M_branches 152 11 41 := ⟨_, _, _, _, d_M_branches_152, rfl, by decide, uw_M, fl_M_116⟩
theorem d_M_branches_155 : decode me_M_branches.2.1 155 = .ok (.iload_n 3, 1) := by decide +kernel
theorem d_M_branches_156 : decode me_M_branches.2.1 156 = .ok (.iaload, 1) := by decide +kernel
theorem d_M_branches_157 : decode me_M_branches.2.1 157 = .ok (.iconst (-1), 1) := by decide +kernel
theorem d_M_branches_158 : decode me_M_branches.2.1 158 = .ok (.if_icmp .eq (33), 3) := by decide +kernel
theorem d_M_branches_161 : decode me_M_branches.2.1 161 = .ok (.aload_n 0, 1) := by decide +kernel
theorem d_M_branches_162 : decode me_M_branches.2.1 162 = .ok (.getfield 35, 3) := by decide +kernel
theorem g_M_branches_162 : bm_gf me_M_branches 162 11 9 := ⟨_, _, _, _, d_M_branches_162, rfl, by decide, uw_M, fl_M_35⟩
theorem d_M_branches_165 : decode me_M_branches.2.1 165 = .ok (.bipush (12), 2) := by decide +kernel
theorem d_M_branches_167 : decode me_M_branches.2.1 167 = .ok (.iload_n 1, 1) := by decide +kernel
theorem d_M_branches_168 : decode me_M_branches.2.1 168 = .ok (.imul, 1) := by decide +kernel
theorem d_M_branches_169 : decode me_M_branches.2.1 169 = .ok (.iload_n 3, 1) := by decide +kernel
theorem d_M_branches_170 : decode me_M_branches.2.1 170 = .ok (.iadd, 1) := by decide +kernel
theorem d_M_branches_171 : decode me_M_branches.2.1 171 = .ok (.iaload, 1) := by decide +kernel
theorem d_M_branches_172 : decode me_M_branches.2.1 172 = .ok (.bipush (6), 2) := by decide +kernel
theorem d_M_branches_174 : decode me_M_branches.2.1 174 = .ok (.if_icmp .ne (13), 3) := by decide +kernel
theorem d_M_branches_177 : decode me_M_branches.2.1 177 = .ok (.aload_n 0, 1) := by decide +kernel
theorem d_M_branches_178 : decode me_M_branches.2.1 178 = .ok (.getfield 122, 3) := by decide +kernel
theorem g_M_branches_178 : bm_gf me_M_branches 178 11 43 := ⟨_, _, _, _, d_M_branches_178, rfl, by decide, uw_M, fl_M_122⟩
theorem d_M_branches_181 : decode me_M_branches.2.1 181 = .ok (.iload_n 3, 1) := by decide +kernel
theorem d_M_branches_182 : decode me_M_branches.2.1 182 = .ok (.iaload, 1) := by decide +kernel
theorem d_M_branches_183 : decode me_M_branches.2.1 183 = .ok (.iconst (-1), 1) := by decide +kernel
theorem d_M_branches_184 : decode me_M_branches.2.1 184 = .ok (.if_icmp .eq (7), 3) := by decide +kernel
theorem d_M_branches_187 : decode me_M_branches.2.1 187 = .ok (.iconst 1, 1) := by decide +kernel
theorem d_M_branches_188 : decode me_M_branches.2.1 188 = .ok (.goto (4), 3) := by decide +kernel
theorem d_M_branches_191 : decode me_M_branches.2.1 191 = .ok (.iconst 0, 1) := by decide +kernel
theorem d_M_branches_192 : decode me_M_branches.2.1 192 = .ok (.istore_n 2, 1) := by decide +kernel
theorem d_M_branches_193 : decode me_M_branches.2.1 193 = .ok (.iconst 0, 1) := by decide +kernel
theorem d_M_branches_194 : decode me_M_branches.2.1 194 = .ok (.istore 4, 2) := by decide +kernel
theorem d_M_branches_196 : decode me_M_branches.2.1 196 = .ok (.iload 4, 2) := by decide +kernel
theorem d_M_branches_198 : decode me_M_branches.2.1 198 = .ok (.iload_n 3, 1) := by decide +kernel
theorem d_M_branches_199 : decode me_M_branches.2.1 199 = .ok (.if_icmp .ge (64), 3) := by decide +kernel
theorem d_M_branches_202 : decode me_M_branches.2.1 202 = .ok (.iload_n 2, 1) := by decide +kernel
theorem d_M_branches_203 : decode me_M_branches.2.1 203 = .ok (.ifCond .eq (52), 3) := by decide +kernel
theorem d_M_branches_206 : decode me_M_branches.2.1 206 = .ok (.aload_n 0, 1) := by decide +kernel
theorem d_M_branches_207 : decode me_M_branches.2.1 207 = .ok (.getfield 119, 3) := by decide +kernel
theorem g_M_branches_207 : bm_gf me_M_branches 207 11 42 := ⟨_, _, _, _, d_M_branches_207, rfl, by decide, uw_M, fl_M_119⟩
theorem d_M_branches_210 : decode me_M_branches.2.1 210 = .ok (.iload_n 3, 1) := by decide +kernel
theorem d_M_branches_211 : decode me_M_branches.2.1 211 = .ok (.iaload, 1) := by decide +kernel
theorem d_M_branches_212 : decode me_M_branches.2.1 212 = .ok (.iconst (-1), 1) := by decide +kernel
theorem d_M_branches_213 : decode me_M_branches.2.1 213 = .ok (.if_icmp .eq (38), 3) := by decide +kernel
theorem d_M_branches_216 : decode me_M_branches.2.1 216 = .ok (.aload_n 0, 1) := by decide +kernel
theorem d_M_branches_217 : decode me_M_branches.2.1 217 = .ok (.getfield 119, 3) := by decide +kernel
theorem g_M_branches_217 : bm_gf me_M_branches 217 11 42 := ⟨_, _, _, _, d_M_branches_217, rfl, by decide, uw_M, fl_M_119⟩
theorem d_M_branches_220 : decode me_M_branches.2.1 220 = .ok (.iload 4, 2) := by decide +kernel
theorem d_M_branches_222 : decode me_M_branches.2.1 222 = .ok (.iaload, 1) := by decide +kernel
theorem d_M_branches_223 : decode me_M_branches.2.1 223 = .ok (.iconst (-1), 1) := by decide +kernel
theorem d_M_branches_224 : decode me_M_branches.2.1 224 = .ok (.if_icmp .eq (27), 3) := by decide +kernel
theorem d_M_branches_227 : decode me_M_branches.2.1 227 = .ok (.aload_n 0, 1) := by decide +kernel
theorem d_M_branches_228 : decode me_M_branches.2.1 228 = .ok (.getfield 119, 3) := by decide +kernel
theorem g_M_branches_228 : bm_gf me_M_branches 228 11 42 := ⟨_, _, _, _, d_M_branches_228, rfl, by decide, uw_M, fl_M_119⟩
theorem d_M_branches_231 : decode me_M_branches.2.1 231 = .ok (.iload_n 3, 1) := by decide +kernel
theorem d_M_branches_232 : decode me_M_branches.2.1 232 = .ok (.iaload, 1) := by decide +kernel
theorem d_M_branches_233 : decode me_M_branches.2.1 233 = .ok (.iconst 1, 1) := by decide +kernel
theorem d_M_branches_234 : decode me_M_branches.2.1 234 = .ok (.isub, 1) := by decide +kernel
theorem d_M_branches_235 : decode me_M_branches.2.1 235 = .ok (.iconst 2, 1) := by decide +kernel
theorem d_M_branches_236 : decode me_M_branches.2.1 236 = .ok (.idiv, 1) := by decide +kernel
theorem d_M_branches_237 : decode me_M_branches.2.1 237 = .ok (.aload_n 0, 1) := by decide +kernel
theorem d_M_branches_238 : decode me_M_branches.2.1 238 = .ok (.getfield 119, 3) := by decide +kernel
theorem g_M_branches_238 : bm_gf me_M_branches 238 11 42 := ⟨_, _, _, _, d_M_branches_238, rfl, by decide, uw_M, fl_M_119⟩
theorem d_M_branches_241 : decode me_M_branches.2.1 241 = .ok (.iload 4, 2) := by decide +kernel
theorem d_M_branches_243 : decode me_M_branches.2.1 243 = .ok (.iaload, 1) := by decide +kernel
theorem d_M_branches_244 : decode me_M_branches.2.1 244 = .ok (.iconst 1, 1) := by decide +kernel
theorem d_M_branches_245 : decode me_M_branches.2.1 245 = .ok (.isub, 1) := by decide +kernel
theorem d_M_branches_246 : decode me_M_branches.2.1 246 = .ok (.iconst 2, 1) := by decide +kernel
theorem d_M_branches_247 : decode me_M_branches.2.1 247 = .ok (.idiv, 1) := by decide +kernel
theorem d_M_branches_248 : decode me_M_branches.2.1 248 = .ok (.if_icmp .eq (7), 3) := by decide +kernel
theorem d_M_branches_251 : decode me_M_branches.2.1 251 = .ok (.iconst 1, 1) := by decide +kernel
theorem d_M_branches_252 : decode me_M_branches.2.1 252 = .ok (.goto (4), 3) := by decide +kernel
theorem d_M_branches_255 : decode me_M_branches.2.1 255 = .ok (.iconst 0, 1) := by decide +kernel
theorem d_M_branches_256 : decode me_M_branches.2.1 256 = .ok (.istore_n 2, 1) := by decide +kernel
theorem d_M_branches_257 : decode me_M_branches.2.1 257 = .ok (.iinc 4 (1), 3) := by decide +kernel
theorem d_M_branches_260 : decode me_M_branches.2.1 260 = .ok (.goto (-64), 3) := by decide +kernel
theorem d_M_branches_263 : decode me_M_branches.2.1 263 = .ok (.iinc 3 (1), 3) := by decide +kernel
theorem d_M_branches_266 : decode me_M_branches.2.1 266 = .ok (.goto (-129), 3) := by decide +kernel
theorem d_M_branches_269 : decode me_M_branches.2.1 269 = .ok (.iload_n 2, 1) := by decide +kernel
theorem d_M_branches_270 : decode me_M_branches.2.1 270 = .ok (.ireturn, 1) := by decide +kernel
theorem d_M_leads_0 : decode me_M_leads.2.1 0 = .ok (.bipush (12), 2) := by decide +kernel
theorem d_M_leads_2 : decode me_M_leads.2.1 2 = .ok (.iload_n 1, 1) := by decide +kernel
theorem d_M_leads_3 : decode me_M_leads.2.1 3 = .ok (.imul, 1) := by decide +kernel
theorem d_M_leads_4 : decode me_M_leads.2.1 4 = .ok (.iload_n 2, 1) := by decide +kernel
theorem d_M_leads_5 : decode me_M_leads.2.1 5 = .ok (.iadd, 1) := by decide +kernel
theorem d_M_leads_6 : decode me_M_leads.2.1 6 = .ok (.istore_n 3, 1) := by decide +kernel
theorem d_M_leads_7 : decode me_M_leads.2.1 7 = .ok (.aload_n 0, 1) := by decide +kernel
theorem d_M_leads_8 : decode me_M_leads.2.1 8 = .ok (.getfield 35, 3) := by decide +kernel
theorem g_M_leads_8 : bm_gf me_M_leads 8 11 9 := ⟨_, _, _, _, d_M_leads_8, rfl, by decide, uw_M, fl_M_35⟩
theorem d_M_leads_11 : decode me_M_leads.2.1 11 = .ok (.iload_n 3, 1) := by decide +kernel
theorem d_M_leads_12 : decode me_M_leads.2.1 12 = .ok (.iaload, 1) := by decide +kernel
theorem d_M_leads_13 : decode me_M_leads.2.1 13 = .ok (.istore 4, 2) := by decide +kernel
theorem d_M_leads_15 : decode me_M_leads.2.1 15 = .ok (.iload 4, 2) := by decide +kernel
theorem d_M_leads_17 : decode me_M_leads.2.1 17 = .ok (.bipush (9), 2) := by decide +kernel
theorem d_M_leads_19 : decode me_M_leads.2.1 19 = .ok (.if_icmp .ne (18), 3) := by decide +kernel
theorem d_M_leads_22 : decode me_M_leads.2.1 22 = .ok (.aload_n 0, 1) := by decide +kernel
theorem d_M_leads_23 : decode me_M_leads.2.1 23 = .ok (.getfield 116, 3) := by decide +kernel
theorem g_M_leads_23 : bm_gf me_M_leads 23 11 41 := ⟨_, _, _, _, d_M_leads_23, rfl, by decide, uw_M, fl_M_116⟩
theorem d_M_leads_26 : decode me_M_leads.2.1 26 = .ok (.iload_n 2, 1) := by decide +kernel
theorem d_M_leads_27 : decode me_M_leads.2.1 27 = .ok (.iaload, 1) := by decide +kernel
theorem d_M_leads_28 : decode me_M_leads.2.1 28 = .ok (.ifCond .ne (7), 3) := by decide +kernel
theorem d_M_leads_31 : decode me_M_leads.2.1 31 = .ok (.iconst 1, 1) := by decide +kernel
theorem d_M_leads_32 : decode me_M_leads.2.1 32 = .ok (.goto (4), 3) := by decide +kernel
theorem d_M_leads_35 : decode me_M_leads.2.1 35 = .ok (.iconst 0, 1) := by decide +kernel
theorem d_M_leads_36 : decode me_M_leads.2.1 36 = .ok (.ireturn, 1) := by decide +kernel
theorem d_M_leads_37 : decode me_M_leads.2.1 37 = .ok (.iload 4, 2) := by decide +kernel
theorem d_M_leads_39 : decode me_M_leads.2.1 39 = .ok (.iconst 5, 1) := by decide +kernel
theorem d_M_leads_40 : decode me_M_leads.2.1 40 = .ok (.if_icmp .ne (101), 3) := by decide +kernel
theorem d_M_leads_43 : decode me_M_leads.2.1 43 = .ok (.aload_n 0, 1) := by decide +kernel
theorem d_M_leads_44 : decode me_M_leads.2.1 44 = .ok (.getfield 35, 3) := by decide +kernel
theorem g_M_leads_44 : bm_gf me_M_leads 44 11 9 := ⟨_, _, _, _, d_M_leads_44, rfl, by decide, uw_M, fl_M_35⟩
theorem d_M_leads_47 : decode me_M_leads.2.1 47 = .ok (.bipush (12), 2) := by decide +kernel
theorem d_M_leads_49 : decode me_M_leads.2.1 49 = .ok (.iload_n 1, 1) := by decide +kernel
theorem d_M_leads_50 : decode me_M_leads.2.1 50 = .ok (.imul, 1) := by decide +kernel
theorem d_M_leads_51 : decode me_M_leads.2.1 51 = .ok (.aload_n 0, 1) := by decide +kernel
theorem d_M_leads_52 : decode me_M_leads.2.1 52 = .ok (.getfield 47, 3) := by decide +kernel
theorem g_M_leads_52 : bm_gf me_M_leads 52 11 13 := ⟨_, _, _, _, d_M_leads_52, rfl, by decide, uw_M, fl_M_47⟩
theorem d_M_leads_55 : decode me_M_leads.2.1 55 = .ok (.iload_n 3, 1) := by decide +kernel
theorem d_M_leads_56 : decode me_M_leads.2.1 56 = .ok (.iaload, 1) := by decide +kernel
theorem d_M_leads_57 : decode me_M_leads.2.1 57 = .ok (.iadd, 1) := by decide +kernel
theorem d_M_leads_58 : decode me_M_leads.2.1 58 = .ok (.iaload, 1) := by decide +kernel
theorem d_M_leads_59 : decode me_M_leads.2.1 59 = .ok (.bipush (6), 2) := by decide +kernel
theorem d_M_leads_61 : decode me_M_leads.2.1 61 = .ok (.if_icmp .eq (28), 3) := by decide +kernel
theorem d_M_leads_64 : decode me_M_leads.2.1 64 = .ok (.aload_n 0, 1) := by decide +kernel
theorem d_M_leads_65 : decode me_M_leads.2.1 65 = .ok (.getfield 35, 3) := by decide +kernel
theorem g_M_leads_65 : bm_gf me_M_leads 65 11 9 := ⟨_, _, _, _, d_M_leads_65, rfl, by decide, uw_M, fl_M_35⟩
theorem d_M_leads_68 : decode me_M_leads.2.1 68 = .ok (.bipush (12), 2) := by decide +kernel
theorem d_M_leads_70 : decode me_M_leads.2.1 70 = .ok (.iload_n 1, 1) := by decide +kernel
theorem d_M_leads_71 : decode me_M_leads.2.1 71 = .ok (.imul, 1) := by decide +kernel
theorem d_M_leads_72 : decode me_M_leads.2.1 72 = .ok (.aload_n 0, 1) := by decide +kernel
theorem d_M_leads_73 : decode me_M_leads.2.1 73 = .ok (.getfield 50, 3) := by decide +kernel
theorem g_M_leads_73 : bm_gf me_M_leads 73 11 14 := ⟨_, _, _, _, d_M_leads_73, rfl, by decide, uw_M, fl_M_50⟩
theorem d_M_leads_76 : decode me_M_leads.2.1 76 = .ok (.iload_n 3, 1) := by decide +kernel
theorem d_M_leads_77 : decode me_M_leads.2.1 77 = .ok (.iaload, 1) := by decide +kernel
theorem d_M_leads_78 : decode me_M_leads.2.1 78 = .ok (.iadd, 1) := by decide +kernel
theorem d_M_leads_79 : decode me_M_leads.2.1 79 = .ok (.iaload, 1) := by decide +kernel
theorem d_M_leads_80 : decode me_M_leads.2.1 80 = .ok (.bipush (6), 2) := by decide +kernel
theorem d_M_leads_82 : decode me_M_leads.2.1 82 = .ok (.if_icmp .eq (7), 3) := by decide +kernel
theorem d_M_leads_85 : decode me_M_leads.2.1 85 = .ok (.iconst 1, 1) := by decide +kernel
theorem d_M_leads_86 : decode me_M_leads.2.1 86 = .ok (.goto (4), 3) := by decide +kernel
theorem d_M_leads_89 : decode me_M_leads.2.1 89 = .ok (.iconst 0, 1) := by decide +kernel
theorem d_M_leads_90 : decode me_M_leads.2.1 90 = .ok (.istore 5, 2) := by decide +kernel
theorem d_M_leads_92 : decode me_M_leads.2.1 92 = .ok (.iload 5, 2) := by decide +kernel
theorem d_M_leads_94 : decode me_M_leads.2.1 94 = .ok (.ifCond .eq (45), 3) := by decide +kernel
theorem d_M_leads_97 : decode me_M_leads.2.1 97 = .ok (.aload_n 0, 1) := by decide +kernel
theorem d_M_leads_98 : decode me_M_leads.2.1 98 = .ok (.iload_n 1, 1) := by decide +kernel
theorem d_M_leads_99 : decode me_M_leads.2.1 99 = .ok (.aload_n 0, 1) := by decide +kernel
theorem d_M_leads_100 : decode me_M_leads.2.1 100 = .ok (.getfield 47, 3) := by decide +kernel
theorem g_M_leads_100 : bm_gf me_M_leads 100 11 13 := ⟨_, _, _, _, d_M_leads_100, rfl, by decide, uw_M, fl_M_47⟩
theorem d_M_leads_103 : decode me_M_leads.2.1 103 = .ok (.iload_n 3, 1) := by decide +kernel
theorem d_M_leads_104 : decode me_M_leads.2.1 104 = .ok (.iaload, 1) := by decide +kernel
theorem d_M_leads_105 : decode me_M_leads.2.1 105 = .ok (.iconst 1, 1) := by decide +kernel
theorem d_M_leads_106 : decode me_M_leads.2.1 106 = .ok (.iconst 2, 1) := by decide +kernel
theorem d_M_leads_107 : decode me_M_leads.2.1 107 = .ok (.iload_n 2, 1) := by decide +kernel
theorem d_M_leads_108 : decode me_M_leads.2.1 108 = .ok (.imul, 1) := by decide +kernel
theorem d_M_leads_109 : decode me_M_leads.2.1 109 = .ok (.iadd, 1) := by decide +kernel
theorem d_M_leads_110 : decode me_M_leads.2.1 110 = .ok (.invokevirtual 159, 3) := by decide +kernel
theorem c_M_leads_110 : bm_iv me_M_leads me_M_enters 110 11 3 := ⟨_, d_M_leads_110, Or.inl ml_M_159, ⟨kc_M_enters, in_BatchHallModel, by decide +kernel, by decide, by decide⟩, ki_M_enters, ks_M_enters, _, _, rfl⟩
theorem d_M_leads_113 : decode me_M_leads.2.1 113 = .ok (.ifCond .eq (26), 3) := by decide +kernel
theorem d_M_leads_116 : decode me_M_leads.2.1 116 = .ok (.aload_n 0, 1) := by decide +kernel
theorem d_M_leads_117 : decode me_M_leads.2.1 117 = .ok (.iload_n 1, 1) := by decide +kernel
theorem d_M_leads_118 : decode me_M_leads.2.1 118 = .ok (.aload_n 0, 1) := by decide +kernel
theorem d_M_leads_119 : decode me_M_leads.2.1 119 = .ok (.getfield 50, 3) := by decide +kernel
theorem g_M_leads_119 : bm_gf me_M_leads 119 11 14 := ⟨_, _, _, _, d_M_leads_119, rfl, by decide, uw_M, fl_M_50⟩
theorem d_M_leads_122 : decode me_M_leads.2.1 122 = .ok (.iload_n 3, 1) := by decide +kernel
theorem d_M_leads_123 : decode me_M_leads.2.1 123 = .ok (.iaload, 1) := by decide +kernel
theorem d_M_leads_124 : decode me_M_leads.2.1 124 = .ok (.iconst 2, 1) := by decide +kernel
theorem d_M_leads_125 : decode me_M_leads.2.1 125 = .ok (.iconst 2, 1) := by decide +kernel
theorem d_M_leads_126 : decode me_M_leads.2.1 126 = .ok (.iload_n 2, 1) := by decide +kernel
theorem d_M_leads_127 : decode me_M_leads.2.1 127 = .ok (.imul, 1) := by decide +kernel
theorem d_M_leads_128 : decode me_M_leads.2.1 128 = .ok (.iadd, 1) := by decide +kernel
theorem d_M_leads_129 : decode me_M_leads.2.1 129 = .ok (.invokevirtual 159, 3) := by decide +kernel
theorem c_M_leads_129 : bm_iv me_M_leads me_M_enters 129 11 3 := ⟨_, d_M_leads_129, Or.inl ml_M_159, ⟨kc_M_enters, in_BatchHallModel, by decide +kernel, by decide, by decide⟩, ki_M_enters, ks_M_enters, _, _, rfl⟩
theorem d_M_leads_132 : decode me_M_leads.2.1 132 = .ok (.ifCond .eq (7), 3) := by decide +kernel
theorem d_M_leads_135 : decode me_M_leads.2.1 135 = .ok (.iconst 1, 1) := by decide +kernel
theorem d_M_leads_136 : decode me_M_leads.2.1 136 = .ok (.goto (4), 3) := by decide +kernel
theorem d_M_leads_139 : decode me_M_leads.2.1 139 = .ok (.iconst 0, 1) := by decide +kernel
theorem d_M_leads_140 : decode me_M_leads.2.1 140 = .ok (.ireturn, 1) := by decide +kernel
theorem d_M_leads_141 : decode me_M_leads.2.1 141 = .ok (.aload_n 0, 1) := by decide +kernel
theorem d_M_leads_142 : decode me_M_leads.2.1 142 = .ok (.iload_n 1, 1) := by decide +kernel
theorem d_M_leads_143 : decode me_M_leads.2.1 143 = .ok (.aload_n 0, 1) := by decide +kernel
theorem d_M_leads_144 : decode me_M_leads.2.1 144 = .ok (.getfield 47, 3) := by decide +kernel
theorem g_M_leads_144 : bm_gf me_M_leads 144 11 13 := ⟨_, _, _, _, d_M_leads_144, rfl, by decide, uw_M, fl_M_47⟩
theorem d_M_leads_147 : decode me_M_leads.2.1 147 = .ok (.iload_n 3, 1) := by decide +kernel
theorem d_M_leads_148 : decode me_M_leads.2.1 148 = .ok (.iaload, 1) := by decide +kernel
theorem d_M_leads_149 : decode me_M_leads.2.1 149 = .ok (.aload_n 0, 1) := by decide +kernel
theorem d_M_leads_150 : decode me_M_leads.2.1 150 = .ok (.getfield 116, 3) := by decide +kernel
theorem g_M_leads_150 : bm_gf me_M_leads 150 11 41 := ⟨_, _, _, _, d_M_leads_150, rfl, by decide, uw_M, fl_M_116⟩
theorem d_M_leads_153 : decode me_M_leads.2.1 153 = .ok (.iload_n 2, 1) := by decide +kernel
theorem d_M_leads_154 : decode me_M_leads.2.1 154 = .ok (.iaload, 1) := by decide +kernel
theorem d_M_leads_155 : decode me_M_leads.2.1 155 = .ok (.invokevirtual 159, 3) := by decide +kernel
theorem c_M_leads_155 : bm_iv me_M_leads me_M_enters 155 11 3 := ⟨_, d_M_leads_155, Or.inl ml_M_159, ⟨kc_M_enters, in_BatchHallModel, by decide +kernel, by decide, by decide⟩, ki_M_enters, ks_M_enters, _, _, rfl⟩
theorem d_M_leads_158 : decode me_M_leads.2.1 158 = .ok (.istore 5, 2) := by decide +kernel
theorem d_M_leads_160 : decode me_M_leads.2.1 160 = .ok (.iload 5, 2) := by decide +kernel
theorem d_M_leads_162 : decode me_M_leads.2.1 162 = .ok (.ifCond .eq (36), 3) := by decide +kernel
theorem d_M_leads_165 : decode me_M_leads.2.1 165 = .ok (.aload_n 0, 1) := by decide +kernel
theorem d_M_leads_166 : decode me_M_leads.2.1 166 = .ok (.iload 4, 2) := by decide +kernel
theorem d_M_leads_168 : decode me_M_leads.2.1 168 = .ok (.invokevirtual 153, 3) := by decide +kernel
theorem c_M_leads_168 : bm_iv me_M_leads me_M_hasOther 168 11 1 := ⟨_, d_M_leads_168, Or.inl ml_M_153, ⟨kc_M_hasOther, in_BatchHallModel, by decide +kernel, by decide, by decide⟩, ki_M_hasOther, ks_M_hasOther, _, _, rfl⟩
theorem d_M_leads_171 : decode me_M_leads.2.1 171 = .ok (.ifCond .eq (23), 3) := by decide +kernel
theorem d_M_leads_174 : decode me_M_leads.2.1 174 = .ok (.aload_n 0, 1) := by decide +kernel
theorem d_M_leads_175 : decode me_M_leads.2.1 175 = .ok (.iload_n 1, 1) := by decide +kernel
theorem d_M_leads_176 : decode me_M_leads.2.1 176 = .ok (.aload_n 0, 1) := by decide +kernel
theorem d_M_leads_177 : decode me_M_leads.2.1 177 = .ok (.getfield 50, 3) := by decide +kernel
theorem g_M_leads_177 : bm_gf me_M_leads 177 11 14 := ⟨_, _, _, _, d_M_leads_177, rfl, by decide, uw_M, fl_M_50⟩
theorem d_M_leads_180 : decode me_M_leads.2.1 180 = .ok (.iload_n 3, 1) := by decide +kernel
theorem d_M_leads_181 : decode me_M_leads.2.1 181 = .ok (.iaload, 1) := by decide +kernel
theorem d_M_leads_182 : decode me_M_leads.2.1 182 = .ok (.aload_n 0, 1) := by decide +kernel
theorem d_M_leads_183 : decode me_M_leads.2.1 183 = .ok (.getfield 116, 3) := by decide +kernel
theorem g_M_leads_183 : bm_gf me_M_leads 183 11 41 := ⟨_, _, _, _, d_M_leads_183, rfl, by decide, uw_M, fl_M_116⟩
theorem d_M_leads_186 : decode me_M_leads.2.1 186 = .ok (.iload_n 2, 1) := by decide +kernel
theorem d_M_leads_187 : decode me_M_leads.2.1 187 = .ok (.iaload, 1) := by decide +kernel
theorem d_M_leads_188 : decode me_M_leads.2.1 188 = .ok (.invokevirtual 159, 3) := by decide +kernel
theorem c_M_leads_188 : bm_iv me_M_leads me_M_enters 188 11 3 := ⟨_, d_M_leads_188, Or.inl ml_M_159, ⟨kc_M_enters, in_BatchHallModel, by decide +kernel, by decide, by decide⟩, ki_M_enters, ks_M_enters, _, _, rfl⟩
theorem d_M_leads_191 : decode me_M_leads.2.1 191 = .ok (.ifCond .eq (7), 3) := by decide +kernel
theorem d_M_leads_194 : decode me_M_leads.2.1 194 = .ok (.iconst 1, 1) := by decide +kernel
theorem d_M_leads_195 : decode me_M_leads.2.1 195 = .ok (.goto (4), 3) := by decide +kernel
theorem d_M_leads_198 : decode me_M_leads.2.1 198 = .ok (.iconst 0, 1) := by decide +kernel
theorem d_M_leads_199 : decode me_M_leads.2.1 199 = .ok (.ireturn, 1) := by decide +kernel
