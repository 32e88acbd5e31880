theorem d_M_enters_0 : decode me_M_enters.2.1 0 = .ok (.aload_n 0, 1) := by decide +kernel
theorem d_M_enters_1 : decode me_M_enters.2.1 1 = .ok (.getfield 35, 3) := by decide +kernel
theorem g_M_enters_1 : bm_gf me_M_enters 1 11 9 := ⟨_, _, _, _, d_M_enters_1, rfl, by decide, uw_M, fl_M_35⟩
theorem d_M_enters_4 : decode me_M_enters.2.1 4 = .ok (.bipush (12), 2) := by decide +kernel
theorem d_M_enters_6 : decode me_M_enters.2.1 6 = .ok (.iload_n 1, 1) := by decide +kernel
theorem d_M_enters_7 : decode me_M_enters.2.1 7 = .ok (.imul, 1) := by decide +kernel
theorem d_M_enters_8 : decode me_M_enters.2.1 8 = .ok (.iload_n 2, 1) := by decide +kernel
theorem d_M_enters_9 : decode me_M_enters.2.1 9 = .ok (.iadd, 1) := by decide +kernel
theorem d_M_enters_10 : decode me_M_enters.2.1 10 = .ok (.iaload, 1) := by decide +kernel
theorem d_M_enters_11 : decode me_M_enters.2.1 11 = .ok (.bipush (6), 2) := by decide +kernel
theorem d_M_enters_13 : decode me_M_enters.2.1 13 = .ok (.if_icmp .eq (40), 3) := by decide +kernel
theorem d_M_enters_16 : decode me_M_enters.2.1 16 = .ok (.aload_n 0, 1) := by decide +kernel
theorem d_M_enters_17 : decode me_M_enters.2.1 17 = .ok (.getfield 116, 3) := by decide +kernel
theorem g_M_enters_17 : bm_gf me_M_enters 17 11 41 := ⟨_, _, _, _, d_M_enters_17, rfl, by decide, uw_M, fl_M_116⟩
theorem d_M_enters_20 : decode me_M_enters.2.1 20 = .ok (.iload_n 2, 1) := by decide +kernel
theorem d_M_enters_21 : decode me_M_enters.2.1 21 = .ok (.iaload, 1) := by decide +kernel
theorem d_M_enters_22 : decode me_M_enters.2.1 22 = .ok (.iconst (-1), 1) := by decide +kernel
theorem d_M_enters_23 : decode me_M_enters.2.1 23 = .ok (.if_icmp .eq (13), 3) := by decide +kernel
theorem d_M_enters_26 : decode me_M_enters.2.1 26 = .ok (.aload_n 0, 1) := by decide +kernel
theorem d_M_enters_27 : decode me_M_enters.2.1 27 = .ok (.getfield 116, 3) := by decide +kernel
theorem g_M_enters_27 : bm_gf me_M_enters 27 11 41 := ⟨_, _, _, _, d_M_enters_27, rfl, by decide, uw_M, fl_M_116⟩
theorem d_M_enters_30 : decode me_M_enters.2.1 30 = .ok (.iload_n 2, 1) := by decide +kernel
theorem d_M_enters_31 : decode me_M_enters.2.1 31 = .ok (.iaload, 1) := by decide +kernel
theorem d_M_enters_32 : decode me_M_enters.2.1 32 = .ok (.iload_n 3, 1) := by decide +kernel
theorem d_M_enters_33 : decode me_M_enters.2.1 33 = .ok (.if_icmp .ne (7), 3) := by decide +kernel
theorem d_M_enters_36 : decode me_M_enters.2.1 36 = .ok (.iconst 1, 1) := by decide +kernel
theorem d_M_enters_37 : decode me_M_enters.2.1 37 = .ok (.goto (4), 3) := by decide +kernel
theorem d_M_enters_40 : decode me_M_enters.2.1 40 = .ok (.iconst 0, 1) := by decide +kernel
theorem d_M_enters_41 : decode me_M_enters.2.1 41 = .ok (.istore 4, 2) := by decide +kernel
theorem d_M_enters_43 : decode me_M_enters.2.1 43 = .ok (.aload_n 0, 1) := by decide +kernel
theorem d_M_enters_44 : decode me_M_enters.2.1 44 = .ok (.getfield 116, 3) := by decide +kernel
theorem g_M_enters_44 : bm_gf me_M_enters 44 11 41 := ⟨_, _, _, _, d_M_enters_44, rfl, by decide, uw_M, fl_M_116⟩
theorem d_M_enters_47 : decode me_M_enters.2.1 47 = .ok (.iload_n 2, 1) := by decide +kernel
theorem d_M_enters_48 : decode me_M_enters.2.1 48 = .ok (.iload_n 3, 1) := by decide +kernel
theorem d_M_enters_49 : decode me_M_enters.2.1 49 = .ok (.iastore, 1) := by decide +kernel
theorem d_M_enters_50 : decode me_M_enters.2.1 50 = .ok (.iload 4, 2) := by decide +kernel
theorem d_M_enters_52 : decode me_M_enters.2.1 52 = .ok (.ireturn, 1) := by decide +kernel
theorem d_M_enters_53 : decode me_M_enters.2.1 53 = .ok (.iload_n 3, 1) := by decide +kernel
theorem d_M_enters_54 : decode me_M_enters.2.1 54 = .ok (.ifCond .eq (23), 3) := by decide +kernel
theorem d_M_enters_57 : decode me_M_enters.2.1 57 = .ok (.aload_n 0, 1) := by decide +kernel
theorem d_M_enters_58 : decode me_M_enters.2.1 58 = .ok (.getfield 119, 3) := by decide +kernel
theorem g_M_enters_58 : bm_gf me_M_enters 58 11 42 := ⟨_, _, _, _, d_M_enters_58, rfl, by decide, uw_M, fl_M_119⟩
theorem d_M_enters_61 : decode me_M_enters.2.1 61 = .ok (.iload_n 2, 1) := by decide +kernel
theorem d_M_enters_62 : decode me_M_enters.2.1 62 = .ok (.iaload, 1) := by decide +kernel
theorem d_M_enters_63 : decode me_M_enters.2.1 63 = .ok (.iload_n 3, 1) := by decide +kernel
theorem d_M_enters_64 : decode me_M_enters.2.1 64 = .ok (.if_icmp .eq (13), 3) := by decide +kernel
theorem d_M_enters_67 : decode me_M_enters.2.1 67 = .ok (.aload_n 0, 1) := by decide +kernel
theorem d_M_enters_68 : decode me_M_enters.2.1 68 = .ok (.getfield 122, 3) := by decide +kernel
theorem g_M_enters_68 : bm_gf me_M_enters 68 11 43 := ⟨_, _, _, _, d_M_enters_68, rfl, by decide, uw_M, fl_M_122⟩
theorem d_M_enters_71 : decode me_M_enters.2.1 71 = .ok (.iload_n 2, 1) := by decide +kernel
theorem d_M_enters_72 : decode me_M_enters.2.1 72 = .ok (.iaload, 1) := by decide +kernel
theorem d_M_enters_73 : decode me_M_enters.2.1 73 = .ok (.iload_n 3, 1) := by decide +kernel
theorem d_M_enters_74 : decode me_M_enters.2.1 74 = .ok (.if_icmp .ne (13), 3) := by decide +kernel
theorem d_M_enters_77 : decode me_M_enters.2.1 77 = .ok (.iload_n 3, 1) := by decide +kernel
theorem d_M_enters_78 : decode me_M_enters.2.1 78 = .ok (.ifCond .eq (7), 3) := by decide +kernel
theorem d_M_enters_81 : decode me_M_enters.2.1 81 = .ok (.iconst 1, 1) := by decide +kernel
theorem d_M_enters_82 : decode me_M_enters.2.1 82 = .ok (.goto (4), 3) := by decide +kernel
theorem d_M_enters_85 : decode me_M_enters.2.1 85 = .ok (.iconst 0, 1) := by decide +kernel
theorem d_M_enters_86 : decode me_M_enters.2.1 86 = .ok (.ireturn, 1) := by decide +kernel
theorem d_M_enters_87 : decode me_M_enters.2.1 87 = .ok (.aload_n 0, 1) := by decide +kernel
theorem d_M_enters_88 : decode me_M_enters.2.1 88 = .ok (.getfield 119, 3) := by decide +kernel
theorem g_M_enters_88 : bm_gf me_M_enters 88 11 42 := ⟨_, _, _, _, d_M_enters_88, rfl, by decide, uw_M, fl_M_119⟩
theorem d_M_enters_91 : decode me_M_enters.2.1 91 = .ok (.iload_n 2, 1) := by decide +kernel
theorem d_M_enters_92 : decode me_M_enters.2.1 92 = .ok (.iaload, 1) := by decide +kernel
theorem d_M_enters_93 : decode me_M_enters.2.1 93 = .ok (.iconst (-1), 1) := by decide +kernel
theorem d_M_enters_94 : decode me_M_enters.2.1 94 = .ok (.if_icmp .ne (12), 3) := by decide +kernel
theorem d_M_enters_97 : decode me_M_enters.2.1 97 = .ok (.aload_n 0, 1) := by decide +kernel
theorem d_M_enters_98 : decode me_M_enters.2.1 98 = .ok (.getfield 119, 3) := by decide +kernel
theorem g_M_enters_98 : bm_gf me_M_enters 98 11 42 := ⟨_, _, _, _, d_M_enters_98, rfl, by decide, uw_M, fl_M_119⟩
theorem d_M_enters_101 : decode me_M_enters.2.1 101 = .ok (.iload_n 2, 1) := by decide +kernel
theorem d_M_enters_102 : decode me_M_enters.2.1 102 = .ok (.iload_n 3, 1) := by decide +kernel
theorem d_M_enters_103 : decode me_M_enters.2.1 103 = .ok (.iastore, 1) := by decide +kernel
theorem d_M_enters_104 : decode me_M_enters.2.1 104 = .ok (.iconst 1, 1) := by decide +kernel
theorem d_M_enters_105 : decode me_M_enters.2.1 105 = .ok (.ireturn, 1) := by decide +kernel
theorem d_M_enters_106 : decode me_M_enters.2.1 106 = .ok (.aload_n 0, 1) := by decide +kernel
theorem d_M_enters_107 : decode me_M_enters.2.1 107 = .ok (.getfield 122, 3) := by decide +kernel
theorem g_M_enters_107 : bm_gf me_M_enters 107 11 43 := ⟨_, _, _, _, d_M_enters_107, rfl, by decide, uw_M, fl_M_122⟩
theorem d_M_enters_110 : decode me_M_enters.2.1 110 = .ok (.iload_n 2, 1) := by decide +kernel
theorem d_M_enters_111 : decode me_M_enters.2.1 111 = .ok (.iaload, 1) := by decide +kernel
theorem d_M_enters_112 : decode me_M_enters.2.1 112 = .ok (.iconst (-1), 1) := by decide +kernel
theorem d_M_enters_113 : decode me_M_enters.2.1 113 = .ok (.if_icmp .ne (25), 3) := by decide +kernel
theorem d_M_enters_116 : decode me_M_enters.2.1 116 = .ok (.aload_n 0, 1) := by decide +kernel
theorem d_M_enters_117 : decode me_M_enters.2.1 117 = .ok (.getfield 119, 3) := by decide +kernel
theorem g_M_enters_117 : bm_gf me_M_enters 117 11 42 := ⟨_, _, _, _, d_M_enters_117, rfl, by decide, uw_M, fl_M_119⟩
theorem d_M_enters_120 : decode me_M_enters.2.1 120 = .ok (.iload_n 2, 1) := by decide +kernel
theorem d_M_enters_121 : decode me_M_enters.2.1 121 = .ok (.iaload, 1) := by decide +kernel
theorem d_M_enters_122 : decode me_M_enters.2.1 122 = .ok (.iconst 1, 1) := by decide +kernel
theorem d_M_enters_123 : decode me_M_enters.2.1 123 = .ok (.isub, 1) := by decide +kernel
theorem d_M_enters_124 : decode me_M_enters.2.1 124 = .ok (.iconst 2, 1) := by decide +kernel
theorem d_M_enters_125 : decode me_M_enters.2.1 125 = .ok (.idiv, 1) := by decide +kernel
theorem d_M_enters_126 : decode me_M_enters.2.1 126 = .ok (.iload_n 3, 1) := by decide +kernel
theorem d_M_enters_127 : decode me_M_enters.2.1 127 = .ok (.iconst 1, 1) := by decide +kernel
theorem d_M_enters_128 : decode me_M_enters.2.1 128 = .ok (.isub, 1) := by decide +kernel
theorem d_M_enters_129 : decode me_M_enters.2.1 129 = .ok (.iconst 2, 1) := by decide +kernel
theorem d_M_enters_130 : decode me_M_enters.2.1 130 = .ok (.idiv, 1) := by decide +kernel
theorem d_M_enters_131 : decode me_M_enters.2.1 131 = .ok (.if_icmp .ne (7), 3) := by decide +kernel
theorem d_M_enters_134 : decode me_M_enters.2.1 134 = .ok (.iconst 1, 1) := by decide +kernel
theorem d_M_enters_135 : decode me_M_enters.2.1 135 = .ok (.goto (4), 3) := by decide +kernel
theorem d_M_enters_138 : decode me_M_enters.2.1 138 = .ok (.iconst 0, 1) := by decide +kernel
theorem d_M_enters_139 : decode me_M_enters.2.1 139 = .ok (.istore 4, 2) := by decide +kernel
theorem d_M_enters_141 : decode me_M_enters.2.1 141 = .ok (.aload_n 0, 1) := by decide +kernel
theorem d_M_enters_142 : decode me_M_enters.2.1 142 = .ok (.getfield 122, 3) := by decide +kernel
theorem g_M_enters_142 : bm_gf me_M_enters 142 11 43 := ⟨_, _, _, _, d_M_enters_142, rfl, by decide, uw_M, fl_M_122⟩
theorem d_M_enters_145 : decode me_M_enters.2.1 145 = .ok (.iload_n 2, 1) := by decide +kernel
theorem d_M_enters_146 : decode me_M_enters.2.1 146 = .ok (.iload_n 3, 1) := by decide +kernel
theorem d_M_enters_147 : decode me_M_enters.2.1 147 = .ok (.iastore, 1) := by decide +kernel
theorem d_M_enters_148 : decode me_M_enters.2.1 148 = .ok (.aload_n 0, 1) := by decide +kernel
theorem d_M_enters_149 : decode me_M_enters.2.1 149 = .ok (.getfield 116, 3) := by decide +kernel
theorem g_M_enters_149 : bm_gf me_M_enters 149 11 41 := ⟨_, _, _, _, d_M_enters_149, rfl, by decide, uw_M, fl_M_116⟩
theorem d_M_enters_152 : decode me_M_enters.2.1 152 = .ok (.iload_n 2, 1) := by decide +kernel
theorem d_M_enters_153 : decode me_M_enters.2.1 153 = .ok (.aload_n 0, 1) := by decide +kernel
theorem d_M_enters_154 : decode me_M_enters.2.1 154 = .ok (.getfield 116, 3) := by decide +kernel
theorem g_M_enters_154 : bm_gf me_M_enters 154 11 41 := ⟨_, _, _, _, d_M_enters_154, rfl, by decide, uw_M, fl_M_116⟩
theorem d_M_enters_157 : decode me_M_enters.2.1 157 = .ok (.iload_n 3, 1) := by decide +kernel
theorem d_M_enters_158 : decode me_M_enters.2.1 158 = .ok (.iconst 1, 1) := by decide +kernel
theorem d_M_enters_159 : decode me_M_enters.2.1 159 = .ok (.isub, 1) := by decide +kernel
theorem d_M_enters_160 : decode me_M_enters.2.1 160 = .ok (.iconst 2, 1) := by decide +kernel
theorem d_M_enters_161 : decode me_M_enters.2.1 161 = .ok (.idiv, 1) := by decide +kernel
theorem d_M_enters_162 : decode me_M_enters.2.1 162 = .ok (.iaload, 1) := by decide +kernel
theorem d_M_enters_163 : decode me_M_enters.2.1 163 = .ok (.iastore, 1) := by decide +kernel
theorem d_M_enters_164 : decode me_M_enters.2.1 164 = .ok (.iload 4, 2) := by decide +kernel
theorem d_M_enters_166 : decode me_M_enters.2.1 166 = .ok (.ireturn, 1) := by decide +kernel
theorem d_M_measures_0 : decode me_M_measures.2.1 0 = .ok (.iconst 0, 1) := by decide +kernel
theorem d_M_measures_1 : decode me_M_measures.2.1 1 = .ok (.istore_n 2, 1) := by decide +kernel
theorem d_M_measures_2 : decode me_M_measures.2.1 2 = .ok (.iload_n 2, 1) := by decide +kernel
theorem d_M_measures_3 : decode me_M_measures.2.1 3 = .ok (.bipush (12), 2) := by decide +kernel
theorem d_M_measures_5 : decode me_M_measures.2.1 5 = .ok (.if_icmp .ge (56), 3) := by decide +kernel
theorem d_M_measures_8 : decode me_M_measures.2.1 8 = .ok (.aload_n 0, 1) := by decide +kernel
theorem d_M_measures_9 : decode me_M_measures.2.1 9 = .ok (.getfield 134, 3) := by decide +kernel
theorem g_M_measures_9 : bm_gf me_M_measures 9 11 47 := ⟨_, _, _, _, d_M_measures_9, rfl, by decide, uw_M, fl_M_134⟩
theorem d_M_measures_12 : decode me_M_measures.2.1 12 = .ok (.iload_n 2, 1) := by decide +kernel
theorem d_M_measures_13 : decode me_M_measures.2.1 13 = .ok (.iload_n 2, 1) := by decide +kernel
theorem d_M_measures_14 : decode me_M_measures.2.1 14 = .ok (.ifCond .ne (7), 3) := by decide +kernel
theorem d_M_measures_17 : decode me_M_measures.2.1 17 = .ok (.iconst 1, 1) := by decide +kernel
theorem d_M_measures_18 : decode me_M_measures.2.1 18 = .ok (.goto (4), 3) := by decide +kernel
theorem d_M_measures_21 : decode me_M_measures.2.1 21 = .ok (.iconst 0, 1) := by decide +kernel
theorem d_M_measures_22 : decode me_M_measures.2.1 22 = .ok (.bastore, 1) := by decide +kernel
theorem d_M_measures_23 : decode me_M_measures.2.1 23 = .ok (.aload_n 0, 1) := by decide +kernel
theorem d_M_measures_24 : decode me_M_measures.2.1 24 = .ok (.getfield 125, 3) := by decide +kernel
theorem g_M_measures_24 : bm_gf me_M_measures 24 11 44 := ⟨_, _, _, _, d_M_measures_24, rfl, by decide, uw_M, fl_M_125⟩
theorem d_M_measures_27 : decode me_M_measures.2.1 27 = .ok (.iload_n 2, 1) := by decide +kernel
theorem d_M_measures_28 : decode me_M_measures.2.1 28 = .ok (.iload_n 2, 1) := by decide +kernel
theorem d_M_measures_29 : decode me_M_measures.2.1 29 = .ok (.ifCond .ne (7), 3) := by decide +kernel
theorem d_M_measures_32 : decode me_M_measures.2.1 32 = .ok (.iconst 0, 1) := by decide +kernel
theorem d_M_measures_33 : decode me_M_measures.2.1 33 = .ok (.goto (5), 3) := by decide +kernel
theorem d_M_measures_36 : decode me_M_measures.2.1 36 = .ok (.bipush (15), 2) := by decide +kernel
theorem d_M_measures_38 : decode me_M_measures.2.1 38 = .ok (.iastore, 1) := by decide +kernel
theorem d_M_measures_39 : decode me_M_measures.2.1 39 = .ok (.aload_n 0, 1) := by decide +kernel
theorem d_M_measures_40 : decode me_M_measures.2.1 40 = .ok (.getfield 128, 3) := by decide +kernel
theorem g_M_measures_40 : bm_gf me_M_measures 40 11 45 := ⟨_, _, _, _, d_M_measures_40, rfl, by decide, uw_M, fl_M_128⟩
theorem d_M_measures_43 : decode me_M_measures.2.1 43 = .ok (.iload_n 2, 1) := by decide +kernel
theorem d_M_measures_44 : decode me_M_measures.2.1 44 = .ok (.bipush (15), 2) := by decide +kernel
theorem d_M_measures_46 : decode me_M_measures.2.1 46 = .ok (.iastore, 1) := by decide +kernel
theorem d_M_measures_47 : decode me_M_measures.2.1 47 = .ok (.aload_n 0, 1) := by decide +kernel
theorem d_M_measures_48 : decode me_M_measures.2.1 48 = .ok (.getfield 131, 3) := by decide +kernel
theorem g_M_measures_48 : bm_gf me_M_measures 48 11 46 := ⟨_, _, _, _, d_M_measures_48, rfl, by decide, uw_M, fl_M_131⟩
theorem d_M_measures_51 : decode me_M_measures.2.1 51 = .ok (.iload_n 2, 1) := by decide +kernel
theorem d_M_measures_52 : decode me_M_measures.2.1 52 = .ok (.bipush (15), 2) := by decide +kernel
theorem d_M_measures_54 : decode me_M_measures.2.1 54 = .ok (.iastore, 1) := by decide +kernel
theorem d_M_measures_55 : decode me_M_measures.2.1 55 = .ok (.iinc 2 (1), 3) := by decide +kernel
theorem d_M_measures_58 : decode me_M_measures.2.1 58 = .ok (.goto (-56), 3) := by decide +kernel
theorem d_M_measures_61 : decode me_M_measures.2.1 61 = .ok (.iconst 1, 1) := by decide +kernel
theorem d_M_measures_62 : decode me_M_measures.2.1 62 = .ok (.istore_n 2, 1) := by decide +kernel
theorem d_M_measures_63 : decode me_M_measures.2.1 63 = .ok (.iconst 0, 1) := by decide +kernel
theorem d_M_measures_64 : decode me_M_measures.2.1 64 = .ok (.istore_n 3, 1) := by decide +kernel
theorem d_M_measures_65 : decode me_M_measures.2.1 65 = .ok (.iload_n 3, 1) := by decide +kernel
theorem d_M_measures_66 : decode me_M_measures.2.1 66 = .ok (.aload_n 0, 1) := by decide +kernel
theorem d_M_measures_67 : decode me_M_measures.2.1 67 = .ok (.getfield 28, 3) := by decide +kernel
theorem g_M_measures_67 : bm_gf me_M_measures 67 11 7 := ⟨_, _, _, _, d_M_measures_67, rfl, by decide, uw_M, fl_M_28⟩
theorem d_M_measures_70 : decode me_M_measures.2.1 70 = .ok (.iload_n 1, 1) := by decide +kernel
theorem d_M_measures_71 : decode me_M_measures.2.1 71 = .ok (.iaload, 1) := by decide +kernel
theorem d_M_measures_72 : decode me_M_measures.2.1 72 = .ok (.if_icmp .ge (220), 3) := by decide +kernel
theorem d_M_measures_75 : decode me_M_measures.2.1 75 = .ok (.bipush (12), 2) := by decide +kernel
theorem d_M_measures_77 : decode me_M_measures.2.1 77 = .ok (.iload_n 1, 1) := by decide +kernel
theorem d_M_measures_78 : decode me_M_measures.2.1 78 = .ok (.imul, 1) := by decide +kernel
theorem d_M_measures_79 : decode me_M_measures.2.1 79 = .ok (.iload_n 3, 1) := by decide +kernel
theorem d_M_measures_80 : decode me_M_measures.2.1 80 = .ok (.iadd, 1) := by decide +kernel
theorem d_M_measures_81 : decode me_M_measures.2.1 81 = .ok (.istore 4, 2) := by decide +kernel
theorem d_M_measures_83 : decode me_M_measures.2.1 83 = .ok (.aload_n 0, 1) := by decide +kernel
theorem d_M_measures_84 : decode me_M_measures.2.1 84 = .ok (.getfield 35, 3) := by decide +kernel
theorem g_M_measures_84 : bm_gf me_M_measures 84 11 9 := ⟨_, _, _, _, d_M_measures_84, rfl, by decide, uw_M, fl_M_35⟩
theorem d_M_measures_87 : decode me_M_measures.2.1 87 = .ok (.iload 4, 2) := by decide +kernel
theorem d_M_measures_89 : decode me_M_measures.2.1 89 = .ok (.iaload, 1) := by decide +kernel
theorem d_M_measures_90 : decode me_M_measures.2.1 90 = .ok (.bipush (6), 2) := by decide +kernel
theorem d_M_measures_92 : decode me_M_measures.2.1 92 = .ok (.if_icmp .ne (22), 3) := by decide +kernel
theorem d_M_measures_95 : decode me_M_measures.2.1 95 = .ok (.aload_n 0, 1) := by decide +kernel
theorem d_M_measures_96 : decode me_M_measures.2.1 96 = .ok (.getfield 125, 3) := by decide +kernel
theorem g_M_measures_96 : bm_gf me_M_measures 96 11 44 := ⟨_, _, _, _, d_M_measures_96, rfl, by decide, uw_M, fl_M_125⟩
theorem d_M_measures_99 : decode me_M_measures.2.1 99 = .ok (.iload_n 3, 1) := by decide +kernel
theorem d_M_measures_100 : decode me_M_measures.2.1 100 = .ok (.aload_n 0, 1) := by decide +kernel
theorem d_M_measures_101 : decode me_M_measures.2.1 101 = .ok (.getfield 128, 3) := by decide +kernel
theorem g_M_measures_101 : bm_gf me_M_measures 101 11 45 := ⟨_, _, _, _, d_M_measures_101, rfl, by decide, uw_M, fl_M_128⟩
theorem d_M_measures_104 : decode me_M_measures.2.1 104 = .ok (.iload_n 3, 1) := by decide +kernel
theorem d_M_measures_105 : decode me_M_measures.2.1 105 = .ok (.iaload, 1) := by decide +kernel
theorem d_M_measures_106 : decode me_M_measures.2.1 106 = .ok (.aload_n 0, 1) := by decide +kernel
theorem d_M_measures_107 : decode me_M_measures.2.1 107 = .ok (.getfield 131, 3) := by decide +kernel
theorem g_M_measures_107 : bm_gf me_M_measures 107 11 46 := ⟨_, _, _, _, d_M_measures_107, rfl, by decide, uw_M, fl_M_131⟩
theorem d_M_measures_110 : decode me_M_measures.2.1 110 = .ok (.iload_n 3, 1) := by decide +kernel
theorem d_M_measures_111 : decode me_M_measures.2.1 111 = .ok (.iaload, 1) := by decide +kernel
theorem d_M_measures_112 : decode me_M_measures.2.1 112 = .ok (.ior, 1) := by decide +kernel
theorem d_M_measures_113 : decode me_M_measures.2.1 113 = .ok (.iastore, 1) := by decide +kernel
theorem d_M_measures_114 : decode me_M_measures.2.1 114 = .ok (.iload_n 2, 1) := by decide +kernel
theorem d_M_measures_115 : decode me_M_measures.2.1 115 = .ok (.ifCond .eq (48), 3) := by decide +kernel
theorem d_M_measures_118 : decode me_M_measures.2.1 118 = .ok (.aload_n 0, 1) := by decide +kernel
theorem d_M_measures_119 : decode me_M_measures.2.1 119 = .ok (.getfield 35, 3) := by decide +kernel
theorem g_M_measures_119 : bm_gf me_M_measures 119 11 9 := ⟨_, _, _, _, d_M_measures_119, rfl, by decide, uw_M, fl_M_35⟩
theorem d_M_measures_122 : decode me_M_measures.2.1 122 = .ok (.iload 4, 2) := by decide +kernel
theorem d_M_measures_124 : decode me_M_measures.2.1 124 = .ok (.iaload, 1) := by decide +kernel
theorem d_M_measures_125 : decode me_M_measures.2.1 125 = .ok (.bipush (7), 2) := by decide +kernel
theorem d_M_measures_127 : decode me_M_measures.2.1 127 = .ok (.if_icmp .ne (32), 3) := by decide +kernel
theorem d_M_measures_130 : decode me_M_measures.2.1 130 = .ok (.aload_n 0, 1) := by decide +kernel
theorem d_M_measures_131 : decode me_M_measures.2.1 131 = .ok (.getfield 134, 3) := by decide +kernel
theorem g_M_measures_131 : bm_gf me_M_measures 131 11 47 := ⟨_, _, _, _, d_M_measures_131, rfl, by decide, uw_M, fl_M_134⟩
theorem d_M_measures_134 : decode me_M_measures.2.1 134 = .ok (.iload_n 3, 1) := by decide +kernel
theorem d_M_measures_135 : decode me_M_measures.2.1 135 = .ok (.baload, 1) := by decide +kernel
theorem d_M_measures_136 : decode me_M_measures.2.1 136 = .ok (.ifCond .eq (23), 3) := by decide +kernel
theorem d_M_measures_139 : decode me_M_measures.2.1 139 = .ok (.aload_n 0, 1) := by decide +kernel
theorem d_M_measures_140 : decode me_M_measures.2.1 140 = .ok (.getfield 125, 3) := by decide +kernel
theorem g_M_measures_140 : bm_gf me_M_measures 140 11 44 := ⟨_, _, _, _, d_M_measures_140, rfl, by decide, uw_M, fl_M_125⟩
theorem d_M_measures_143 : decode me_M_measures.2.1 143 = .ok (.iload_n 3, 1) := by decide +kernel
theorem d_M_measures_144 : decode me_M_measures.2.1 144 = .ok (.iaload, 1) := by decide +kernel
theorem d_M_measures_145 : decode me_M_measures.2.1 145 = .ok (.aload_n 0, 1) := by decide +kernel
theorem d_M_measures_146 : decode me_M_measures.2.1 146 = .ok (.getfield 38, 3) := by decide +kernel
theorem g_M_measures_146 : bm_gf me_M_measures 146 11 10 := ⟨_, _, _, _, d_M_measures_146, rfl, by decide, uw_M, fl_M_38⟩
theorem d_M_measures_149 : decode me_M_measures.2.1 149 = .ok (.iload 4, 2) := by decide +kernel
theorem d_M_measures_151 : decode me_M_measures.2.1 151 = .ok (.iaload, 1) := by decide +kernel
theorem d_M_measures_152 : decode me_M_measures.2.1 152 = .ok (.ishr, 1) := by decide +kernel
theorem d_M_measures_153 : decode me_M_measures.2.1 153 = .ok (.iconst 1, 1) := by decide +kernel
theorem d_M_measures_154 : decode me_M_measures.2.1 154 = .ok (.iand, 1) := by decide +kernel
theorem d_M_measures_155 : decode me_M_measures.2.1 155 = .ok (.iconst 1, 1) := by decide +kernel
theorem d_M_measures_156 : decode me_M_measures.2.1 156 = .ok (.if_icmp .ne (7), 3) := by decide +kernel
theorem d_M_measures_159 : decode me_M_measures.2.1 159 = .ok (.iconst 1, 1) := by decide +kernel
theorem d_M_measures_160 : decode me_M_measures.2.1 160 = .ok (.goto (4), 3) := by decide +kernel
theorem d_M_measures_163 : decode me_M_measures.2.1 163 = .ok (.iconst 0, 1) := by decide +kernel
theorem d_M_measures_164 : decode me_M_measures.2.1 164 = .ok (.istore_n 2, 1) := by decide +kernel
theorem d_M_measures_165 : decode me_M_measures.2.1 165 = .ok (.aload_n 0, 1) := by decide +kernel
theorem d_M_measures_166 : decode me_M_measures.2.1 166 = .ok (.getfield 35, 3) := by decide +kernel
theorem g_M_measures_166 : bm_gf me_M_measures 166 11 9 := ⟨_, _, _, _, d_M_measures_166, rfl, by decide, uw_M, fl_M_35⟩
theorem d_M_measures_169 : decode me_M_measures.2.1 169 = .ok (.iload 4, 2) := by decide +kernel
theorem d_M_measures_171 : decode me_M_measures.2.1 171 = .ok (.iaload, 1) := by decide +kernel
theorem d_M_measures_172 : decode me_M_measures.2.1 172 = .ok (.iconst 4, 1) := by decide +kernel
theorem d_M_measures_173 : decode me_M_measures.2.1 173 = .ok (.if_icmp .ne (22), 3) := by decide +kernel
theorem d_M_measures_176 : decode me_M_measures.2.1 176 = .ok (.aload_n 0, 1) := by decide +kernel
theorem d_M_measures_177 : decode me_M_measures.2.1 177 = .ok (.getfield 125, 3) := by decide +kernel
theorem g_M_measures_177 : bm_gf me_M_measures 177 11 44 := ⟨_, _, _, _, d_M_measures_177, rfl, by decide, uw_M, fl_M_125⟩
theorem d_M_measures_180 : decode me_M_measures.2.1 180 = .ok (.iload_n 3, 1) := by decide +kernel
theorem d_M_measures_181 : decode me_M_measures.2.1 181 = .ok (.iaload, 1) := by decide +kernel
theorem d_M_measures_182 : decode me_M_measures.2.1 182 = .ok (.iconst 1, 1) := by decide +kernel
theorem d_M_measures_183 : decode me_M_measures.2.1 183 = .ok (.aload_n 0, 1) := by decide +kernel
theorem d_M_measures_184 : decode me_M_measures.2.1 184 = .ok (.getfield 41, 3) := by decide +kernel
theorem g_M_measures_184 : bm_gf me_M_measures 184 11 11 := ⟨_, _, _, _, d_M_measures_184, rfl, by decide, uw_M, fl_M_41⟩
theorem d_M_measures_187 : decode me_M_measures.2.1 187 = .ok (.iload 4, 2) := by decide +kernel
theorem d_M_measures_189 : decode me_M_measures.2.1 189 = .ok (.iaload, 1) := by decide +kernel
theorem d_M_measures_190 : decode me_M_measures.2.1 190 = .ok (.ishl, 1) := by decide +kernel
theorem d_M_measures_191 : decode me_M_measures.2.1 191 = .ok (.ior, 1) := by decide +kernel
theorem d_M_measures_192 : decode me_M_measures.2.1 192 = .ok (.goto (9), 3) := by decide +kernel
theorem d_M_measures_195 : decode me_M_measures.2.1 195 = .ok (.aload_n 0, 1) := by decide +kernel
theorem d_M_measures_196 : decode me_M_measures.2.1 196 = .ok (.getfield 125, 3) := by decide +kernel
theorem g_M_measures_196 : bm_gf me_M_measures 196 11 44 := ⟨_, _, _, _, d_M_measures_196, rfl, by decide, uw_M, fl_M_125⟩
theorem d_M_measures_199 : decode me_M_measures.2.1 199 = .ok (.iload_n 3, 1) := by decide +kernel
theorem d_M_measures_200 : decode me_M_measures.2.1 200 = .ok (.iaload, 1) := by decide +kernel
theorem d_M_measures_201 : decode me_M_measures.2.1 201 = .ok (.istore 5, 2) := by decide +kernel
theorem d_M_measures_203 : decode me_M_measures.2.1 203 = .ok (.aload_n 0, 1) := by decide +kernel
theorem d_M_measures_204 : decode me_M_measures.2.1 204 = .ok (.getfield 134, 3) := by decide +kernel
theorem g_M_measures_204 : bm_gf me_M_measures 204 11 47 := ⟨_, _, _, _, d_M_measures_204, rfl, by decide, uw_M, fl_M_134⟩
theorem d_M_measures_207 : decode me_M_measures.2.1 207 = .ok (.iload_n 3, 1) := by decide +kernel
theorem d_M_measures_208 : decode me_M_measures.2.1 208 = .ok (.baload, 1) := by decide +kernel
theorem d_M_measures_209 : decode me_M_measures.2.1 209 = .ok (.ifCond .eq (30), 3) := by decide +kernel
theorem d_M_measures_212 : decode me_M_measures.2.1 212 = .ok (.aload_n 0, 1) := by decide +kernel
theorem d_M_measures_213 : decode me_M_measures.2.1 213 = .ok (.getfield 35, 3) := by decide +kernel
theorem g_M_measures_213 : bm_gf me_M_measures 213 11 9 := ⟨_, _, _, _, d_M_measures_213, rfl, by decide, uw_M, fl_M_35⟩
theorem d_M_measures_216 : decode me_M_measures.2.1 216 = .ok (.iload 4, 2) := by decide +kernel
theorem d_M_measures_218 : decode me_M_measures.2.1 218 = .ok (.iaload, 1) := by decide +kernel
theorem d_M_measures_219 : decode me_M_measures.2.1 219 = .ok (.bipush (9), 2) := by decide +kernel
theorem d_M_measures_221 : decode me_M_measures.2.1 221 = .ok (.if_icmp .eq (18), 3) := by decide +kernel
theorem d_M_measures_224 : decode me_M_measures.2.1 224 = .ok (.aload_n 0, 1) := by decide +kernel
theorem d_M_measures_225 : decode me_M_measures.2.1 225 = .ok (.iload_n 1, 1) := by decide +kernel
theorem d_M_measures_226 : decode me_M_measures.2.1 226 = .ok (.iload_n 3, 1) := by decide +kernel
theorem d_M_measures_227 : decode me_M_measures.2.1 227 = .ok (.aload_n 0, 1) := by decide +kernel
theorem d_M_measures_228 : decode me_M_measures.2.1 228 = .ok (.getfield 47, 3) := by decide +kernel
theorem g_M_measures_228 : bm_gf me_M_measures 228 11 13 := ⟨_, _, _, _, d_M_measures_228, rfl, by decide, uw_M, fl_M_47⟩
theorem d_M_measures_231 : decode me_M_measures.2.1 231 = .ok (.iload 4, 2) := by decide +kernel
theorem d_M_measures_233 : decode me_M_measures.2.1 233 = .ok (.iaload, 1) := by decide +kernel
theorem d_M_measures_234 : decode me_M_measures.2.1 234 = .ok (.iload 5, 2) := by decide +kernel
theorem d_M_measures_236 : decode me_M_measures.2.1 236 = .ok (.invokevirtual 165, 3) := by decide +kernel
theorem c_M_measures_236 : bm_iv me_M_measures me_M_brings 236 11 4 := ⟨_, d_M_measures_236, Or.inl ml_M_165, ⟨kc_M_brings, in_BatchHallModel, by decide +kernel, by decide, by decide⟩, ki_M_brings, ks_M_brings, _, _, rfl⟩
theorem d_M_measures_239 : decode me_M_measures.2.1 239 = .ok (.aload_n 0, 1) := by decide +kernel
theorem d_M_measures_240 : decode me_M_measures.2.1 240 = .ok (.getfield 134, 3) := by decide +kernel
theorem g_M_measures_240 : bm_gf me_M_measures 240 11 47 := ⟨_, _, _, _, d_M_measures_240, rfl, by decide, uw_M, fl_M_134⟩
theorem d_M_measures_243 : decode me_M_measures.2.1 243 = .ok (.iload_n 3, 1) := by decide +kernel
theorem d_M_measures_244 : decode me_M_measures.2.1 244 = .ok (.baload, 1) := by decide +kernel
theorem d_M_measures_245 : decode me_M_measures.2.1 245 = .ok (.ifCond .eq (41), 3) := by decide +kernel
theorem d_M_measures_248 : decode me_M_measures.2.1 248 = .ok (.aload_n 0, 1) := by decide +kernel
theorem d_M_measures_249 : decode me_M_measures.2.1 249 = .ok (.getfield 35, 3) := by decide +kernel
theorem g_M_measures_249 : bm_gf me_M_measures 249 11 9 := ⟨_, _, _, _, d_M_measures_249, rfl, by decide, uw_M, fl_M_35⟩
theorem d_M_measures_252 : decode me_M_measures.2.1 252 = .ok (.iload 4, 2) := by decide +kernel
theorem d_M_measures_254 : decode me_M_measures.2.1 254 = .ok (.iaload, 1) := by decide +kernel
theorem d_M_measures_255 : decode me_M_measures.2.1 255 = .ok (.iconst 5, 1) := by decide +kernel
theorem d_M_measures_256 : decode me_M_measures.2.1 256 = .ok (.if_icmp .eq (15), 3) := by decide +kernel
theorem d_M_measures_259 : decode me_M_measures.2.1 259 = .ok (.aload_n 0, 1) := by decide +kernel
theorem d_M_measures_260 : decode me_M_measures.2.1 260 = .ok (.getfield 35, 3) := by decide +kernel
theorem g_M_measures_260 : bm_gf me_M_measures 260 11 9 := ⟨_, _, _, _, d_M_measures_260, rfl, by decide, uw_M, fl_M_35⟩
theorem d_M_measures_263 : decode me_M_measures.2.1 263 = .ok (.iload 4, 2) := by decide +kernel
theorem d_M_measures_265 : decode me_M_measures.2.1 265 = .ok (.iaload, 1) := by decide +kernel
theorem d_M_measures_266 : decode me_M_measures.2.1 266 = .ok (.bipush (7), 2) := by decide +kernel
theorem d_M_measures_268 : decode me_M_measures.2.1 268 = .ok (.if_icmp .ne (18), 3) := by decide +kernel
theorem d_M_measures_271 : decode me_M_measures.2.1 271 = .ok (.aload_n 0, 1) := by decide +kernel
theorem d_M_measures_272 : decode me_M_measures.2.1 272 = .ok (.iload_n 1, 1) := by decide +kernel
theorem d_M_measures_273 : decode me_M_measures.2.1 273 = .ok (.iload_n 3, 1) := by decide +kernel
theorem d_M_measures_274 : decode me_M_measures.2.1 274 = .ok (.aload_n 0, 1) := by decide +kernel
theorem d_M_measures_275 : decode me_M_measures.2.1 275 = .ok (.getfield 50, 3) := by decide +kernel
theorem g_M_measures_275 : bm_gf me_M_measures 275 11 14 := ⟨_, _, _, _, d_M_measures_275, rfl, by decide, uw_M, fl_M_50⟩
theorem d_M_measures_278 : decode me_M_measures.2.1 278 = .ok (.iload 4, 2) := by decide +kernel
theorem d_M_measures_280 : decode me_M_measures.2.1 280 = .ok (.iaload, 1) := by decide +kernel
theorem d_M_measures_281 : decode me_M_measures.2.1 281 = .ok (.iload 5, 2) := by decide +kernel
theorem d_M_measures_283 : decode me_M_measures.2.1 283 = .ok (.invokevirtual 165, 3) := by decide +kernel
theorem c_M_measures_283 : bm_iv me_M_measures me_M_brings 283 11 4 := ⟨_, d_M_measures_283, Or.inl ml_M_165, ⟨kc_M_brings, in_BatchHallModel, by decide +kernel, by decide, by decide⟩, ki_M_brings, ks_M_brings, _, _, rfl⟩
theorem d_M_measures_286 : decode me_M_measures.2.1 286 = .ok (.iinc 3 (1), 3) := by decide +kernel
theorem d_M_measures_289 : decode me_M_measures.2.1 289 = .ok (.goto (-224), 3) := by decide +kernel
theorem d_M_measures_292 : decode me_M_measures.2.1 292 = .ok (.iload_n 2, 1) := by decide +kernel
theorem d_M_measures_293 : decode me_M_measures.2.1 293 = .ok (.ireturn, 1) := by decide +kernel
theorem d_M_brings_0 : decode me_M_brings.2.1 0 = .ok (.aload_n 0, 1) := by decide +kernel
theorem d_M_brings_1 : decode me_M_brings.2.1 1 = .ok (.getfield 134, 3) := by decide +kernel
theorem g_M_brings_1 : bm_gf me_M_brings 1 11 47 := ⟨_, _, _, _, d_M_brings_1, rfl, by decide, uw_M, fl_M_134⟩
theorem d_M_brings_4 : decode me_M_brings.2.1 4 = .ok (.iload_n 3, 1) := by decide +kernel
theorem d_M_brings_5 : decode me_M_brings.2.1 5 = .ok (.iconst 1, 1) := by decide +kernel
theorem d_M_brings_6 : decode me_M_brings.2.1 6 = .ok (.bastore, 1) := by decide +kernel
theorem d_M_brings_7 : decode me_M_brings.2.1 7 = .ok (.aload_n 0, 1) := by decide +kernel
theorem d_M_brings_8 : decode me_M_brings.2.1 8 = .ok (.getfield 35, 3) := by decide +kernel
theorem g_M_brings_8 : bm_gf me_M_brings 8 11 9 := ⟨_, _, _, _, d_M_brings_8, rfl, by decide, uw_M, fl_M_35⟩
theorem d_M_brings_11 : decode me_M_brings.2.1 11 = .ok (.bipush (12), 2) := by decide +kernel
theorem d_M_brings_13 : decode me_M_brings.2.1 13 = .ok (.iload_n 1, 1) := by decide +kernel
theorem d_M_brings_14 : decode me_M_brings.2.1 14 = .ok (.imul, 1) := by decide +kernel
theorem d_M_brings_15 : decode me_M_brings.2.1 15 = .ok (.iload_n 3, 1) := by decide +kernel
theorem d_M_brings_16 : decode me_M_brings.2.1 16 = .ok (.iadd, 1) := by decide +kernel
theorem d_M_brings_17 : decode me_M_brings.2.1 17 = .ok (.iaload, 1) := by decide +kernel
theorem d_M_brings_18 : decode me_M_brings.2.1 18 = .ok (.bipush (6), 2) := by decide +kernel
theorem d_M_brings_20 : decode me_M_brings.2.1 20 = .ok (.if_icmp .eq (17), 3) := by decide +kernel
theorem d_M_brings_23 : decode me_M_brings.2.1 23 = .ok (.aload_n 0, 1) := by decide +kernel
theorem d_M_brings_24 : decode me_M_brings.2.1 24 = .ok (.getfield 125, 3) := by decide +kernel
theorem g_M_brings_24 : bm_gf me_M_brings 24 11 44 := ⟨_, _, _, _, d_M_brings_24, rfl, by decide, uw_M, fl_M_125⟩
theorem d_M_brings_27 : decode me_M_brings.2.1 27 = .ok (.iload_n 3, 1) := by decide +kernel
theorem d_M_brings_28 : decode me_M_brings.2.1 28 = .ok (.dup2, 1) := by decide +kernel
theorem d_M_brings_29 : decode me_M_brings.2.1 29 = .ok (.iaload, 1) := by decide +kernel
theorem d_M_brings_30 : decode me_M_brings.2.1 30 = .ok (.iload 4, 2) := by decide +kernel
theorem d_M_brings_32 : decode me_M_brings.2.1 32 = .ok (.iand, 1) := by decide +kernel
theorem d_M_brings_33 : decode me_M_brings.2.1 33 = .ok (.iastore, 1) := by decide +kernel
theorem d_M_brings_34 : decode me_M_brings.2.1 34 = .ok (.goto (43), 3) := by decide +kernel
theorem d_M_brings_37 : decode me_M_brings.2.1 37 = .ok (.aload_n 0, 1) := by decide +kernel
theorem d_M_brings_38 : decode me_M_brings.2.1 38 = .ok (.getfield 116, 3) := by decide +kernel
theorem g_M_brings_38 : bm_gf me_M_brings 38 11 41 := ⟨_, _, _, _, d_M_brings_38, rfl, by decide, uw_M, fl_M_116⟩
theorem d_M_brings_41 : decode me_M_brings.2.1 41 = .ok (.iload_n 2, 1) := by decide +kernel
theorem d_M_brings_42 : decode me_M_brings.2.1 42 = .ok (.iaload, 1) := by decide +kernel
theorem d_M_brings_43 : decode me_M_brings.2.1 43 = .ok (.aload_n 0, 1) := by decide +kernel
theorem d_M_brings_44 : decode me_M_brings.2.1 44 = .ok (.getfield 119, 3) := by decide +kernel
theorem g_M_brings_44 : bm_gf me_M_brings 44 11 42 := ⟨_, _, _, _, d_M_brings_44, rfl, by decide, uw_M, fl_M_119⟩
theorem d_M_brings_47 : decode me_M_brings.2.1 47 = .ok (.iload_n 3, 1) := by decide +kernel
theorem d_M_brings_48 : decode me_M_brings.2.1 48 = .ok (.iaload, 1) := by decide +kernel
theorem d_M_brings_49 : decode me_M_brings.2.1 49 = .ok (.if_icmp .ne (17), 3) := by decide +kernel
theorem d_M_brings_52 : decode me_M_brings.2.1 52 = .ok (.aload_n 0, 1) := by decide +kernel
theorem d_M_brings_53 : decode me_M_brings.2.1 53 = .ok (.getfield 128, 3) := by decide +kernel
theorem g_M_brings_53 : bm_gf me_M_brings 53 11 45 := ⟨_, _, _, _, d_M_brings_53, rfl, by decide, uw_M, fl_M_128⟩
theorem d_M_brings_56 : decode me_M_brings.2.1 56 = .ok (.iload_n 3, 1) := by decide +kernel
theorem d_M_brings_57 : decode me_M_brings.2.1 57 = .ok (.dup2, 1) := by decide +kernel
theorem d_M_brings_58 : decode me_M_brings.2.1 58 = .ok (.iaload, 1) := by decide +kernel
theorem d_M_brings_59 : decode me_M_brings.2.1 59 = .ok (.iload 4, 2) := by decide +kernel
theorem d_M_brings_61 : decode me_M_brings.2.1 61 = .ok (.iand, 1) := by decide +kernel
theorem d_M_brings_62 : decode me_M_brings.2.1 62 = .ok (.iastore, 1) := by decide +kernel
theorem d_M_brings_63 : decode me_M_brings.2.1 63 = .ok (.goto (14), 3) := by decide +kernel
theorem d_M_brings_66 : decode me_M_brings.2.1 66 = .ok (.aload_n 0, 1) := by decide +kernel
theorem d_M_brings_67 : decode me_M_brings.2.1 67 = .ok (.getfield 131, 3) := by decide +kernel
theorem g_M_brings_67 : bm_gf me_M_brings 67 11 46 := ⟨_, _, _, _, d_M_brings_67, rfl, by decide, uw_M, fl_M_131⟩
theorem d_M_brings_70 : decode me_M_brings.2.1 70 = .ok (.iload_n 3, 1) := by decide +kernel
theorem d_M_brings_71 : decode me_M_brings.2.1 71 = .ok (.dup2, 1) := by decide +kernel
theorem d_M_brings_72 : decode me_M_brings.2.1 72 = .ok (.iaload, 1) := by decide +kernel
theorem d_M_brings_73 : decode me_M_brings.2.1 73 = .ok (.iload 4, 2) := by decide +kernel
theorem d_M_brings_75 : decode me_M_brings.2.1 75 = .ok (.iand, 1) := by decide +kernel
theorem d_M_brings_76 : decode me_M_brings.2.1 76 = .ok (.iastore, 1) := by decide +kernel
theorem d_M_brings_77 : decode me_M_brings.2.1 77 = .ok (.return_, 1) := by decide +kernel
theorem d_M_hasUnits_0 : decode me_M_hasUnits.2.1 0 = .ok (.iconst 1, 1) := by decide +kernel
theorem d_M_hasUnits_1 : decode me_M_hasUnits.2.1 1 = .ok (.istore_n 2, 1) := by decide +kernel
theorem d_M_hasUnits_2 : decode me_M_hasUnits.2.1 2 = .ok (.iconst 0, 1) := by decide +kernel
theorem d_M_hasUnits_3 : decode me_M_hasUnits.2.1 3 = .ok (.istore_n 3, 1) := by decide +kernel
theorem d_M_hasUnits_4 : decode me_M_hasUnits.2.1 4 = .ok (.iload_n 3, 1) := by decide +kernel
theorem d_M_hasUnits_5 : decode me_M_hasUnits.2.1 5 = .ok (.iconst 3, 1) := by decide +kernel
theorem d_M_hasUnits_6 : decode me_M_hasUnits.2.1 6 = .ok (.if_icmp .ge (106), 3) := by decide +kernel
theorem d_M_hasUnits_9 : decode me_M_hasUnits.2.1 9 = .ok (.iconst 0, 1) := by decide +kernel
theorem d_M_hasUnits_10 : decode me_M_hasUnits.2.1 10 = .ok (.istore 4, 2) := by decide +kernel
theorem d_M_hasUnits_12 : decode me_M_hasUnits.2.1 12 = .ok (.iconst 0, 1) := by decide +kernel
theorem d_M_hasUnits_13 : decode me_M_hasUnits.2.1 13 = .ok (.istore 5, 2) := by decide +kernel
theorem d_M_hasUnits_15 : decode me_M_hasUnits.2.1 15 = .ok (.iload 5, 2) := by decide +kernel
theorem d_M_hasUnits_17 : decode me_M_hasUnits.2.1 17 = .ok (.bipush (6), 2) := by decide +kernel
theorem d_M_hasUnits_19 : decode me_M_hasUnits.2.1 19 = .ok (.if_icmp .ge (31), 3) := by decide +kernel
theorem d_M_hasUnits_22 : decode me_M_hasUnits.2.1 22 = .ok (.aload_n 0, 1) := by decide +kernel
theorem d_M_hasUnits_23 : decode me_M_hasUnits.2.1 23 = .ok (.getfield 7, 3) := by decide +kernel
theorem g_M_hasUnits_23 : bm_gf me_M_hasUnits 23 11 1 := ⟨_, _, _, _, d_M_hasUnits_23, rfl, by decide, uw_M, fl_M_7⟩
theorem d_M_hasUnits_26 : decode me_M_hasUnits.2.1 26 = .ok (.iload 5, 2) := by decide +kernel
theorem d_M_hasUnits_28 : decode me_M_hasUnits.2.1 28 = .ok (.iaload, 1) := by decide +kernel
theorem d_M_hasUnits_29 : decode me_M_hasUnits.2.1 29 = .ok (.iload_n 3, 1) := by decide +kernel
theorem d_M_hasUnits_30 : decode me_M_hasUnits.2.1 30 = .ok (.if_icmp .ne (10), 3) := by decide +kernel
theorem d_M_hasUnits_33 : decode me_M_hasUnits.2.1 33 = .ok (.iload 4, 2) := by decide +kernel
theorem d_M_hasUnits_35 : decode me_M_hasUnits.2.1 35 = .ok (.iconst 1, 1) := by decide +kernel
theorem d_M_hasUnits_36 : decode me_M_hasUnits.2.1 36 = .ok (.iadd, 1) := by decide +kernel
theorem d_M_hasUnits_37 : decode me_M_hasUnits.2.1 37 = .ok (.goto (5), 3) := by decide +kernel
theorem d_M_hasUnits_40 : decode me_M_hasUnits.2.1 40 = .ok (.iload 4, 2) := by decide +kernel
theorem d_M_hasUnits_42 : decode me_M_hasUnits.2.1 42 = .ok (.istore 4, 2) := by decide +kernel
theorem d_M_hasUnits_44 : decode me_M_hasUnits.2.1 44 = .ok (.iinc 5 (1), 3) := by decide +kernel
theorem d_M_hasUnits_47 : decode me_M_hasUnits.2.1 47 = .ok (.goto (-32), 3) := by decide +kernel
theorem d_M_hasUnits_50 : decode me_M_hasUnits.2.1 50 = .ok (.iconst 0, 1) := by decide +kernel
theorem d_M_hasUnits_51 : decode me_M_hasUnits.2.1 51 = .ok (.istore 5, 2) := by decide +kernel
theorem d_M_hasUnits_53 : decode me_M_hasUnits.2.1 53 = .ok (.iload 5, 2) := by decide +kernel
theorem d_M_hasUnits_55 : decode me_M_hasUnits.2.1 55 = .ok (.iconst 3, 1) := by decide +kernel
theorem d_M_hasUnits_56 : decode me_M_hasUnits.2.1 56 = .ok (.if_icmp .ge (35), 3) := by decide +kernel
theorem d_M_hasUnits_59 : decode me_M_hasUnits.2.1 59 = .ok (.aload_n 0, 1) := by decide +kernel
theorem d_M_hasUnits_60 : decode me_M_hasUnits.2.1 60 = .ok (.getfield 25, 3) := by decide +kernel
theorem g_M_hasUnits_60 : bm_gf me_M_hasUnits 60 11 6 := ⟨_, _, _, _, d_M_hasUnits_60, rfl, by decide, uw_M, fl_M_25⟩
theorem d_M_hasUnits_63 : decode me_M_hasUnits.2.1 63 = .ok (.iconst 3, 1) := by decide +kernel
theorem d_M_hasUnits_64 : decode me_M_hasUnits.2.1 64 = .ok (.iload_n 1, 1) := by decide +kernel
theorem d_M_hasUnits_65 : decode me_M_hasUnits.2.1 65 = .ok (.imul, 1) := by decide +kernel
theorem d_M_hasUnits_66 : decode me_M_hasUnits.2.1 66 = .ok (.iload 5, 2) := by decide +kernel
theorem d_M_hasUnits_68 : decode me_M_hasUnits.2.1 68 = .ok (.iadd, 1) := by decide +kernel
theorem d_M_hasUnits_69 : decode me_M_hasUnits.2.1 69 = .ok (.iaload, 1) := by decide +kernel
theorem d_M_hasUnits_70 : decode me_M_hasUnits.2.1 70 = .ok (.iload_n 3, 1) := by decide +kernel
theorem d_M_hasUnits_71 : decode me_M_hasUnits.2.1 71 = .ok (.if_icmp .ne (10), 3) := by decide +kernel
theorem d_M_hasUnits_74 : decode me_M_hasUnits.2.1 74 = .ok (.iload 4, 2) := by decide +kernel
theorem d_M_hasUnits_76 : decode me_M_hasUnits.2.1 76 = .ok (.iconst 1, 1) := by decide +kernel
theorem d_M_hasUnits_77 : decode me_M_hasUnits.2.1 77 = .ok (.isub, 1) := by decide +kernel
theorem d_M_hasUnits_78 : decode me_M_hasUnits.2.1 78 = .ok (.goto (5), 3) := by decide +kernel
theorem d_M_hasUnits_81 : decode me_M_hasUnits.2.1 81 = .ok (.iload 4, 2) := by decide +kernel
theorem d_M_hasUnits_83 : decode me_M_hasUnits.2.1 83 = .ok (.istore 4, 2) := by decide +kernel
theorem d_M_hasUnits_85 : decode me_M_hasUnits.2.1 85 = .ok (.iinc 5 (1), 3) := by decide +kernel
theorem d_M_hasUnits_88 : decode me_M_hasUnits.2.1 88 = .ok (.goto (-35), 3) := by decide +kernel
theorem d_M_hasUnits_91 : decode me_M_hasUnits.2.1 91 = .ok (.iload_n 2, 1) := by decide +kernel
theorem d_M_hasUnits_92 : decode me_M_hasUnits.2.1 92 = .ok (.ifCond .eq (12), 3) := by decide +kernel
theorem d_M_hasUnits_95 : decode me_M_hasUnits.2.1 95 = .ok (.iload 4, 2) := by decide +kernel
theorem d_M_hasUnits_97 : decode me_M_hasUnits.2.1 97 = .ok (.ifCond .lt (7), 3) := by decide +kernel
theorem d_M_hasUnits_100 : decode me_M_hasUnits.2.1 100 = .ok (.iconst 1, 1) := by decide +kernel
theorem d_M_hasUnits_101 : decode me_M_hasUnits.2.1 101 = .ok (.goto (4), 3) := by decide +kernel
theorem d_M_hasUnits_104 : decode me_M_hasUnits.2.1 104 = .ok (.iconst 0, 1) := by decide +kernel
theorem d_M_hasUnits_105 : decode me_M_hasUnits.2.1 105 = .ok (.istore_n 2, 1) := by decide +kernel
theorem d_M_hasUnits_106 : decode me_M_hasUnits.2.1 106 = .ok (.iinc 3 (1), 3) := by decide +kernel
theorem d_M_hasUnits_109 : decode me_M_hasUnits.2.1 109 = .ok (.goto (-105), 3) := by decide +kernel
theorem d_M_hasUnits_112 : decode me_M_hasUnits.2.1 112 = .ok (.iload_n 2, 1) := by decide +kernel
theorem d_M_hasUnits_113 : decode me_M_hasUnits.2.1 113 = .ok (.ireturn, 1) := by decide +kernel
theorem d_M_tick_0 : decode me_M_tick.2.1 0 = .ok (.aload_n 0, 1) := by decide +kernel
theorem d_M_tick_1 : decode me_M_tick.2.1 1 = .ok (.iconst 0, 1) := by decide +kernel
theorem d_M_tick_2 : decode me_M_tick.2.1 2 = .ok (.putfield 137, 3) := by decide +kernel
theorem p_M_tick_2 : bm_pf me_M_tick 2 11 0 .int := ⟨_, _, _, _, ty_M, d_M_tick_2, rfl, by decide, uw_M, fl_M_137, tk_M, nm_M, rfl, Or.inl rfl⟩
theorem d_M_tick_5 : decode me_M_tick.2.1 5 = .ok (.iconst 0, 1) := by decide +kernel
theorem d_M_tick_6 : decode me_M_tick.2.1 6 = .ok (.istore_n 1, 1) := by decide +kernel
theorem d_M_tick_7 : decode me_M_tick.2.1 7 = .ok (.iload_n 1, 1) := by decide +kernel
theorem d_M_tick_8 : decode me_M_tick.2.1 8 = .ok (.aload_n 0, 1) := by decide +kernel
theorem d_M_tick_9 : decode me_M_tick.2.1 9 = .ok (.getfield 272, 3) := by decide +kernel
theorem g_M_tick_9 : bm_gf me_M_tick 9 11 15 := ⟨_, _, _, _, d_M_tick_9, rfl, by decide, uw_M, fl_M_272⟩
theorem d_M_tick_12 : decode me_M_tick.2.1 12 = .ok (.if_icmp .ge (33), 3) := by decide +kernel
theorem d_M_tick_15 : decode me_M_tick.2.1 15 = .ok (.aload_n 0, 1) := by decide +kernel
theorem d_M_tick_16 : decode me_M_tick.2.1 16 = .ok (.iload_n 1, 1) := by decide +kernel
theorem d_M_tick_17 : decode me_M_tick.2.1 17 = .ok (.invokevirtual 263, 3) := by decide +kernel
theorem c_M_tick_17 : bm_iv me_M_tick me_M_isOn 17 11 1 := ⟨_, d_M_tick_17, Or.inl ml_M_263, ⟨kc_M_isOn, in_BatchHallModel, by decide +kernel, by decide, by decide⟩, ki_M_isOn, ks_M_isOn, _, _, rfl⟩
theorem d_M_tick_20 : decode me_M_tick.2.1 20 = .ok (.ifCond .eq (8), 3) := by decide +kernel
theorem d_M_tick_23 : decode me_M_tick.2.1 23 = .ok (.aload_n 0, 1) := by decide +kernel
theorem d_M_tick_24 : decode me_M_tick.2.1 24 = .ok (.iload_n 1, 1) := by decide +kernel
theorem d_M_tick_25 : decode me_M_tick.2.1 25 = .ok (.invokevirtual 275, 3) := by decide +kernel
theorem c_M_tick_25 : bm_iv me_M_tick me_M_goOn 25 11 1 := ⟨_, d_M_tick_25, Or.inl ml_M_275, ⟨kc_M_goOn, in_BatchHallModel, by decide +kernel, by decide, by decide⟩, ki_M_goOn, ks_M_goOn, _, _, rfl⟩
theorem d_M_tick_28 : decode me_M_tick.2.1 28 = .ok (.aload_n 0, 1) := by decide +kernel
theorem d_M_tick_29 : decode me_M_tick.2.1 29 = .ok (.getfield 232, 3) := by decide +kernel
theorem g_M_tick_29 : bm_gf me_M_tick 29 11 30 := ⟨_, _, _, _, d_M_tick_29, rfl, by decide, uw_M, fl_M_232⟩
theorem d_M_tick_32 : decode me_M_tick.2.1 32 = .ok (.ifCond .eq (7), 3) := by decide +kernel
theorem d_M_tick_35 : decode me_M_tick.2.1 35 = .ok (.aload_n 0, 1) := by decide +kernel
theorem d_M_tick_36 : decode me_M_tick.2.1 36 = .ok (.invokevirtual 278, 3) := by decide +kernel
theorem c_M_tick_36 : bm_iv me_M_tick me_M_claim 36 11 0 := ⟨_, d_M_tick_36, Or.inl ml_M_278, ⟨kc_M_claim, in_BatchHallModel, by decide +kernel, by decide, by decide⟩, ki_M_claim, ks_M_claim, _, _, rfl⟩
theorem d_M_tick_39 : decode me_M_tick.2.1 39 = .ok (.iinc 1 (1), 3) := by decide +kernel
theorem d_M_tick_42 : decode me_M_tick.2.1 42 = .ok (.goto (-35), 3) := by decide +kernel
theorem d_M_tick_45 : decode me_M_tick.2.1 45 = .ok (.iconst 0, 1) := by decide +kernel
theorem d_M_tick_46 : decode me_M_tick.2.1 46 = .ok (.istore_n 1, 1) := by decide +kernel
theorem d_M_tick_47 : decode me_M_tick.2.1 47 = .ok (.iconst 0, 1) := by decide +kernel
theorem d_M_tick_48 : decode me_M_tick.2.1 48 = .ok (.istore_n 2, 1) := by decide +kernel
theorem d_M_tick_49 : decode me_M_tick.2.1 49 = .ok (.iload_n 2, 1) := by decide +kernel
theorem d_M_tick_50 : decode me_M_tick.2.1 50 = .ok (.aload_n 0, 1) := by decide +kernel
theorem d_M_tick_51 : decode me_M_tick.2.1 51 = .ok (.getfield 272, 3) := by decide +kernel
theorem g_M_tick_51 : bm_gf me_M_tick 51 11 15 := ⟨_, _, _, _, d_M_tick_51, rfl, by decide, uw_M, fl_M_272⟩
theorem d_M_tick_54 : decode me_M_tick.2.1 54 = .ok (.if_icmp .ge (35), 3) := by decide +kernel
theorem d_M_tick_57 : decode me_M_tick.2.1 57 = .ok (.aload_n 0, 1) := by decide +kernel
theorem d_M_tick_58 : decode me_M_tick.2.1 58 = .ok (.iload_n 2, 1) := by decide +kernel
theorem d_M_tick_59 : decode me_M_tick.2.1 59 = .ok (.invokevirtual 263, 3) := by decide +kernel
theorem c_M_tick_59 : bm_iv me_M_tick me_M_isOn 59 11 1 := ⟨_, d_M_tick_59, Or.inl ml_M_263, ⟨kc_M_isOn, in_BatchHallModel, by decide +kernel, by decide, by decide⟩, ki_M_isOn, ks_M_isOn, _, _, rfl⟩
theorem d_M_tick_62 : decode me_M_tick.2.1 62 = .ok (.ifCond .ne (13), 3) := by decide +kernel
theorem d_M_tick_65 : decode me_M_tick.2.1 65 = .ok (.aload_n 0, 1) := by decide +kernel
theorem d_M_tick_66 : decode me_M_tick.2.1 66 = .ok (.getfield 59, 3) := by decide +kernel
theorem g_M_tick_66 : bm_gf me_M_tick 66 11 18 := ⟨_, _, _, _, d_M_tick_66, rfl, by decide, uw_M, fl_M_59⟩
theorem d_M_tick_69 : decode me_M_tick.2.1 69 = .ok (.iload_n 2, 1) := by decide +kernel
theorem d_M_tick_70 : decode me_M_tick.2.1 70 = .ok (.iaload, 1) := by decide +kernel
theorem d_M_tick_71 : decode me_M_tick.2.1 71 = .ok (.iconst 3, 1) := by decide +kernel
theorem d_M_tick_72 : decode me_M_tick.2.1 72 = .ok (.if_icmp .ne (9), 3) := by decide +kernel
theorem d_M_tick_75 : decode me_M_tick.2.1 75 = .ok (.iload_n 1, 1) := by decide +kernel
theorem d_M_tick_76 : decode me_M_tick.2.1 76 = .ok (.iconst 1, 1) := by decide +kernel
theorem d_M_tick_77 : decode me_M_tick.2.1 77 = .ok (.iadd, 1) := by decide +kernel
theorem d_M_tick_78 : decode me_M_tick.2.1 78 = .ok (.goto (4), 3) := by decide +kernel
theorem d_M_tick_81 : decode me_M_tick.2.1 81 = .ok (.iload_n 1, 1) := by decide +kernel
theorem d_M_tick_82 : decode me_M_tick.2.1 82 = .ok (.istore_n 1, 1) := by decide +kernel
theorem d_M_tick_83 : decode me_M_tick.2.1 83 = .ok (.iinc 2 (1), 3) := by decide +kernel
theorem d_M_tick_86 : decode me_M_tick.2.1 86 = .ok (.goto (-37), 3) := by decide +kernel
theorem d_M_tick_89 : decode me_M_tick.2.1 89 = .ok (.iload_n 1, 1) := by decide +kernel
theorem d_M_tick_90 : decode me_M_tick.2.1 90 = .ok (.ireturn, 1) := by decide +kernel
theorem d_M_isOn_0 : decode me_M_isOn.2.1 0 = .ok (.aload_n 0, 1) := by decide +kernel
theorem d_M_isOn_1 : decode me_M_isOn.2.1 1 = .ok (.getfield 59, 3) := by decide +kernel
theorem g_M_isOn_1 : bm_gf me_M_isOn 1 11 18 := ⟨_, _, _, _, d_M_isOn_1, rfl, by decide, uw_M, fl_M_59⟩
theorem d_M_isOn_4 : decode me_M_isOn.2.1 4 = .ok (.iload_n 1, 1) := by decide +kernel
theorem d_M_isOn_5 : decode me_M_isOn.2.1 5 = .ok (.iaload, 1) := by decide +kernel
theorem d_M_isOn_6 : decode me_M_isOn.2.1 6 = .ok (.iconst 2, 1) := by decide +kernel
theorem d_M_isOn_7 : decode me_M_isOn.2.1 7 = .ok (.if_icmp .eq (13), 3) := by decide +kernel
theorem d_M_isOn_10 : decode me_M_isOn.2.1 10 = .ok (.aload_n 0, 1) := by decide +kernel
theorem d_M_isOn_11 : decode me_M_isOn.2.1 11 = .ok (.getfield 59, 3) := by decide +kernel
theorem g_M_isOn_11 : bm_gf me_M_isOn 11 11 18 := ⟨_, _, _, _, d_M_isOn_11, rfl, by decide, uw_M, fl_M_59⟩
theorem d_M_isOn_14 : decode me_M_isOn.2.1 14 = .ok (.iload_n 1, 1) := by decide +kernel
theorem d_M_isOn_15 : decode me_M_isOn.2.1 15 = .ok (.iaload, 1) := by decide +kernel
theorem d_M_isOn_16 : decode me_M_isOn.2.1 16 = .ok (.iconst 4, 1) := by decide +kernel
theorem d_M_isOn_17 : decode me_M_isOn.2.1 17 = .ok (.if_icmp .ne (7), 3) := by decide +kernel
theorem d_M_isOn_20 : decode me_M_isOn.2.1 20 = .ok (.iconst 1, 1) := by decide +kernel
theorem d_M_isOn_21 : decode me_M_isOn.2.1 21 = .ok (.goto (4), 3) := by decide +kernel
theorem d_M_isOn_24 : decode me_M_isOn.2.1 24 = .ok (.iconst 0, 1) := by decide +kernel
theorem d_M_isOn_25 : decode me_M_isOn.2.1 25 = .ok (.ireturn, 1) := by decide +kernel
theorem d_M_goOn_0 : decode me_M_goOn.2.1 0 = .ok (.iconst 0, 1) := by decide +kernel
theorem d_M_goOn_1 : decode me_M_goOn.2.1 1 = .ok (.istore_n 2, 1) := by decide +kernel
theorem d_M_goOn_2 : decode me_M_goOn.2.1 2 = .ok (.iload_n 2, 1) := by decide +kernel
theorem d_M_goOn_3 : decode me_M_goOn.2.1 3 = .ok (.aload_n 0, 1) := by decide +kernel
theorem d_M_goOn_4 : decode me_M_goOn.2.1 4 = .ok (.getfield 62, 3) := by decide +kernel
theorem g_M_goOn_4 : bm_gf me_M_goOn 4 11 19 := ⟨_, _, _, _, d_M_goOn_4, rfl, by decide, uw_M, fl_M_62⟩
theorem d_M_goOn_7 : decode me_M_goOn.2.1 7 = .ok (.iload_n 1, 1) := by decide +kernel
theorem d_M_goOn_8 : decode me_M_goOn.2.1 8 = .ok (.iaload, 1) := by decide +kernel
theorem d_M_goOn_9 : decode me_M_goOn.2.1 9 = .ok (.if_icmp .ge (74), 3) := by decide +kernel
theorem d_M_goOn_12 : decode me_M_goOn.2.1 12 = .ok (.aload_n 0, 1) := by decide +kernel
theorem d_M_goOn_13 : decode me_M_goOn.2.1 13 = .ok (.iload_n 1, 1) := by decide +kernel
theorem d_M_goOn_14 : decode me_M_goOn.2.1 14 = .ok (.invokevirtual 263, 3) := by decide +kernel
theorem c_M_goOn_14 : bm_iv me_M_goOn me_M_isOn 14 11 1 := ⟨_, d_M_goOn_14, Or.inl ml_M_263, ⟨kc_M_isOn, in_BatchHallModel, by decide +kernel, by decide, by decide⟩, ki_M_isOn, ks_M_isOn, _, _, rfl⟩
theorem d_M_goOn_17 : decode me_M_goOn.2.1 17 = .ok (.ifCond .eq (66), 3) := by decide +kernel
theorem d_M_goOn_20 : decode me_M_goOn.2.1 20 = .ok (.bipush (8), 2) := by decide +kernel
theorem d_M_goOn_22 : decode me_M_goOn.2.1 22 = .ok (.iload_n 1, 1) := by decide +kernel
theorem d_M_goOn_23 : decode me_M_goOn.2.1 23 = .ok (.imul, 1) := by decide +kernel
theorem d_M_goOn_24 : decode me_M_goOn.2.1 24 = .ok (.iload_n 2, 1) := by decide +kernel
theorem d_M_goOn_25 : decode me_M_goOn.2.1 25 = .ok (.iadd, 1) := by decide +kernel
theorem d_M_goOn_26 : decode me_M_goOn.2.1 26 = .ok (.istore_n 3, 1) := by decide +kernel
theorem d_M_goOn_27 : decode me_M_goOn.2.1 27 = .ok (.aload_n 0, 1) := by decide +kernel
theorem d_M_goOn_28 : decode me_M_goOn.2.1 28 = .ok (.getfield 83, 3) := by decide +kernel
theorem g_M_goOn_28 : bm_gf me_M_goOn 28 11 26 := ⟨_, _, _, _, d_M_goOn_28, rfl, by decide, uw_M, fl_M_83⟩
theorem d_M_goOn_31 : decode me_M_goOn.2.1 31 = .ok (.iload_n 3, 1) := by decide +kernel
theorem d_M_goOn_32 : decode me_M_goOn.2.1 32 = .ok (.baload, 1) := by decide +kernel
theorem d_M_goOn_33 : decode me_M_goOn.2.1 33 = .ok (.ifCond .eq (44), 3) := by decide +kernel
theorem d_M_goOn_36 : decode me_M_goOn.2.1 36 = .ok (.aload_n 0, 1) := by decide +kernel
theorem d_M_goOn_37 : decode me_M_goOn.2.1 37 = .ok (.iload_n 1, 1) := by decide +kernel
theorem d_M_goOn_38 : decode me_M_goOn.2.1 38 = .ok (.iload_n 2, 1) := by decide +kernel
theorem d_M_goOn_39 : decode me_M_goOn.2.1 39 = .ok (.invokevirtual 266, 3) := by decide +kernel
theorem c_M_goOn_39 : bm_iv me_M_goOn me_M_works 39 11 2 := ⟨_, d_M_goOn_39, Or.inl ml_M_266, ⟨kc_M_works, in_BatchHallModel, by decide +kernel, by decide, by decide⟩, ki_M_works, ks_M_works, _, _, rfl⟩
theorem d_M_goOn_42 : decode me_M_goOn.2.1 42 = .ok (.ifCond .eq (35), 3) := by decide +kernel
theorem d_M_goOn_45 : decode me_M_goOn.2.1 45 = .ok (.aload_n 0, 1) := by decide +kernel
theorem d_M_goOn_46 : decode me_M_goOn.2.1 46 = .ok (.iload_n 1, 1) := by decide +kernel
theorem d_M_goOn_47 : decode me_M_goOn.2.1 47 = .ok (.invokevirtual 263, 3) := by decide +kernel
theorem c_M_goOn_47 : bm_iv me_M_goOn me_M_isOn 47 11 1 := ⟨_, d_M_goOn_47, Or.inl ml_M_263, ⟨kc_M_isOn, in_BatchHallModel, by decide +kernel, by decide, by decide⟩, ki_M_isOn, ks_M_isOn, _, _, rfl⟩
theorem d_M_goOn_50 : decode me_M_goOn.2.1 50 = .ok (.ifCond .eq (27), 3) := by decide +kernel
theorem d_M_goOn_53 : decode me_M_goOn.2.1 53 = .ok (.aload_n 0, 1) := by decide +kernel
theorem d_M_goOn_54 : decode me_M_goOn.2.1 54 = .ok (.getfield 83, 3) := by decide +kernel
theorem g_M_goOn_54 : bm_gf me_M_goOn 54 11 26 := ⟨_, _, _, _, d_M_goOn_54, rfl, by decide, uw_M, fl_M_83⟩
theorem d_M_goOn_57 : decode me_M_goOn.2.1 57 = .ok (.iload_n 3, 1) := by decide +kernel
theorem d_M_goOn_58 : decode me_M_goOn.2.1 58 = .ok (.iconst 0, 1) := by decide +kernel
theorem d_M_goOn_59 : decode me_M_goOn.2.1 59 = .ok (.bastore, 1) := by decide +kernel
theorem d_M_goOn_60 : decode me_M_goOn.2.1 60 = .ok (.aload_n 0, 1) := by decide +kernel
theorem d_M_goOn_61 : decode me_M_goOn.2.1 61 = .ok (.getfield 74, 3) := by decide +kernel
theorem g_M_goOn_61 : bm_gf me_M_goOn 61 11 23 := ⟨_, _, _, _, d_M_goOn_61, rfl, by decide, uw_M, fl_M_74⟩
theorem d_M_goOn_64 : decode me_M_goOn.2.1 64 = .ok (.iload_n 3, 1) := by decide +kernel
theorem d_M_goOn_65 : decode me_M_goOn.2.1 65 = .ok (.aload_n 0, 1) := by decide +kernel
theorem d_M_goOn_66 : decode me_M_goOn.2.1 66 = .ok (.getfield 47, 3) := by decide +kernel
theorem g_M_goOn_66 : bm_gf me_M_goOn 66 11 13 := ⟨_, _, _, _, d_M_goOn_66, rfl, by decide, uw_M, fl_M_47⟩
theorem d_M_goOn_69 : decode me_M_goOn.2.1 69 = .ok (.aload_n 0, 1) := by decide +kernel
theorem d_M_goOn_70 : decode me_M_goOn.2.1 70 = .ok (.iload_n 1, 1) := by decide +kernel
theorem d_M_goOn_71 : decode me_M_goOn.2.1 71 = .ok (.iload_n 2, 1) := by decide +kernel
theorem d_M_goOn_72 : decode me_M_goOn.2.1 72 = .ok (.invokevirtual 236, 3) := by decide +kernel
theorem c_M_goOn_72 : bm_iv me_M_goOn me_M_stepAt 72 11 2 := ⟨_, d_M_goOn_72, Or.inl ml_M_236, ⟨kc_M_stepAt, in_BatchHallModel, by decide +kernel, by decide, by decide⟩, ki_M_stepAt, ks_M_stepAt, _, _, rfl⟩
theorem d_M_goOn_75 : decode me_M_goOn.2.1 75 = .ok (.iaload, 1) := by decide +kernel
theorem d_M_goOn_76 : decode me_M_goOn.2.1 76 = .ok (.iastore, 1) := by decide +kernel
theorem d_M_goOn_77 : decode me_M_goOn.2.1 77 = .ok (.iinc 2 (1), 3) := by decide +kernel
theorem d_M_goOn_80 : decode me_M_goOn.2.1 80 = .ok (.goto (-78), 3) := by decide +kernel
theorem d_M_goOn_83 : decode me_M_goOn.2.1 83 = .ok (.aload_n 0, 1) := by decide +kernel
theorem d_M_goOn_84 : decode me_M_goOn.2.1 84 = .ok (.getfield 59, 3) := by decide +kernel
theorem g_M_goOn_84 : bm_gf me_M_goOn 84 11 18 := ⟨_, _, _, _, d_M_goOn_84, rfl, by decide, uw_M, fl_M_59⟩
theorem d_M_goOn_87 : decode me_M_goOn.2.1 87 = .ok (.iload_n 1, 1) := by decide +kernel
theorem d_M_goOn_88 : decode me_M_goOn.2.1 88 = .ok (.iaload, 1) := by decide +kernel
theorem d_M_goOn_89 : decode me_M_goOn.2.1 89 = .ok (.iconst 4, 1) := by decide +kernel
theorem d_M_goOn_90 : decode me_M_goOn.2.1 90 = .ok (.if_icmp .ne (20), 3) := by decide +kernel
theorem d_M_goOn_93 : decode me_M_goOn.2.1 93 = .ok (.aload_n 0, 1) := by decide +kernel
theorem d_M_goOn_94 : decode me_M_goOn.2.1 94 = .ok (.iload_n 1, 1) := by decide +kernel
theorem d_M_goOn_95 : decode me_M_goOn.2.1 95 = .ok (.invokevirtual 269, 3) := by decide +kernel
theorem c_M_goOn_95 : bm_iv me_M_goOn me_M_running 95 11 1 := ⟨_, d_M_goOn_95, Or.inl ml_M_269, ⟨kc_M_running, in_BatchHallModel, by decide +kernel, by decide, by decide⟩, ki_M_running, ks_M_running, _, _, rfl⟩
theorem d_M_goOn_98 : decode me_M_goOn.2.1 98 = .ok (.ifCond .ne (12), 3) := by decide +kernel
theorem d_M_goOn_101 : decode me_M_goOn.2.1 101 = .ok (.aload_n 0, 1) := by decide +kernel
theorem d_M_goOn_102 : decode me_M_goOn.2.1 102 = .ok (.iload_n 1, 1) := by decide +kernel
theorem d_M_goOn_103 : decode me_M_goOn.2.1 103 = .ok (.iconst 5, 1) := by decide +kernel
theorem d_M_goOn_104 : decode me_M_goOn.2.1 104 = .ok (.invokevirtual 203, 3) := by decide +kernel
theorem c_M_goOn_104 : bm_iv me_M_goOn me_M_close 104 11 2 := ⟨_, d_M_goOn_104, Or.inl ml_M_203, ⟨kc_M_close, in_BatchHallModel, by decide +kernel, by decide, by decide⟩, ki_M_close, ks_M_close, _, _, rfl⟩
theorem d_M_goOn_107 : decode me_M_goOn.2.1 107 = .ok (.goto (18), 3) := by decide +kernel
theorem d_M_goOn_110 : decode me_M_goOn.2.1 110 = .ok (.aload_n 0, 1) := by decide +kernel
theorem d_M_goOn_111 : decode me_M_goOn.2.1 111 = .ok (.getfield 59, 3) := by decide +kernel
theorem g_M_goOn_111 : bm_gf me_M_goOn 111 11 18 := ⟨_, _, _, _, d_M_goOn_111, rfl, by decide, uw_M, fl_M_59⟩
theorem d_M_goOn_114 : decode me_M_goOn.2.1 114 = .ok (.iload_n 1, 1) := by decide +kernel
theorem d_M_goOn_115 : decode me_M_goOn.2.1 115 = .ok (.iaload, 1) := by decide +kernel
theorem d_M_goOn_116 : decode me_M_goOn.2.1 116 = .ok (.iconst 2, 1) := by decide +kernel
theorem d_M_goOn_117 : decode me_M_goOn.2.1 117 = .ok (.if_icmp .ne (8), 3) := by decide +kernel
theorem d_M_goOn_120 : decode me_M_goOn.2.1 120 = .ok (.aload_n 0, 1) := by decide +kernel
theorem d_M_goOn_121 : decode me_M_goOn.2.1 121 = .ok (.iload_n 1, 1) := by decide +kernel
theorem d_M_goOn_122 : decode me_M_goOn.2.1 122 = .ok (.invokevirtual 229, 3) := by decide +kernel
theorem c_M_goOn_122 : bm_iv me_M_goOn me_M_move 122 11 1 := ⟨_, d_M_goOn_122, Or.inl ml_M_229, ⟨kc_M_move, in_BatchHallModel, by decide +kernel, by decide, by decide⟩, ki_M_move, ks_M_move, _, _, rfl⟩
theorem d_M_goOn_125 : decode me_M_goOn.2.1 125 = .ok (.return_, 1) := by decide +kernel
