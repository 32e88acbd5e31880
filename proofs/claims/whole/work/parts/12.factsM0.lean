theorem d_M_init_0 : decode me_M_init.2.1 0 = .ok (.aload_n 0, 1) := by decide +kernel
theorem d_M_init_1 : decode me_M_init.2.1 1 = .ok (.invokespecial 1, 3) := by decide +kernel
theorem c_M_init_1 : bm_io me_M_init 1 := ⟨_, d_M_init_1, ml_M_1, ki_obj, kc_obj, by decide, by decide⟩
theorem d_M_init_4 : decode me_M_init.2.1 4 = .ok (.aload_n 0, 1) := by decide +kernel
theorem d_M_init_5 : decode me_M_init.2.1 5 = .ok (.bipush (6), 2) := by decide +kernel
theorem d_M_init_7 : decode me_M_init.2.1 7 = .ok (.newarray .int, 2) := by decide +kernel
theorem n_M_init_7 : bm_na me_M_init 7 0 .int := ⟨_, d_M_init_7, rfl, ac_int, rfl, by decide⟩
theorem d_M_init_9 : decode me_M_init.2.1 9 = .ok (.putfield 7, 3) := by decide +kernel
theorem p_M_init_9 : bm_pf me_M_init 9 11 1 (.array .int) := ⟨_, _, _, _, ty_M, d_M_init_9, rfl, by decide, uw_M, fl_M_7, tk_M, nm_M, rfl, Or.inr ⟨rfl, rfl, rfl⟩⟩
theorem d_M_init_12 : decode me_M_init.2.1 12 = .ok (.aload_n 0, 1) := by decide +kernel
theorem d_M_init_13 : decode me_M_init.2.1 13 = .ok (.bipush (6), 2) := by decide +kernel
theorem d_M_init_15 : decode me_M_init.2.1 15 = .ok (.newarray .int, 2) := by decide +kernel
theorem n_M_init_15 : bm_na me_M_init 15 0 .int := ⟨_, d_M_init_15, rfl, ac_int, rfl, by decide⟩
theorem d_M_init_17 : decode me_M_init.2.1 17 = .ok (.putfield 13, 3) := by decide +kernel
theorem p_M_init_17 : bm_pf me_M_init 17 11 2 (.array .int) := ⟨_, _, _, _, ty_M, d_M_init_17, rfl, by decide, uw_M, fl_M_13, tk_M, nm_M, rfl, Or.inr ⟨rfl, rfl, rfl⟩⟩
theorem d_M_init_20 : decode me_M_init.2.1 20 = .ok (.aload_n 0, 1) := by decide +kernel
theorem d_M_init_21 : decode me_M_init.2.1 21 = .ok (.bipush (6), 2) := by decide +kernel
theorem d_M_init_23 : decode me_M_init.2.1 23 = .ok (.newarray .int, 2) := by decide +kernel
theorem n_M_init_23 : bm_na me_M_init 23 0 .int := ⟨_, d_M_init_23, rfl, ac_int, rfl, by decide⟩
theorem d_M_init_25 : decode me_M_init.2.1 25 = .ok (.putfield 16, 3) := by decide +kernel
theorem p_M_init_25 : bm_pf me_M_init 25 11 3 (.array .int) := ⟨_, _, _, _, ty_M, d_M_init_25, rfl, by decide, uw_M, fl_M_16, tk_M, nm_M, rfl, Or.inr ⟨rfl, rfl, rfl⟩⟩
theorem d_M_init_28 : decode me_M_init.2.1 28 = .ok (.aload_n 0, 1) := by decide +kernel
theorem d_M_init_29 : decode me_M_init.2.1 29 = .ok (.sipush (600), 3) := by decide +kernel
theorem d_M_init_32 : decode me_M_init.2.1 32 = .ok (.newarray .int, 2) := by decide +kernel
theorem n_M_init_32 : bm_na me_M_init 32 0 .int := ⟨_, d_M_init_32, rfl, ac_int, rfl, by decide⟩
theorem d_M_init_34 : decode me_M_init.2.1 34 = .ok (.putfield 19, 3) := by decide +kernel
theorem p_M_init_34 : bm_pf me_M_init 34 11 4 (.array .int) := ⟨_, _, _, _, ty_M, d_M_init_34, rfl, by decide, uw_M, fl_M_19, tk_M, nm_M, rfl, Or.inr ⟨rfl, rfl, rfl⟩⟩
theorem d_M_init_37 : decode me_M_init.2.1 37 = .ok (.aload_n 0, 1) := by decide +kernel
theorem d_M_init_38 : decode me_M_init.2.1 38 = .ok (.sipush (600), 3) := by decide +kernel
theorem d_M_init_41 : decode me_M_init.2.1 41 = .ok (.newarray .int, 2) := by decide +kernel
theorem n_M_init_41 : bm_na me_M_init 41 0 .int := ⟨_, d_M_init_41, rfl, ac_int, rfl, by decide⟩
theorem d_M_init_43 : decode me_M_init.2.1 43 = .ok (.putfield 22, 3) := by decide +kernel
theorem p_M_init_43 : bm_pf me_M_init 43 11 5 (.array .int) := ⟨_, _, _, _, ty_M, d_M_init_43, rfl, by decide, uw_M, fl_M_22, tk_M, nm_M, rfl, Or.inr ⟨rfl, rfl, rfl⟩⟩
theorem d_M_init_46 : decode me_M_init.2.1 46 = .ok (.aload_n 0, 1) := by decide +kernel
theorem d_M_init_47 : decode me_M_init.2.1 47 = .ok (.bipush (12), 2) := by decide +kernel
theorem d_M_init_49 : decode me_M_init.2.1 49 = .ok (.newarray .int, 2) := by decide +kernel
theorem n_M_init_49 : bm_na me_M_init 49 0 .int := ⟨_, d_M_init_49, rfl, ac_int, rfl, by decide⟩
theorem d_M_init_51 : decode me_M_init.2.1 51 = .ok (.putfield 25, 3) := by decide +kernel
theorem p_M_init_51 : bm_pf me_M_init 51 11 6 (.array .int) := ⟨_, _, _, _, ty_M, d_M_init_51, rfl, by decide, uw_M, fl_M_25, tk_M, nm_M, rfl, Or.inr ⟨rfl, rfl, rfl⟩⟩
theorem d_M_init_54 : decode me_M_init.2.1 54 = .ok (.aload_n 0, 1) := by decide +kernel
theorem d_M_init_55 : decode me_M_init.2.1 55 = .ok (.iconst 4, 1) := by decide +kernel
theorem d_M_init_56 : decode me_M_init.2.1 56 = .ok (.newarray .int, 2) := by decide +kernel
theorem n_M_init_56 : bm_na me_M_init 56 0 .int := ⟨_, d_M_init_56, rfl, ac_int, rfl, by decide⟩
theorem d_M_init_58 : decode me_M_init.2.1 58 = .ok (.putfield 28, 3) := by decide +kernel
theorem p_M_init_58 : bm_pf me_M_init 58 11 7 (.array .int) := ⟨_, _, _, _, ty_M, d_M_init_58, rfl, by decide, uw_M, fl_M_28, tk_M, nm_M, rfl, Or.inr ⟨rfl, rfl, rfl⟩⟩
theorem d_M_init_61 : decode me_M_init.2.1 61 = .ok (.aload_n 0, 1) := by decide +kernel
theorem d_M_init_62 : decode me_M_init.2.1 62 = .ok (.iconst 4, 1) := by decide +kernel
theorem d_M_init_63 : decode me_M_init.2.1 63 = .ok (.newarray .boolean, 2) := by decide +kernel
theorem n_M_init_63 : bm_na me_M_init 63 1 .boolean := ⟨_, d_M_init_63, rfl, ac_boolean, rfl, by decide⟩
theorem d_M_init_65 : decode me_M_init.2.1 65 = .ok (.putfield 31, 3) := by decide +kernel
theorem p_M_init_65 : bm_pf me_M_init 65 11 8 (.array .boolean) := ⟨_, _, _, _, ty_M, d_M_init_65, rfl, by decide, uw_M, fl_M_31, tk_M, nm_M, rfl, Or.inr ⟨rfl, rfl, rfl⟩⟩
theorem d_M_init_68 : decode me_M_init.2.1 68 = .ok (.aload_n 0, 1) := by decide +kernel
theorem d_M_init_69 : decode me_M_init.2.1 69 = .ok (.bipush (48), 2) := by decide +kernel
theorem d_M_init_71 : decode me_M_init.2.1 71 = .ok (.newarray .int, 2) := by decide +kernel
theorem n_M_init_71 : bm_na me_M_init 71 0 .int := ⟨_, d_M_init_71, rfl, ac_int, rfl, by decide⟩
theorem d_M_init_73 : decode me_M_init.2.1 73 = .ok (.putfield 35, 3) := by decide +kernel
theorem p_M_init_73 : bm_pf me_M_init 73 11 9 (.array .int) := ⟨_, _, _, _, ty_M, d_M_init_73, rfl, by decide, uw_M, fl_M_35, tk_M, nm_M, rfl, Or.inr ⟨rfl, rfl, rfl⟩⟩
theorem d_M_init_76 : decode me_M_init.2.1 76 = .ok (.aload_n 0, 1) := by decide +kernel
theorem d_M_init_77 : decode me_M_init.2.1 77 = .ok (.bipush (48), 2) := by decide +kernel
theorem d_M_init_79 : decode me_M_init.2.1 79 = .ok (.newarray .int, 2) := by decide +kernel
theorem n_M_init_79 : bm_na me_M_init 79 0 .int := ⟨_, d_M_init_79, rfl, ac_int, rfl, by decide⟩
theorem d_M_init_81 : decode me_M_init.2.1 81 = .ok (.putfield 38, 3) := by decide +kernel
theorem p_M_init_81 : bm_pf me_M_init 81 11 10 (.array .int) := ⟨_, _, _, _, ty_M, d_M_init_81, rfl, by decide, uw_M, fl_M_38, tk_M, nm_M, rfl, Or.inr ⟨rfl, rfl, rfl⟩⟩
theorem d_M_init_84 : decode me_M_init.2.1 84 = .ok (.aload_n 0, 1) := by decide +kernel
theorem d_M_init_85 : decode me_M_init.2.1 85 = .ok (.bipush (48), 2) := by decide +kernel
theorem d_M_init_87 : decode me_M_init.2.1 87 = .ok (.newarray .int, 2) := by decide +kernel
theorem n_M_init_87 : bm_na me_M_init 87 0 .int := ⟨_, d_M_init_87, rfl, ac_int, rfl, by decide⟩
theorem d_M_init_89 : decode me_M_init.2.1 89 = .ok (.putfield 41, 3) := by decide +kernel
theorem p_M_init_89 : bm_pf me_M_init 89 11 11 (.array .int) := ⟨_, _, _, _, ty_M, d_M_init_89, rfl, by decide, uw_M, fl_M_41, tk_M, nm_M, rfl, Or.inr ⟨rfl, rfl, rfl⟩⟩
theorem d_M_init_92 : decode me_M_init.2.1 92 = .ok (.aload_n 0, 1) := by decide +kernel
theorem d_M_init_93 : decode me_M_init.2.1 93 = .ok (.bipush (48), 2) := by decide +kernel
theorem d_M_init_95 : decode me_M_init.2.1 95 = .ok (.newarray .int, 2) := by decide +kernel
theorem n_M_init_95 : bm_na me_M_init 95 0 .int := ⟨_, d_M_init_95, rfl, ac_int, rfl, by decide⟩
theorem d_M_init_97 : decode me_M_init.2.1 97 = .ok (.putfield 44, 3) := by decide +kernel
theorem p_M_init_97 : bm_pf me_M_init 97 11 12 (.array .int) := ⟨_, _, _, _, ty_M, d_M_init_97, rfl, by decide, uw_M, fl_M_44, tk_M, nm_M, rfl, Or.inr ⟨rfl, rfl, rfl⟩⟩
theorem d_M_init_100 : decode me_M_init.2.1 100 = .ok (.aload_n 0, 1) := by decide +kernel
theorem d_M_init_101 : decode me_M_init.2.1 101 = .ok (.bipush (48), 2) := by decide +kernel
theorem d_M_init_103 : decode me_M_init.2.1 103 = .ok (.newarray .int, 2) := by decide +kernel
theorem n_M_init_103 : bm_na me_M_init 103 0 .int := ⟨_, d_M_init_103, rfl, ac_int, rfl, by decide⟩
theorem d_M_init_105 : decode me_M_init.2.1 105 = .ok (.putfield 47, 3) := by decide +kernel
theorem p_M_init_105 : bm_pf me_M_init 105 11 13 (.array .int) := ⟨_, _, _, _, ty_M, d_M_init_105, rfl, by decide, uw_M, fl_M_47, tk_M, nm_M, rfl, Or.inr ⟨rfl, rfl, rfl⟩⟩
theorem d_M_init_108 : decode me_M_init.2.1 108 = .ok (.aload_n 0, 1) := by decide +kernel
theorem d_M_init_109 : decode me_M_init.2.1 109 = .ok (.bipush (48), 2) := by decide +kernel
theorem d_M_init_111 : decode me_M_init.2.1 111 = .ok (.newarray .int, 2) := by decide +kernel
theorem n_M_init_111 : bm_na me_M_init 111 0 .int := ⟨_, d_M_init_111, rfl, ac_int, rfl, by decide⟩
theorem d_M_init_113 : decode me_M_init.2.1 113 = .ok (.putfield 50, 3) := by decide +kernel
theorem p_M_init_113 : bm_pf me_M_init 113 11 14 (.array .int) := ⟨_, _, _, _, ty_M, d_M_init_113, rfl, by decide, uw_M, fl_M_50, tk_M, nm_M, rfl, Or.inr ⟨rfl, rfl, rfl⟩⟩
theorem d_M_init_116 : decode me_M_init.2.1 116 = .ok (.aload_n 0, 1) := by decide +kernel
theorem d_M_init_117 : decode me_M_init.2.1 117 = .ok (.bipush (16), 2) := by decide +kernel
theorem d_M_init_119 : decode me_M_init.2.1 119 = .ok (.newarray .int, 2) := by decide +kernel
theorem n_M_init_119 : bm_na me_M_init 119 0 .int := ⟨_, d_M_init_119, rfl, ac_int, rfl, by decide⟩
theorem d_M_init_121 : decode me_M_init.2.1 121 = .ok (.putfield 53, 3) := by decide +kernel
theorem p_M_init_121 : bm_pf me_M_init 121 11 16 (.array .int) := ⟨_, _, _, _, ty_M, d_M_init_121, rfl, by decide, uw_M, fl_M_53, tk_M, nm_M, rfl, Or.inr ⟨rfl, rfl, rfl⟩⟩
theorem d_M_init_124 : decode me_M_init.2.1 124 = .ok (.aload_n 0, 1) := by decide +kernel
theorem d_M_init_125 : decode me_M_init.2.1 125 = .ok (.bipush (16), 2) := by decide +kernel
theorem d_M_init_127 : decode me_M_init.2.1 127 = .ok (.newarray .int, 2) := by decide +kernel
theorem n_M_init_127 : bm_na me_M_init 127 0 .int := ⟨_, d_M_init_127, rfl, ac_int, rfl, by decide⟩
theorem d_M_init_129 : decode me_M_init.2.1 129 = .ok (.putfield 56, 3) := by decide +kernel
theorem p_M_init_129 : bm_pf me_M_init 129 11 17 (.array .int) := ⟨_, _, _, _, ty_M, d_M_init_129, rfl, by decide, uw_M, fl_M_56, tk_M, nm_M, rfl, Or.inr ⟨rfl, rfl, rfl⟩⟩
theorem d_M_init_132 : decode me_M_init.2.1 132 = .ok (.aload_n 0, 1) := by decide +kernel
theorem d_M_init_133 : decode me_M_init.2.1 133 = .ok (.bipush (16), 2) := by decide +kernel
theorem d_M_init_135 : decode me_M_init.2.1 135 = .ok (.newarray .int, 2) := by decide +kernel
theorem n_M_init_135 : bm_na me_M_init 135 0 .int := ⟨_, d_M_init_135, rfl, ac_int, rfl, by decide⟩
theorem d_M_init_137 : decode me_M_init.2.1 137 = .ok (.putfield 59, 3) := by decide +kernel
theorem p_M_init_137 : bm_pf me_M_init 137 11 18 (.array .int) := ⟨_, _, _, _, ty_M, d_M_init_137, rfl, by decide, uw_M, fl_M_59, tk_M, nm_M, rfl, Or.inr ⟨rfl, rfl, rfl⟩⟩
theorem d_M_init_140 : decode me_M_init.2.1 140 = .ok (.aload_n 0, 1) := by decide +kernel
theorem d_M_init_141 : decode me_M_init.2.1 141 = .ok (.bipush (16), 2) := by decide +kernel
theorem d_M_init_143 : decode me_M_init.2.1 143 = .ok (.newarray .int, 2) := by decide +kernel
theorem n_M_init_143 : bm_na me_M_init 143 0 .int := ⟨_, d_M_init_143, rfl, ac_int, rfl, by decide⟩
theorem d_M_init_145 : decode me_M_init.2.1 145 = .ok (.putfield 62, 3) := by decide +kernel
theorem p_M_init_145 : bm_pf me_M_init 145 11 19 (.array .int) := ⟨_, _, _, _, ty_M, d_M_init_145, rfl, by decide, uw_M, fl_M_62, tk_M, nm_M, rfl, Or.inr ⟨rfl, rfl, rfl⟩⟩
theorem d_M_init_148 : decode me_M_init.2.1 148 = .ok (.aload_n 0, 1) := by decide +kernel
theorem d_M_init_149 : decode me_M_init.2.1 149 = .ok (.bipush (64), 2) := by decide +kernel
theorem d_M_init_151 : decode me_M_init.2.1 151 = .ok (.newarray .int, 2) := by decide +kernel
theorem n_M_init_151 : bm_na me_M_init 151 0 .int := ⟨_, d_M_init_151, rfl, ac_int, rfl, by decide⟩
theorem d_M_init_153 : decode me_M_init.2.1 153 = .ok (.putfield 65, 3) := by decide +kernel
theorem p_M_init_153 : bm_pf me_M_init 153 11 20 (.array .int) := ⟨_, _, _, _, ty_M, d_M_init_153, rfl, by decide, uw_M, fl_M_65, tk_M, nm_M, rfl, Or.inr ⟨rfl, rfl, rfl⟩⟩
theorem d_M_init_156 : decode me_M_init.2.1 156 = .ok (.aload_n 0, 1) := by decide +kernel
theorem d_M_init_157 : decode me_M_init.2.1 157 = .ok (.sipush (192), 3) := by decide +kernel
theorem d_M_init_160 : decode me_M_init.2.1 160 = .ok (.newarray .int, 2) := by decide +kernel
theorem n_M_init_160 : bm_na me_M_init 160 0 .int := ⟨_, d_M_init_160, rfl, ac_int, rfl, by decide⟩
theorem d_M_init_162 : decode me_M_init.2.1 162 = .ok (.putfield 68, 3) := by decide +kernel
theorem p_M_init_162 : bm_pf me_M_init 162 11 21 (.array .int) := ⟨_, _, _, _, ty_M, d_M_init_162, rfl, by decide, uw_M, fl_M_68, tk_M, nm_M, rfl, Or.inr ⟨rfl, rfl, rfl⟩⟩
theorem d_M_init_165 : decode me_M_init.2.1 165 = .ok (.aload_n 0, 1) := by decide +kernel
theorem d_M_init_166 : decode me_M_init.2.1 166 = .ok (.bipush (48), 2) := by decide +kernel
theorem d_M_init_168 : decode me_M_init.2.1 168 = .ok (.newarray .int, 2) := by decide +kernel
theorem n_M_init_168 : bm_na me_M_init 168 0 .int := ⟨_, d_M_init_168, rfl, ac_int, rfl, by decide⟩
theorem d_M_init_170 : decode me_M_init.2.1 170 = .ok (.putfield 71, 3) := by decide +kernel
theorem p_M_init_170 : bm_pf me_M_init 170 11 22 (.array .int) := ⟨_, _, _, _, ty_M, d_M_init_170, rfl, by decide, uw_M, fl_M_71, tk_M, nm_M, rfl, Or.inr ⟨rfl, rfl, rfl⟩⟩
theorem d_M_init_173 : decode me_M_init.2.1 173 = .ok (.aload_n 0, 1) := by decide +kernel
theorem d_M_init_174 : decode me_M_init.2.1 174 = .ok (.sipush (128), 3) := by decide +kernel
theorem d_M_init_177 : decode me_M_init.2.1 177 = .ok (.newarray .int, 2) := by decide +kernel
theorem n_M_init_177 : bm_na me_M_init 177 0 .int := ⟨_, d_M_init_177, rfl, ac_int, rfl, by decide⟩
theorem d_M_init_179 : decode me_M_init.2.1 179 = .ok (.putfield 74, 3) := by decide +kernel
theorem p_M_init_179 : bm_pf me_M_init 179 11 23 (.array .int) := ⟨_, _, _, _, ty_M, d_M_init_179, rfl, by decide, uw_M, fl_M_74, tk_M, nm_M, rfl, Or.inr ⟨rfl, rfl, rfl⟩⟩
theorem d_M_init_182 : decode me_M_init.2.1 182 = .ok (.aload_n 0, 1) := by decide +kernel
theorem d_M_init_183 : decode me_M_init.2.1 183 = .ok (.sipush (128), 3) := by decide +kernel
theorem d_M_init_186 : decode me_M_init.2.1 186 = .ok (.newarray .int, 2) := by decide +kernel
theorem n_M_init_186 : bm_na me_M_init 186 0 .int := ⟨_, d_M_init_186, rfl, ac_int, rfl, by decide⟩
theorem d_M_init_188 : decode me_M_init.2.1 188 = .ok (.putfield 77, 3) := by decide +kernel
theorem p_M_init_188 : bm_pf me_M_init 188 11 24 (.array .int) := ⟨_, _, _, _, ty_M, d_M_init_188, rfl, by decide, uw_M, fl_M_77, tk_M, nm_M, rfl, Or.inr ⟨rfl, rfl, rfl⟩⟩
theorem d_M_init_191 : decode me_M_init.2.1 191 = .ok (.aload_n 0, 1) := by decide +kernel
theorem d_M_init_192 : decode me_M_init.2.1 192 = .ok (.sipush (128), 3) := by decide +kernel
theorem d_M_init_195 : decode me_M_init.2.1 195 = .ok (.newarray .int, 2) := by decide +kernel
theorem n_M_init_195 : bm_na me_M_init 195 0 .int := ⟨_, d_M_init_195, rfl, ac_int, rfl, by decide⟩
theorem d_M_init_197 : decode me_M_init.2.1 197 = .ok (.putfield 80, 3) := by decide +kernel
theorem p_M_init_197 : bm_pf me_M_init 197 11 25 (.array .int) := ⟨_, _, _, _, ty_M, d_M_init_197, rfl, by decide, uw_M, fl_M_80, tk_M, nm_M, rfl, Or.inr ⟨rfl, rfl, rfl⟩⟩
theorem d_M_init_200 : decode me_M_init.2.1 200 = .ok (.aload_n 0, 1) := by decide +kernel
theorem d_M_init_201 : decode me_M_init.2.1 201 = .ok (.sipush (128), 3) := by decide +kernel
theorem d_M_init_204 : decode me_M_init.2.1 204 = .ok (.newarray .boolean, 2) := by decide +kernel
theorem n_M_init_204 : bm_na me_M_init 204 1 .boolean := ⟨_, d_M_init_204, rfl, ac_boolean, rfl, by decide⟩
theorem d_M_init_206 : decode me_M_init.2.1 206 = .ok (.putfield 83, 3) := by decide +kernel
theorem p_M_init_206 : bm_pf me_M_init 206 11 26 (.array .boolean) := ⟨_, _, _, _, ty_M, d_M_init_206, rfl, by decide, uw_M, fl_M_83, tk_M, nm_M, rfl, Or.inr ⟨rfl, rfl, rfl⟩⟩
theorem d_M_init_209 : decode me_M_init.2.1 209 = .ok (.aload_n 0, 1) := by decide +kernel
theorem d_M_init_210 : decode me_M_init.2.1 210 = .ok (.sipush (128), 3) := by decide +kernel
theorem d_M_init_213 : decode me_M_init.2.1 213 = .ok (.newarray .boolean, 2) := by decide +kernel
theorem n_M_init_213 : bm_na me_M_init 213 1 .boolean := ⟨_, d_M_init_213, rfl, ac_boolean, rfl, by decide⟩
theorem d_M_init_215 : decode me_M_init.2.1 215 = .ok (.putfield 86, 3) := by decide +kernel
theorem p_M_init_215 : bm_pf me_M_init 215 11 27 (.array .boolean) := ⟨_, _, _, _, ty_M, d_M_init_215, rfl, by decide, uw_M, fl_M_86, tk_M, nm_M, rfl, Or.inr ⟨rfl, rfl, rfl⟩⟩
theorem d_M_init_218 : decode me_M_init.2.1 218 = .ok (.aload_n 0, 1) := by decide +kernel
theorem d_M_init_219 : decode me_M_init.2.1 219 = .ok (.bipush (16), 2) := by decide +kernel
theorem d_M_init_221 : decode me_M_init.2.1 221 = .ok (.newarray .int, 2) := by decide +kernel
theorem n_M_init_221 : bm_na me_M_init 221 0 .int := ⟨_, d_M_init_221, rfl, ac_int, rfl, by decide⟩
theorem d_M_init_223 : decode me_M_init.2.1 223 = .ok (.putfield 89, 3) := by decide +kernel
theorem p_M_init_223 : bm_pf me_M_init 223 11 29 (.array .int) := ⟨_, _, _, _, ty_M, d_M_init_223, rfl, by decide, uw_M, fl_M_89, tk_M, nm_M, rfl, Or.inr ⟨rfl, rfl, rfl⟩⟩
theorem d_M_init_226 : decode me_M_init.2.1 226 = .ok (.aload_n 0, 1) := by decide +kernel
theorem d_M_init_227 : decode me_M_init.2.1 227 = .ok (.bipush (100), 2) := by decide +kernel
theorem d_M_init_229 : decode me_M_init.2.1 229 = .ok (.newarray .int, 2) := by decide +kernel
theorem n_M_init_229 : bm_na me_M_init 229 0 .int := ⟨_, d_M_init_229, rfl, ac_int, rfl, by decide⟩
theorem d_M_init_231 : decode me_M_init.2.1 231 = .ok (.putfield 92, 3) := by decide +kernel
theorem p_M_init_231 : bm_pf me_M_init 231 11 33 (.array .int) := ⟨_, _, _, _, ty_M, d_M_init_231, rfl, by decide, uw_M, fl_M_92, tk_M, nm_M, rfl, Or.inr ⟨rfl, rfl, rfl⟩⟩
theorem d_M_init_234 : decode me_M_init.2.1 234 = .ok (.aload_n 0, 1) := by decide +kernel
theorem d_M_init_235 : decode me_M_init.2.1 235 = .ok (.bipush (100), 2) := by decide +kernel
theorem d_M_init_237 : decode me_M_init.2.1 237 = .ok (.newarray .int, 2) := by decide +kernel
theorem n_M_init_237 : bm_na me_M_init 237 0 .int := ⟨_, d_M_init_237, rfl, ac_int, rfl, by decide⟩
theorem d_M_init_239 : decode me_M_init.2.1 239 = .ok (.putfield 95, 3) := by decide +kernel
theorem p_M_init_239 : bm_pf me_M_init 239 11 34 (.array .int) := ⟨_, _, _, _, ty_M, d_M_init_239, rfl, by decide, uw_M, fl_M_95, tk_M, nm_M, rfl, Or.inr ⟨rfl, rfl, rfl⟩⟩
theorem d_M_init_242 : decode me_M_init.2.1 242 = .ok (.aload_n 0, 1) := by decide +kernel
theorem d_M_init_243 : decode me_M_init.2.1 243 = .ok (.bipush (101), 2) := by decide +kernel
theorem d_M_init_245 : decode me_M_init.2.1 245 = .ok (.newarray .int, 2) := by decide +kernel
theorem n_M_init_245 : bm_na me_M_init 245 0 .int := ⟨_, d_M_init_245, rfl, ac_int, rfl, by decide⟩
theorem d_M_init_247 : decode me_M_init.2.1 247 = .ok (.putfield 98, 3) := by decide +kernel
theorem p_M_init_247 : bm_pf me_M_init 247 11 35 (.array .int) := ⟨_, _, _, _, ty_M, d_M_init_247, rfl, by decide, uw_M, fl_M_98, tk_M, nm_M, rfl, Or.inr ⟨rfl, rfl, rfl⟩⟩
theorem d_M_init_250 : decode me_M_init.2.1 250 = .ok (.aload_n 0, 1) := by decide +kernel
theorem d_M_init_251 : decode me_M_init.2.1 251 = .ok (.sipush (5000), 3) := by decide +kernel
theorem d_M_init_254 : decode me_M_init.2.1 254 = .ok (.newarray .int, 2) := by decide +kernel
theorem n_M_init_254 : bm_na me_M_init 254 0 .int := ⟨_, d_M_init_254, rfl, ac_int, rfl, by decide⟩
theorem d_M_init_256 : decode me_M_init.2.1 256 = .ok (.putfield 101, 3) := by decide +kernel
theorem p_M_init_256 : bm_pf me_M_init 256 11 36 (.array .int) := ⟨_, _, _, _, ty_M, d_M_init_256, rfl, by decide, uw_M, fl_M_101, tk_M, nm_M, rfl, Or.inr ⟨rfl, rfl, rfl⟩⟩
theorem d_M_init_259 : decode me_M_init.2.1 259 = .ok (.aload_n 0, 1) := by decide +kernel
theorem d_M_init_260 : decode me_M_init.2.1 260 = .ok (.sipush (5000), 3) := by decide +kernel
theorem d_M_init_263 : decode me_M_init.2.1 263 = .ok (.newarray .int, 2) := by decide +kernel
theorem n_M_init_263 : bm_na me_M_init 263 0 .int := ⟨_, d_M_init_263, rfl, ac_int, rfl, by decide⟩
theorem d_M_init_265 : decode me_M_init.2.1 265 = .ok (.putfield 104, 3) := by decide +kernel
theorem p_M_init_265 : bm_pf me_M_init 265 11 37 (.array .int) := ⟨_, _, _, _, ty_M, d_M_init_265, rfl, by decide, uw_M, fl_M_104, tk_M, nm_M, rfl, Or.inr ⟨rfl, rfl, rfl⟩⟩
theorem d_M_init_268 : decode me_M_init.2.1 268 = .ok (.aload_n 0, 1) := by decide +kernel
theorem d_M_init_269 : decode me_M_init.2.1 269 = .ok (.bipush (100), 2) := by decide +kernel
theorem d_M_init_271 : decode me_M_init.2.1 271 = .ok (.newarray .int, 2) := by decide +kernel
theorem n_M_init_271 : bm_na me_M_init 271 0 .int := ⟨_, d_M_init_271, rfl, ac_int, rfl, by decide⟩
theorem d_M_init_273 : decode me_M_init.2.1 273 = .ok (.putfield 107, 3) := by decide +kernel
theorem p_M_init_273 : bm_pf me_M_init 273 11 38 (.array .int) := ⟨_, _, _, _, ty_M, d_M_init_273, rfl, by decide, uw_M, fl_M_107, tk_M, nm_M, rfl, Or.inr ⟨rfl, rfl, rfl⟩⟩
theorem d_M_init_276 : decode me_M_init.2.1 276 = .ok (.aload_n 0, 1) := by decide +kernel
theorem d_M_init_277 : decode me_M_init.2.1 277 = .ok (.bipush (100), 2) := by decide +kernel
theorem d_M_init_279 : decode me_M_init.2.1 279 = .ok (.newarray .int, 2) := by decide +kernel
theorem n_M_init_279 : bm_na me_M_init 279 0 .int := ⟨_, d_M_init_279, rfl, ac_int, rfl, by decide⟩
theorem d_M_init_281 : decode me_M_init.2.1 281 = .ok (.putfield 110, 3) := by decide +kernel
theorem p_M_init_281 : bm_pf me_M_init 281 11 39 (.array .int) := ⟨_, _, _, _, ty_M, d_M_init_281, rfl, by decide, uw_M, fl_M_110, tk_M, nm_M, rfl, Or.inr ⟨rfl, rfl, rfl⟩⟩
theorem d_M_init_284 : decode me_M_init.2.1 284 = .ok (.aload_n 0, 1) := by decide +kernel
theorem d_M_init_285 : decode me_M_init.2.1 285 = .ok (.bipush (100), 2) := by decide +kernel
theorem d_M_init_287 : decode me_M_init.2.1 287 = .ok (.newarray .boolean, 2) := by decide +kernel
theorem n_M_init_287 : bm_na me_M_init 287 1 .boolean := ⟨_, d_M_init_287, rfl, ac_boolean, rfl, by decide⟩
theorem d_M_init_289 : decode me_M_init.2.1 289 = .ok (.putfield 113, 3) := by decide +kernel
theorem p_M_init_289 : bm_pf me_M_init 289 11 40 (.array .boolean) := ⟨_, _, _, _, ty_M, d_M_init_289, rfl, by decide, uw_M, fl_M_113, tk_M, nm_M, rfl, Or.inr ⟨rfl, rfl, rfl⟩⟩
theorem d_M_init_292 : decode me_M_init.2.1 292 = .ok (.aload_n 0, 1) := by decide +kernel
theorem d_M_init_293 : decode me_M_init.2.1 293 = .ok (.bipush (12), 2) := by decide +kernel
theorem d_M_init_295 : decode me_M_init.2.1 295 = .ok (.newarray .int, 2) := by decide +kernel
theorem n_M_init_295 : bm_na me_M_init 295 0 .int := ⟨_, d_M_init_295, rfl, ac_int, rfl, by decide⟩
theorem d_M_init_297 : decode me_M_init.2.1 297 = .ok (.putfield 116, 3) := by decide +kernel
theorem p_M_init_297 : bm_pf me_M_init 297 11 41 (.array .int) := ⟨_, _, _, _, ty_M, d_M_init_297, rfl, by decide, uw_M, fl_M_116, tk_M, nm_M, rfl, Or.inr ⟨rfl, rfl, rfl⟩⟩
theorem d_M_init_300 : decode me_M_init.2.1 300 = .ok (.aload_n 0, 1) := by decide +kernel
theorem d_M_init_301 : decode me_M_init.2.1 301 = .ok (.bipush (12), 2) := by decide +kernel
theorem d_M_init_303 : decode me_M_init.2.1 303 = .ok (.newarray .int, 2) := by decide +kernel
theorem n_M_init_303 : bm_na me_M_init 303 0 .int := ⟨_, d_M_init_303, rfl, ac_int, rfl, by decide⟩
theorem d_M_init_305 : decode me_M_init.2.1 305 = .ok (.putfield 119, 3) := by decide +kernel
theorem p_M_init_305 : bm_pf me_M_init 305 11 42 (.array .int) := ⟨_, _, _, _, ty_M, d_M_init_305, rfl, by decide, uw_M, fl_M_119, tk_M, nm_M, rfl, Or.inr ⟨rfl, rfl, rfl⟩⟩
theorem d_M_init_308 : decode me_M_init.2.1 308 = .ok (.aload_n 0, 1) := by decide +kernel
theorem d_M_init_309 : decode me_M_init.2.1 309 = .ok (.bipush (12), 2) := by decide +kernel
theorem d_M_init_311 : decode me_M_init.2.1 311 = .ok (.newarray .int, 2) := by decide +kernel
theorem n_M_init_311 : bm_na me_M_init 311 0 .int := ⟨_, d_M_init_311, rfl, ac_int, rfl, by decide⟩
theorem d_M_init_313 : decode me_M_init.2.1 313 = .ok (.putfield 122, 3) := by decide +kernel
theorem p_M_init_313 : bm_pf me_M_init 313 11 43 (.array .int) := ⟨_, _, _, _, ty_M, d_M_init_313, rfl, by decide, uw_M, fl_M_122, tk_M, nm_M, rfl, Or.inr ⟨rfl, rfl, rfl⟩⟩
theorem d_M_init_316 : decode me_M_init.2.1 316 = .ok (.aload_n 0, 1) := by decide +kernel
theorem d_M_init_317 : decode me_M_init.2.1 317 = .ok (.bipush (12), 2) := by decide +kernel
theorem d_M_init_319 : decode me_M_init.2.1 319 = .ok (.newarray .int, 2) := by decide +kernel
theorem n_M_init_319 : bm_na me_M_init 319 0 .int := ⟨_, d_M_init_319, rfl, ac_int, rfl, by decide⟩
theorem d_M_init_321 : decode me_M_init.2.1 321 = .ok (.putfield 125, 3) := by decide +kernel
theorem p_M_init_321 : bm_pf me_M_init 321 11 44 (.array .int) := ⟨_, _, _, _, ty_M, d_M_init_321, rfl, by decide, uw_M, fl_M_125, tk_M, nm_M, rfl, Or.inr ⟨rfl, rfl, rfl⟩⟩
theorem d_M_init_324 : decode me_M_init.2.1 324 = .ok (.aload_n 0, 1) := by decide +kernel
theorem d_M_init_325 : decode me_M_init.2.1 325 = .ok (.bipush (12), 2) := by decide +kernel
theorem d_M_init_327 : decode me_M_init.2.1 327 = .ok (.newarray .int, 2) := by decide +kernel
theorem n_M_init_327 : bm_na me_M_init 327 0 .int := ⟨_, d_M_init_327, rfl, ac_int, rfl, by decide⟩
theorem d_M_init_329 : decode me_M_init.2.1 329 = .ok (.putfield 128, 3) := by decide +kernel
theorem p_M_init_329 : bm_pf me_M_init 329 11 45 (.array .int) := ⟨_, _, _, _, ty_M, d_M_init_329, rfl, by decide, uw_M, fl_M_128, tk_M, nm_M, rfl, Or.inr ⟨rfl, rfl, rfl⟩⟩
theorem d_M_init_332 : decode me_M_init.2.1 332 = .ok (.aload_n 0, 1) := by decide +kernel
theorem d_M_init_333 : decode me_M_init.2.1 333 = .ok (.bipush (12), 2) := by decide +kernel
theorem d_M_init_335 : decode me_M_init.2.1 335 = .ok (.newarray .int, 2) := by decide +kernel
theorem n_M_init_335 : bm_na me_M_init 335 0 .int := ⟨_, d_M_init_335, rfl, ac_int, rfl, by decide⟩
theorem d_M_init_337 : decode me_M_init.2.1 337 = .ok (.putfield 131, 3) := by decide +kernel
theorem p_M_init_337 : bm_pf me_M_init 337 11 46 (.array .int) := ⟨_, _, _, _, ty_M, d_M_init_337, rfl, by decide, uw_M, fl_M_131, tk_M, nm_M, rfl, Or.inr ⟨rfl, rfl, rfl⟩⟩
theorem d_M_init_340 : decode me_M_init.2.1 340 = .ok (.aload_n 0, 1) := by decide +kernel
theorem d_M_init_341 : decode me_M_init.2.1 341 = .ok (.bipush (12), 2) := by decide +kernel
theorem d_M_init_343 : decode me_M_init.2.1 343 = .ok (.newarray .boolean, 2) := by decide +kernel
theorem n_M_init_343 : bm_na me_M_init 343 1 .boolean := ⟨_, d_M_init_343, rfl, ac_boolean, rfl, by decide⟩
theorem d_M_init_345 : decode me_M_init.2.1 345 = .ok (.putfield 134, 3) := by decide +kernel
theorem p_M_init_345 : bm_pf me_M_init 345 11 47 (.array .boolean) := ⟨_, _, _, _, ty_M, d_M_init_345, rfl, by decide, uw_M, fl_M_134, tk_M, nm_M, rfl, Or.inr ⟨rfl, rfl, rfl⟩⟩
theorem d_M_init_348 : decode me_M_init.2.1 348 = .ok (.iconst 0, 1) := by decide +kernel
theorem d_M_init_349 : decode me_M_init.2.1 349 = .ok (.istore_n 1, 1) := by decide +kernel
theorem d_M_init_350 : decode me_M_init.2.1 350 = .ok (.iload_n 1, 1) := by decide +kernel
theorem d_M_init_351 : decode me_M_init.2.1 351 = .ok (.bipush (6), 2) := by decide +kernel
theorem d_M_init_353 : decode me_M_init.2.1 353 = .ok (.if_icmp .ge (16), 3) := by decide +kernel
theorem d_M_init_356 : decode me_M_init.2.1 356 = .ok (.aload_n 0, 1) := by decide +kernel
theorem d_M_init_357 : decode me_M_init.2.1 357 = .ok (.getfield 13, 3) := by decide +kernel
theorem g_M_init_357 : bm_gf me_M_init 357 11 2 := ⟨_, _, _, _, d_M_init_357, rfl, by decide, uw_M, fl_M_13⟩
theorem d_M_init_360 : decode me_M_init.2.1 360 = .ok (.iload_n 1, 1) := by decide +kernel
theorem d_M_init_361 : decode me_M_init.2.1 361 = .ok (.iconst (-1), 1) := by decide +kernel
theorem d_M_init_362 : decode me_M_init.2.1 362 = .ok (.iastore, 1) := by decide +kernel
theorem d_M_init_363 : decode me_M_init.2.1 363 = .ok (.iinc 1 (1), 3) := by decide +kernel
theorem d_M_init_366 : decode me_M_init.2.1 366 = .ok (.goto (-16), 3) := by decide +kernel
theorem d_M_init_369 : decode me_M_init.2.1 369 = .ok (.iconst 0, 1) := by decide +kernel
theorem d_M_init_370 : decode me_M_init.2.1 370 = .ok (.istore_n 1, 1) := by decide +kernel
theorem d_M_init_371 : decode me_M_init.2.1 371 = .ok (.iload_n 1, 1) := by decide +kernel
theorem d_M_init_372 : decode me_M_init.2.1 372 = .ok (.bipush (12), 2) := by decide +kernel
theorem d_M_init_374 : decode me_M_init.2.1 374 = .ok (.if_icmp .ge (16), 3) := by decide +kernel
theorem d_M_init_377 : decode me_M_init.2.1 377 = .ok (.aload_n 0, 1) := by decide +kernel
theorem d_M_init_378 : decode me_M_init.2.1 378 = .ok (.getfield 25, 3) := by decide +kernel
theorem g_M_init_378 : bm_gf me_M_init 378 11 6 := ⟨_, _, _, _, d_M_init_378, rfl, by decide, uw_M, fl_M_25⟩
theorem d_M_init_381 : decode me_M_init.2.1 381 = .ok (.iload_n 1, 1) := by decide +kernel
theorem d_M_init_382 : decode me_M_init.2.1 382 = .ok (.iconst 3, 1) := by decide +kernel
theorem d_M_init_383 : decode me_M_init.2.1 383 = .ok (.iastore, 1) := by decide +kernel
theorem d_M_init_384 : decode me_M_init.2.1 384 = .ok (.iinc 1 (1), 3) := by decide +kernel
theorem d_M_init_387 : decode me_M_init.2.1 387 = .ok (.goto (-16), 3) := by decide +kernel
theorem d_M_init_390 : decode me_M_init.2.1 390 = .ok (.iconst 0, 1) := by decide +kernel
theorem d_M_init_391 : decode me_M_init.2.1 391 = .ok (.istore_n 1, 1) := by decide +kernel
theorem d_M_init_392 : decode me_M_init.2.1 392 = .ok (.iload_n 1, 1) := by decide +kernel
theorem d_M_init_393 : decode me_M_init.2.1 393 = .ok (.bipush (48), 2) := by decide +kernel
theorem d_M_init_395 : decode me_M_init.2.1 395 = .ok (.if_icmp .ge (16), 3) := by decide +kernel
theorem d_M_init_398 : decode me_M_init.2.1 398 = .ok (.aload_n 0, 1) := by decide +kernel
theorem d_M_init_399 : decode me_M_init.2.1 399 = .ok (.getfield 71, 3) := by decide +kernel
theorem g_M_init_399 : bm_gf me_M_init 399 11 22 := ⟨_, _, _, _, d_M_init_399, rfl, by decide, uw_M, fl_M_71⟩
theorem d_M_init_402 : decode me_M_init.2.1 402 = .ok (.iload_n 1, 1) := by decide +kernel
theorem d_M_init_403 : decode me_M_init.2.1 403 = .ok (.iconst (-1), 1) := by decide +kernel
theorem d_M_init_404 : decode me_M_init.2.1 404 = .ok (.iastore, 1) := by decide +kernel
theorem d_M_init_405 : decode me_M_init.2.1 405 = .ok (.iinc 1 (1), 3) := by decide +kernel
theorem d_M_init_408 : decode me_M_init.2.1 408 = .ok (.goto (-16), 3) := by decide +kernel
theorem d_M_init_411 : decode me_M_init.2.1 411 = .ok (.return_, 1) := by decide +kernel
theorem d_M_thrown_0 : decode me_M_thrown.2.1 0 = .ok (.aload_n 0, 1) := by decide +kernel
theorem d_M_thrown_1 : decode me_M_thrown.2.1 1 = .ok (.getfield 137, 3) := by decide +kernel
theorem g_M_thrown_1 : bm_gf me_M_thrown 1 11 0 := ⟨_, _, _, _, d_M_thrown_1, rfl, by decide, uw_M, fl_M_137⟩
theorem d_M_thrown_4 : decode me_M_thrown.2.1 4 = .ok (.ireturn, 1) := by decide +kernel
theorem d_M_unit_0 : decode me_M_unit.2.1 0 = .ok (.aload_n 0, 1) := by decide +kernel
theorem d_M_unit_1 : decode me_M_unit.2.1 1 = .ok (.iconst 0, 1) := by decide +kernel
theorem d_M_unit_2 : decode me_M_unit.2.1 2 = .ok (.putfield 137, 3) := by decide +kernel
theorem p_M_unit_2 : bm_pf me_M_unit 2 11 0 .int := ⟨_, _, _, _, ty_M, d_M_unit_2, rfl, by decide, uw_M, fl_M_137, tk_M, nm_M, rfl, Or.inl rfl⟩
theorem d_M_unit_5 : decode me_M_unit.2.1 5 = .ok (.iload_n 1, 1) := by decide +kernel
theorem d_M_unit_6 : decode me_M_unit.2.1 6 = .ok (.iconst 0, 1) := by decide +kernel
theorem d_M_unit_7 : decode me_M_unit.2.1 7 = .ok (.iconst 5, 1) := by decide +kernel
theorem d_M_unit_8 : decode me_M_unit.2.1 8 = .ok (.invokestatic 141, 3) := by decide +kernel
theorem c_M_unit_8 : bm_is me_M_unit me_M_in 8 3 := ⟨_, d_M_unit_8, Or.inl ml_M_141, ⟨kc_M_in, in_BatchHallModel, by decide +kernel, by decide, by decide⟩, kt_M_in⟩
theorem d_M_unit_11 : decode me_M_unit.2.1 11 = .ok (.ifCond .eq (22), 3) := by decide +kernel
theorem d_M_unit_14 : decode me_M_unit.2.1 14 = .ok (.iload_n 2, 1) := by decide +kernel
theorem d_M_unit_15 : decode me_M_unit.2.1 15 = .ok (.iconst 0, 1) := by decide +kernel
theorem d_M_unit_16 : decode me_M_unit.2.1 16 = .ok (.iconst 2, 1) := by decide +kernel
theorem d_M_unit_17 : decode me_M_unit.2.1 17 = .ok (.invokestatic 141, 3) := by decide +kernel
theorem c_M_unit_17 : bm_is me_M_unit me_M_in 17 3 := ⟨_, d_M_unit_17, Or.inl ml_M_141, ⟨kc_M_in, in_BatchHallModel, by decide +kernel, by decide, by decide⟩, kt_M_in⟩
theorem d_M_unit_20 : decode me_M_unit.2.1 20 = .ok (.ifCond .eq (13), 3) := by decide +kernel
theorem d_M_unit_23 : decode me_M_unit.2.1 23 = .ok (.aload_n 0, 1) := by decide +kernel
theorem d_M_unit_24 : decode me_M_unit.2.1 24 = .ok (.getfield 13, 3) := by decide +kernel
theorem g_M_unit_24 : bm_gf me_M_unit 24 11 2 := ⟨_, _, _, _, d_M_unit_24, rfl, by decide, uw_M, fl_M_13⟩
theorem d_M_unit_27 : decode me_M_unit.2.1 27 = .ok (.iload_n 1, 1) := by decide +kernel
theorem d_M_unit_28 : decode me_M_unit.2.1 28 = .ok (.iaload, 1) := by decide +kernel
theorem d_M_unit_29 : decode me_M_unit.2.1 29 = .ok (.iconst (-1), 1) := by decide +kernel
theorem d_M_unit_30 : decode me_M_unit.2.1 30 = .ok (.if_icmp .eq (5), 3) := by decide +kernel
theorem d_M_unit_33 : decode me_M_unit.2.1 33 = .ok (.iconst 0, 1) := by decide +kernel
theorem d_M_unit_34 : decode me_M_unit.2.1 34 = .ok (.ireturn, 1) := by decide +kernel
theorem d_M_unit_35 : decode me_M_unit.2.1 35 = .ok (.aload_n 0, 1) := by decide +kernel
theorem d_M_unit_36 : decode me_M_unit.2.1 36 = .ok (.getfield 7, 3) := by decide +kernel
theorem g_M_unit_36 : bm_gf me_M_unit 36 11 1 := ⟨_, _, _, _, d_M_unit_36, rfl, by decide, uw_M, fl_M_7⟩
theorem d_M_unit_39 : decode me_M_unit.2.1 39 = .ok (.iload_n 1, 1) := by decide +kernel
theorem d_M_unit_40 : decode me_M_unit.2.1 40 = .ok (.iload_n 2, 1) := by decide +kernel
theorem d_M_unit_41 : decode me_M_unit.2.1 41 = .ok (.iastore, 1) := by decide +kernel
theorem d_M_unit_42 : decode me_M_unit.2.1 42 = .ok (.iconst 1, 1) := by decide +kernel
theorem d_M_unit_43 : decode me_M_unit.2.1 43 = .ok (.ireturn, 1) := by decide +kernel
theorem d_M_in_0 : decode me_M_in.2.1 0 = .ok (.iload_n 0, 1) := by decide +kernel
theorem d_M_in_1 : decode me_M_in.2.1 1 = .ok (.iload_n 1, 1) := by decide +kernel
theorem d_M_in_2 : decode me_M_in.2.1 2 = .ok (.if_icmp .lt (12), 3) := by decide +kernel
theorem d_M_in_5 : decode me_M_in.2.1 5 = .ok (.iload_n 0, 1) := by decide +kernel
theorem d_M_in_6 : decode me_M_in.2.1 6 = .ok (.iload_n 2, 1) := by decide +kernel
theorem d_M_in_7 : decode me_M_in.2.1 7 = .ok (.if_icmp .gt (7), 3) := by decide +kernel
theorem d_M_in_10 : decode me_M_in.2.1 10 = .ok (.iconst 1, 1) := by decide +kernel
theorem d_M_in_11 : decode me_M_in.2.1 11 = .ok (.goto (4), 3) := by decide +kernel
theorem d_M_in_14 : decode me_M_in.2.1 14 = .ok (.iconst 0, 1) := by decide +kernel
theorem d_M_in_15 : decode me_M_in.2.1 15 = .ok (.ireturn, 1) := by decide +kernel
theorem d_M_role_0 : decode me_M_role.2.1 0 = .ok (.aload_n 0, 1) := by decide +kernel
theorem d_M_role_1 : decode me_M_role.2.1 1 = .ok (.iconst 0, 1) := by decide +kernel
theorem d_M_role_2 : decode me_M_role.2.1 2 = .ok (.putfield 137, 3) := by decide +kernel
theorem p_M_role_2 : bm_pf me_M_role 2 11 0 .int := ⟨_, _, _, _, ty_M, d_M_role_2, rfl, by decide, uw_M, fl_M_137, tk_M, nm_M, rfl, Or.inl rfl⟩
theorem d_M_role_5 : decode me_M_role.2.1 5 = .ok (.aload_n 0, 1) := by decide +kernel
theorem d_M_role_6 : decode me_M_role.2.1 6 = .ok (.iload_n 1, 1) := by decide +kernel
theorem d_M_role_7 : decode me_M_role.2.1 7 = .ok (.invokevirtual 145, 3) := by decide +kernel
theorem c_M_role_7 : bm_iv me_M_role me_M_isOpen 7 11 1 := ⟨_, d_M_role_7, Or.inl ml_M_145, ⟨kc_M_isOpen, in_BatchHallModel, by decide +kernel, by decide, by decide⟩, ki_M_isOpen, ks_M_isOpen, _, _, rfl⟩
theorem d_M_role_10 : decode me_M_role.2.1 10 = .ok (.ifCond .eq (21), 3) := by decide +kernel
theorem d_M_role_13 : decode me_M_role.2.1 13 = .ok (.iload_n 2, 1) := by decide +kernel
theorem d_M_role_14 : decode me_M_role.2.1 14 = .ok (.iconst 0, 1) := by decide +kernel
theorem d_M_role_15 : decode me_M_role.2.1 15 = .ok (.iconst 2, 1) := by decide +kernel
theorem d_M_role_16 : decode me_M_role.2.1 16 = .ok (.invokestatic 141, 3) := by decide +kernel
theorem c_M_role_16 : bm_is me_M_role me_M_in 16 3 := ⟨_, d_M_role_16, Or.inl ml_M_141, ⟨kc_M_in, in_BatchHallModel, by decide +kernel, by decide, by decide⟩, kt_M_in⟩
theorem d_M_role_19 : decode me_M_role.2.1 19 = .ok (.ifCond .eq (12), 3) := by decide +kernel
theorem d_M_role_22 : decode me_M_role.2.1 22 = .ok (.iload_n 3, 1) := by decide +kernel
theorem d_M_role_23 : decode me_M_role.2.1 23 = .ok (.iconst 0, 1) := by decide +kernel
theorem d_M_role_24 : decode me_M_role.2.1 24 = .ok (.iconst 3, 1) := by decide +kernel
theorem d_M_role_25 : decode me_M_role.2.1 25 = .ok (.invokestatic 141, 3) := by decide +kernel
theorem c_M_role_25 : bm_is me_M_role me_M_in 25 3 := ⟨_, d_M_role_25, Or.inl ml_M_141, ⟨kc_M_in, in_BatchHallModel, by decide +kernel, by decide, by decide⟩, kt_M_in⟩
theorem d_M_role_28 : decode me_M_role.2.1 28 = .ok (.ifCond .ne (5), 3) := by decide +kernel
theorem d_M_role_31 : decode me_M_role.2.1 31 = .ok (.iconst 0, 1) := by decide +kernel
theorem d_M_role_32 : decode me_M_role.2.1 32 = .ok (.ireturn, 1) := by decide +kernel
theorem d_M_role_33 : decode me_M_role.2.1 33 = .ok (.aload_n 0, 1) := by decide +kernel
theorem d_M_role_34 : decode me_M_role.2.1 34 = .ok (.getfield 25, 3) := by decide +kernel
theorem g_M_role_34 : bm_gf me_M_role 34 11 6 := ⟨_, _, _, _, d_M_role_34, rfl, by decide, uw_M, fl_M_25⟩
theorem d_M_role_37 : decode me_M_role.2.1 37 = .ok (.iconst 3, 1) := by decide +kernel
theorem d_M_role_38 : decode me_M_role.2.1 38 = .ok (.iload_n 1, 1) := by decide +kernel
theorem d_M_role_39 : decode me_M_role.2.1 39 = .ok (.imul, 1) := by decide +kernel
theorem d_M_role_40 : decode me_M_role.2.1 40 = .ok (.iload_n 2, 1) := by decide +kernel
theorem d_M_role_41 : decode me_M_role.2.1 41 = .ok (.iadd, 1) := by decide +kernel
theorem d_M_role_42 : decode me_M_role.2.1 42 = .ok (.iload_n 3, 1) := by decide +kernel
theorem d_M_role_43 : decode me_M_role.2.1 43 = .ok (.iastore, 1) := by decide +kernel
theorem d_M_role_44 : decode me_M_role.2.1 44 = .ok (.iconst 1, 1) := by decide +kernel
theorem d_M_role_45 : decode me_M_role.2.1 45 = .ok (.ireturn, 1) := by decide +kernel
theorem d_M_isOpen_0 : decode me_M_isOpen.2.1 0 = .ok (.iload_n 1, 1) := by decide +kernel
theorem d_M_isOpen_1 : decode me_M_isOpen.2.1 1 = .ok (.iconst 0, 1) := by decide +kernel
theorem d_M_isOpen_2 : decode me_M_isOpen.2.1 2 = .ok (.iconst 3, 1) := by decide +kernel
theorem d_M_isOpen_3 : decode me_M_isOpen.2.1 3 = .ok (.invokestatic 141, 3) := by decide +kernel
theorem c_M_isOpen_3 : bm_is me_M_isOpen me_M_in 3 3 := ⟨_, d_M_isOpen_3, Or.inl ml_M_141, ⟨kc_M_in, in_BatchHallModel, by decide +kernel, by decide, by decide⟩, kt_M_in⟩
theorem d_M_isOpen_6 : decode me_M_isOpen.2.1 6 = .ok (.ifCond .eq (16), 3) := by decide +kernel
theorem d_M_isOpen_9 : decode me_M_isOpen.2.1 9 = .ok (.aload_n 0, 1) := by decide +kernel
theorem d_M_isOpen_10 : decode me_M_isOpen.2.1 10 = .ok (.getfield 31, 3) := by decide +kernel
theorem g_M_isOpen_10 : bm_gf me_M_isOpen 10 11 8 := ⟨_, _, _, _, d_M_isOpen_10, rfl, by decide, uw_M, fl_M_31⟩
theorem d_M_isOpen_13 : decode me_M_isOpen.2.1 13 = .ok (.iload_n 1, 1) := by decide +kernel
theorem d_M_isOpen_14 : decode me_M_isOpen.2.1 14 = .ok (.baload, 1) := by decide +kernel
theorem d_M_isOpen_15 : decode me_M_isOpen.2.1 15 = .ok (.ifCond .ne (7), 3) := by decide +kernel
theorem d_M_isOpen_18 : decode me_M_isOpen.2.1 18 = .ok (.iconst 1, 1) := by decide +kernel
theorem d_M_isOpen_19 : decode me_M_isOpen.2.1 19 = .ok (.goto (4), 3) := by decide +kernel
theorem d_M_isOpen_22 : decode me_M_isOpen.2.1 22 = .ok (.iconst 0, 1) := by decide +kernel
theorem d_M_isOpen_23 : decode me_M_isOpen.2.1 23 = .ok (.ireturn, 1) := by decide +kernel
theorem d_M_step_0 : decode me_M_step.2.1 0 = .ok (.aload_n 0, 1) := by decide +kernel
theorem d_M_step_1 : decode me_M_step.2.1 1 = .ok (.iconst 0, 1) := by decide +kernel
theorem d_M_step_2 : decode me_M_step.2.1 2 = .ok (.putfield 137, 3) := by decide +kernel
theorem p_M_step_2 : bm_pf me_M_step 2 11 0 .int := ⟨_, _, _, _, ty_M, d_M_step_2, rfl, by decide, uw_M, fl_M_137, tk_M, nm_M, rfl, Or.inl rfl⟩
theorem d_M_step_5 : decode me_M_step.2.1 5 = .ok (.aload_n 0, 1) := by decide +kernel
theorem d_M_step_6 : decode me_M_step.2.1 6 = .ok (.iload_n 1, 1) := by decide +kernel
theorem d_M_step_7 : decode me_M_step.2.1 7 = .ok (.invokevirtual 145, 3) := by decide +kernel
theorem c_M_step_7 : bm_iv me_M_step me_M_isOpen 7 11 1 := ⟨_, d_M_step_7, Or.inl ml_M_145, ⟨kc_M_isOpen, in_BatchHallModel, by decide +kernel, by decide, by decide⟩, ki_M_isOpen, ks_M_isOpen, _, _, rfl⟩
theorem d_M_step_10 : decode me_M_step.2.1 10 = .ok (.ifCond .eq (24), 3) := by decide +kernel
theorem d_M_step_13 : decode me_M_step.2.1 13 = .ok (.iload_n 2, 1) := by decide +kernel
theorem d_M_step_14 : decode me_M_step.2.1 14 = .ok (.iconst 0, 1) := by decide +kernel
theorem d_M_step_15 : decode me_M_step.2.1 15 = .ok (.bipush (9), 2) := by decide +kernel
theorem d_M_step_17 : decode me_M_step.2.1 17 = .ok (.invokestatic 141, 3) := by decide +kernel
theorem c_M_step_17 : bm_is me_M_step me_M_in 17 3 := ⟨_, d_M_step_17, Or.inl ml_M_141, ⟨kc_M_in, in_BatchHallModel, by decide +kernel, by decide, by decide⟩, kt_M_in⟩
theorem d_M_step_20 : decode me_M_step.2.1 20 = .ok (.ifCond .eq (14), 3) := by decide +kernel
theorem d_M_step_23 : decode me_M_step.2.1 23 = .ok (.aload_n 0, 1) := by decide +kernel
theorem d_M_step_24 : decode me_M_step.2.1 24 = .ok (.getfield 28, 3) := by decide +kernel
theorem g_M_step_24 : bm_gf me_M_step 24 11 7 := ⟨_, _, _, _, d_M_step_24, rfl, by decide, uw_M, fl_M_28⟩
theorem d_M_step_27 : decode me_M_step.2.1 27 = .ok (.iload_n 1, 1) := by decide +kernel
theorem d_M_step_28 : decode me_M_step.2.1 28 = .ok (.iaload, 1) := by decide +kernel
theorem d_M_step_29 : decode me_M_step.2.1 29 = .ok (.bipush (12), 2) := by decide +kernel
theorem d_M_step_31 : decode me_M_step.2.1 31 = .ok (.if_icmp .ne (5), 3) := by decide +kernel
theorem d_M_step_34 : decode me_M_step.2.1 34 = .ok (.iconst (-1), 1) := by decide +kernel
theorem d_M_step_35 : decode me_M_step.2.1 35 = .ok (.ireturn, 1) := by decide +kernel
theorem d_M_step_36 : decode me_M_step.2.1 36 = .ok (.bipush (12), 2) := by decide +kernel
theorem d_M_step_38 : decode me_M_step.2.1 38 = .ok (.iload_n 1, 1) := by decide +kernel
theorem d_M_step_39 : decode me_M_step.2.1 39 = .ok (.imul, 1) := by decide +kernel
theorem d_M_step_40 : decode me_M_step.2.1 40 = .ok (.aload_n 0, 1) := by decide +kernel
theorem d_M_step_41 : decode me_M_step.2.1 41 = .ok (.getfield 28, 3) := by decide +kernel
theorem g_M_step_41 : bm_gf me_M_step 41 11 7 := ⟨_, _, _, _, d_M_step_41, rfl, by decide, uw_M, fl_M_28⟩
theorem d_M_step_44 : decode me_M_step.2.1 44 = .ok (.iload_n 1, 1) := by decide +kernel
theorem d_M_step_45 : decode me_M_step.2.1 45 = .ok (.iaload, 1) := by decide +kernel
theorem d_M_step_46 : decode me_M_step.2.1 46 = .ok (.iadd, 1) := by decide +kernel
theorem d_M_step_47 : decode me_M_step.2.1 47 = .ok (.istore 6, 2) := by decide +kernel
theorem d_M_step_49 : decode me_M_step.2.1 49 = .ok (.aload_n 0, 1) := by decide +kernel
theorem d_M_step_50 : decode me_M_step.2.1 50 = .ok (.getfield 35, 3) := by decide +kernel
theorem g_M_step_50 : bm_gf me_M_step 50 11 9 := ⟨_, _, _, _, d_M_step_50, rfl, by decide, uw_M, fl_M_35⟩
theorem d_M_step_53 : decode me_M_step.2.1 53 = .ok (.iload 6, 2) := by decide +kernel
theorem d_M_step_55 : decode me_M_step.2.1 55 = .ok (.iload_n 2, 1) := by decide +kernel
theorem d_M_step_56 : decode me_M_step.2.1 56 = .ok (.iastore, 1) := by decide +kernel
theorem d_M_step_57 : decode me_M_step.2.1 57 = .ok (.aload_n 0, 1) := by decide +kernel
theorem d_M_step_58 : decode me_M_step.2.1 58 = .ok (.getfield 38, 3) := by decide +kernel
theorem g_M_step_58 : bm_gf me_M_step 58 11 10 := ⟨_, _, _, _, d_M_step_58, rfl, by decide, uw_M, fl_M_38⟩
theorem d_M_step_61 : decode me_M_step.2.1 61 = .ok (.iload 6, 2) := by decide +kernel
theorem d_M_step_63 : decode me_M_step.2.1 63 = .ok (.iload_n 3, 1) := by decide +kernel
theorem d_M_step_64 : decode me_M_step.2.1 64 = .ok (.iastore, 1) := by decide +kernel
theorem d_M_step_65 : decode me_M_step.2.1 65 = .ok (.aload_n 0, 1) := by decide +kernel
theorem d_M_step_66 : decode me_M_step.2.1 66 = .ok (.getfield 41, 3) := by decide +kernel
theorem g_M_step_66 : bm_gf me_M_step 66 11 11 := ⟨_, _, _, _, d_M_step_66, rfl, by decide, uw_M, fl_M_41⟩
theorem d_M_step_69 : decode me_M_step.2.1 69 = .ok (.iload 6, 2) := by decide +kernel
theorem d_M_step_71 : decode me_M_step.2.1 71 = .ok (.iload 4, 2) := by decide +kernel
theorem d_M_step_73 : decode me_M_step.2.1 73 = .ok (.iastore, 1) := by decide +kernel
theorem d_M_step_74 : decode me_M_step.2.1 74 = .ok (.aload_n 0, 1) := by decide +kernel
theorem d_M_step_75 : decode me_M_step.2.1 75 = .ok (.getfield 44, 3) := by decide +kernel
theorem g_M_step_75 : bm_gf me_M_step 75 11 12 := ⟨_, _, _, _, d_M_step_75, rfl, by decide, uw_M, fl_M_44⟩
theorem d_M_step_78 : decode me_M_step.2.1 78 = .ok (.iload 6, 2) := by decide +kernel
theorem d_M_step_80 : decode me_M_step.2.1 80 = .ok (.iload 5, 2) := by decide +kernel
theorem d_M_step_82 : decode me_M_step.2.1 82 = .ok (.iastore, 1) := by decide +kernel
theorem d_M_step_83 : decode me_M_step.2.1 83 = .ok (.aload_n 0, 1) := by decide +kernel
theorem d_M_step_84 : decode me_M_step.2.1 84 = .ok (.getfield 47, 3) := by decide +kernel
theorem g_M_step_84 : bm_gf me_M_step 84 11 13 := ⟨_, _, _, _, d_M_step_84, rfl, by decide, uw_M, fl_M_47⟩
theorem d_M_step_87 : decode me_M_step.2.1 87 = .ok (.iload 6, 2) := by decide +kernel
theorem d_M_step_89 : decode me_M_step.2.1 89 = .ok (.iconst (-1), 1) := by decide +kernel
theorem d_M_step_90 : decode me_M_step.2.1 90 = .ok (.iastore, 1) := by decide +kernel
theorem d_M_step_91 : decode me_M_step.2.1 91 = .ok (.aload_n 0, 1) := by decide +kernel
theorem d_M_step_92 : decode me_M_step.2.1 92 = .ok (.getfield 50, 3) := by decide +kernel
theorem g_M_step_92 : bm_gf me_M_step 92 11 14 := ⟨_, _, _, _, d_M_step_92, rfl, by decide, uw_M, fl_M_50⟩
theorem d_M_step_95 : decode me_M_step.2.1 95 = .ok (.iload 6, 2) := by decide +kernel
theorem d_M_step_97 : decode me_M_step.2.1 97 = .ok (.iconst (-1), 1) := by decide +kernel
theorem d_M_step_98 : decode me_M_step.2.1 98 = .ok (.iastore, 1) := by decide +kernel
theorem d_M_step_99 : decode me_M_step.2.1 99 = .ok (.aload_n 0, 1) := by decide +kernel
theorem d_M_step_100 : decode me_M_step.2.1 100 = .ok (.getfield 28, 3) := by decide +kernel
theorem g_M_step_100 : bm_gf me_M_step 100 11 7 := ⟨_, _, _, _, d_M_step_100, rfl, by decide, uw_M, fl_M_28⟩
theorem d_M_step_103 : decode me_M_step.2.1 103 = .ok (.iload_n 1, 1) := by decide +kernel
theorem d_M_step_104 : decode me_M_step.2.1 104 = .ok (.dup2, 1) := by decide +kernel
theorem d_M_step_105 : decode me_M_step.2.1 105 = .ok (.iaload, 1) := by decide +kernel
theorem d_M_step_106 : decode me_M_step.2.1 106 = .ok (.iconst 1, 1) := by decide +kernel
theorem d_M_step_107 : decode me_M_step.2.1 107 = .ok (.iadd, 1) := by decide +kernel
theorem d_M_step_108 : decode me_M_step.2.1 108 = .ok (.iastore, 1) := by decide +kernel
theorem d_M_step_109 : decode me_M_step.2.1 109 = .ok (.aload_n 0, 1) := by decide +kernel
theorem d_M_step_110 : decode me_M_step.2.1 110 = .ok (.getfield 28, 3) := by decide +kernel
theorem g_M_step_110 : bm_gf me_M_step 110 11 7 := ⟨_, _, _, _, d_M_step_110, rfl, by decide, uw_M, fl_M_28⟩
theorem d_M_step_113 : decode me_M_step.2.1 113 = .ok (.iload_n 1, 1) := by decide +kernel
theorem d_M_step_114 : decode me_M_step.2.1 114 = .ok (.iaload, 1) := by decide +kernel
theorem d_M_step_115 : decode me_M_step.2.1 115 = .ok (.iconst 1, 1) := by decide +kernel
theorem d_M_step_116 : decode me_M_step.2.1 116 = .ok (.isub, 1) := by decide +kernel
theorem d_M_step_117 : decode me_M_step.2.1 117 = .ok (.ireturn, 1) := by decide +kernel
theorem d_M_link_0 : decode me_M_link.2.1 0 = .ok (.aload_n 0, 1) := by decide +kernel
theorem d_M_link_1 : decode me_M_link.2.1 1 = .ok (.iconst 0, 1) := by decide +kernel
theorem d_M_link_2 : decode me_M_link.2.1 2 = .ok (.putfield 137, 3) := by decide +kernel
theorem p_M_link_2 : bm_pf me_M_link 2 11 0 .int := ⟨_, _, _, _, ty_M, d_M_link_2, rfl, by decide, uw_M, fl_M_137, tk_M, nm_M, rfl, Or.inl rfl⟩
theorem d_M_link_5 : decode me_M_link.2.1 5 = .ok (.aload_n 0, 1) := by decide +kernel
theorem d_M_link_6 : decode me_M_link.2.1 6 = .ok (.iload_n 1, 1) := by decide +kernel
theorem d_M_link_7 : decode me_M_link.2.1 7 = .ok (.invokevirtual 145, 3) := by decide +kernel
theorem c_M_link_7 : bm_iv me_M_link me_M_isOpen 7 11 1 := ⟨_, d_M_link_7, Or.inl ml_M_145, ⟨kc_M_isOpen, in_BatchHallModel, by decide +kernel, by decide, by decide⟩, ki_M_isOpen, ks_M_isOpen, _, _, rfl⟩
theorem d_M_link_10 : decode me_M_link.2.1 10 = .ok (.ifCond .eq (19), 3) := by decide +kernel
theorem d_M_link_13 : decode me_M_link.2.1 13 = .ok (.iload_n 2, 1) := by decide +kernel
theorem d_M_link_14 : decode me_M_link.2.1 14 = .ok (.iconst 0, 1) := by decide +kernel
theorem d_M_link_15 : decode me_M_link.2.1 15 = .ok (.aload_n 0, 1) := by decide +kernel
theorem d_M_link_16 : decode me_M_link.2.1 16 = .ok (.getfield 28, 3) := by decide +kernel
theorem g_M_link_16 : bm_gf me_M_link 16 11 7 := ⟨_, _, _, _, d_M_link_16, rfl, by decide, uw_M, fl_M_28⟩
theorem d_M_link_19 : decode me_M_link.2.1 19 = .ok (.iload_n 1, 1) := by decide +kernel
theorem d_M_link_20 : decode me_M_link.2.1 20 = .ok (.iaload, 1) := by decide +kernel
theorem d_M_link_21 : decode me_M_link.2.1 21 = .ok (.iconst 1, 1) := by decide +kernel
theorem d_M_link_22 : decode me_M_link.2.1 22 = .ok (.isub, 1) := by decide +kernel
theorem d_M_link_23 : decode me_M_link.2.1 23 = .ok (.invokestatic 141, 3) := by decide +kernel
theorem c_M_link_23 : bm_is me_M_link me_M_in 23 3 := ⟨_, d_M_link_23, Or.inl ml_M_141, ⟨kc_M_in, in_BatchHallModel, by decide +kernel, by decide, by decide⟩, kt_M_in⟩
theorem d_M_link_26 : decode me_M_link.2.1 26 = .ok (.ifCond .ne (5), 3) := by decide +kernel
theorem d_M_link_29 : decode me_M_link.2.1 29 = .ok (.iconst 0, 1) := by decide +kernel
theorem d_M_link_30 : decode me_M_link.2.1 30 = .ok (.ireturn, 1) := by decide +kernel
theorem d_M_link_31 : decode me_M_link.2.1 31 = .ok (.aload_n 0, 1) := by decide +kernel
theorem d_M_link_32 : decode me_M_link.2.1 32 = .ok (.getfield 47, 3) := by decide +kernel
theorem g_M_link_32 : bm_gf me_M_link 32 11 13 := ⟨_, _, _, _, d_M_link_32, rfl, by decide, uw_M, fl_M_47⟩
theorem d_M_link_35 : decode me_M_link.2.1 35 = .ok (.bipush (12), 2) := by decide +kernel
theorem d_M_link_37 : decode me_M_link.2.1 37 = .ok (.iload_n 1, 1) := by decide +kernel
theorem d_M_link_38 : decode me_M_link.2.1 38 = .ok (.imul, 1) := by decide +kernel
theorem d_M_link_39 : decode me_M_link.2.1 39 = .ok (.iload_n 2, 1) := by decide +kernel
theorem d_M_link_40 : decode me_M_link.2.1 40 = .ok (.iadd, 1) := by decide +kernel
theorem d_M_link_41 : decode me_M_link.2.1 41 = .ok (.iload_n 3, 1) := by decide +kernel
theorem d_M_link_42 : decode me_M_link.2.1 42 = .ok (.iastore, 1) := by decide +kernel
theorem d_M_link_43 : decode me_M_link.2.1 43 = .ok (.aload_n 0, 1) := by decide +kernel
theorem d_M_link_44 : decode me_M_link.2.1 44 = .ok (.getfield 50, 3) := by decide +kernel
theorem g_M_link_44 : bm_gf me_M_link 44 11 14 := ⟨_, _, _, _, d_M_link_44, rfl, by decide, uw_M, fl_M_50⟩
theorem d_M_link_47 : decode me_M_link.2.1 47 = .ok (.bipush (12), 2) := by decide +kernel
theorem d_M_link_49 : decode me_M_link.2.1 49 = .ok (.iload_n 1, 1) := by decide +kernel
theorem d_M_link_50 : decode me_M_link.2.1 50 = .ok (.imul, 1) := by decide +kernel
theorem d_M_link_51 : decode me_M_link.2.1 51 = .ok (.iload_n 2, 1) := by decide +kernel
theorem d_M_link_52 : decode me_M_link.2.1 52 = .ok (.iadd, 1) := by decide +kernel
theorem d_M_link_53 : decode me_M_link.2.1 53 = .ok (.iload 4, 2) := by decide +kernel
theorem d_M_link_55 : decode me_M_link.2.1 55 = .ok (.iastore, 1) := by decide +kernel
theorem d_M_link_56 : decode me_M_link.2.1 56 = .ok (.iconst 1, 1) := by decide +kernel
theorem d_M_link_57 : decode me_M_link.2.1 57 = .ok (.ireturn, 1) := by decide +kernel
theorem d_M_release_0 : decode me_M_release.2.1 0 = .ok (.aload_n 0, 1) := by decide +kernel
theorem d_M_release_1 : decode me_M_release.2.1 1 = .ok (.iload_n 1, 1) := by decide +kernel
theorem d_M_release_2 : decode me_M_release.2.1 2 = .ok (.iconst 0, 1) := by decide +kernel
theorem d_M_release_3 : decode me_M_release.2.1 3 = .ok (.iconst 3, 1) := by decide +kernel
theorem d_M_release_4 : decode me_M_release.2.1 4 = .ok (.invokestatic 141, 3) := by decide +kernel
theorem c_M_release_4 : bm_is me_M_release me_M_in 4 3 := ⟨_, d_M_release_4, Or.inl ml_M_141, ⟨kc_M_in, in_BatchHallModel, by decide +kernel, by decide, by decide⟩, kt_M_in⟩
theorem d_M_release_7 : decode me_M_release.2.1 7 = .ok (.iload_n 1, 1) := by decide +kernel
theorem d_M_release_8 : decode me_M_release.2.1 8 = .ok (.iconst 0, 1) := by decide +kernel
theorem d_M_release_9 : decode me_M_release.2.1 9 = .ok (.iconst 3, 1) := by decide +kernel
theorem d_M_release_10 : decode me_M_release.2.1 10 = .ok (.invokestatic 141, 3) := by decide +kernel
theorem c_M_release_10 : bm_is me_M_release me_M_in 10 3 := ⟨_, d_M_release_10, Or.inl ml_M_141, ⟨kc_M_in, in_BatchHallModel, by decide +kernel, by decide, by decide⟩, kt_M_in⟩
theorem d_M_release_13 : decode me_M_release.2.1 13 = .ok (.ifCond .eq (16), 3) := by decide +kernel
theorem d_M_release_16 : decode me_M_release.2.1 16 = .ok (.aload_n 0, 1) := by decide +kernel
theorem d_M_release_17 : decode me_M_release.2.1 17 = .ok (.getfield 31, 3) := by decide +kernel
theorem g_M_release_17 : bm_gf me_M_release 17 11 8 := ⟨_, _, _, _, d_M_release_17, rfl, by decide, uw_M, fl_M_31⟩
theorem d_M_release_20 : decode me_M_release.2.1 20 = .ok (.iload_n 1, 1) := by decide +kernel
theorem d_M_release_21 : decode me_M_release.2.1 21 = .ok (.baload, 1) := by decide +kernel
theorem d_M_release_22 : decode me_M_release.2.1 22 = .ok (.ifCond .ne (7), 3) := by decide +kernel
theorem d_M_release_25 : decode me_M_release.2.1 25 = .ok (.iconst 1, 1) := by decide +kernel
theorem d_M_release_26 : decode me_M_release.2.1 26 = .ok (.goto (4), 3) := by decide +kernel
theorem d_M_release_29 : decode me_M_release.2.1 29 = .ok (.iconst 0, 1) := by decide +kernel
theorem d_M_release_30 : decode me_M_release.2.1 30 = .ok (.invokevirtual 169, 3) := by decide +kernel
theorem c_M_release_30 : bm_iv me_M_release me_M_goes 30 11 2 := ⟨_, d_M_release_30, Or.inl ml_M_169, ⟨kc_M_goes, in_BatchHallModel, by decide +kernel, by decide, by decide⟩, ki_M_goes, ks_M_goes, _, _, rfl⟩
theorem d_M_release_33 : decode me_M_release.2.1 33 = .ok (.ifCond .ne (5), 3) := by decide +kernel
theorem d_M_release_36 : decode me_M_release.2.1 36 = .ok (.iconst 0, 1) := by decide +kernel
theorem d_M_release_37 : decode me_M_release.2.1 37 = .ok (.ireturn, 1) := by decide +kernel
theorem d_M_release_38 : decode me_M_release.2.1 38 = .ok (.aload_n 0, 1) := by decide +kernel
theorem d_M_release_39 : decode me_M_release.2.1 39 = .ok (.getfield 28, 3) := by decide +kernel
theorem g_M_release_39 : bm_gf me_M_release 39 11 7 := ⟨_, _, _, _, d_M_release_39, rfl, by decide, uw_M, fl_M_28⟩
theorem d_M_release_42 : decode me_M_release.2.1 42 = .ok (.iload_n 1, 1) := by decide +kernel
theorem d_M_release_43 : decode me_M_release.2.1 43 = .ok (.iaload, 1) := by decide +kernel
theorem d_M_release_44 : decode me_M_release.2.1 44 = .ok (.ifCond .le (7), 3) := by decide +kernel
theorem d_M_release_47 : decode me_M_release.2.1 47 = .ok (.iconst 1, 1) := by decide +kernel
theorem d_M_release_48 : decode me_M_release.2.1 48 = .ok (.goto (4), 3) := by decide +kernel
theorem d_M_release_51 : decode me_M_release.2.1 51 = .ok (.iconst 0, 1) := by decide +kernel
theorem d_M_release_52 : decode me_M_release.2.1 52 = .ok (.istore_n 2, 1) := by decide +kernel
theorem d_M_release_53 : decode me_M_release.2.1 53 = .ok (.iconst 0, 1) := by decide +kernel
theorem d_M_release_54 : decode me_M_release.2.1 54 = .ok (.istore_n 3, 1) := by decide +kernel
theorem d_M_release_55 : decode me_M_release.2.1 55 = .ok (.iload_n 3, 1) := by decide +kernel
theorem d_M_release_56 : decode me_M_release.2.1 56 = .ok (.aload_n 0, 1) := by decide +kernel
theorem d_M_release_57 : decode me_M_release.2.1 57 = .ok (.getfield 28, 3) := by decide +kernel
theorem g_M_release_57 : bm_gf me_M_release 57 11 7 := ⟨_, _, _, _, d_M_release_57, rfl, by decide, uw_M, fl_M_28⟩
theorem d_M_release_60 : decode me_M_release.2.1 60 = .ok (.iload_n 1, 1) := by decide +kernel
theorem d_M_release_61 : decode me_M_release.2.1 61 = .ok (.iaload, 1) := by decide +kernel
theorem d_M_release_62 : decode me_M_release.2.1 62 = .ok (.if_icmp .ge (28), 3) := by decide +kernel
theorem d_M_release_65 : decode me_M_release.2.1 65 = .ok (.iload_n 2, 1) := by decide +kernel
theorem d_M_release_66 : decode me_M_release.2.1 66 = .ok (.ifCond .eq (16), 3) := by decide +kernel
theorem d_M_release_69 : decode me_M_release.2.1 69 = .ok (.aload_n 0, 1) := by decide +kernel
theorem d_M_release_70 : decode me_M_release.2.1 70 = .ok (.iload_n 1, 1) := by decide +kernel
theorem d_M_release_71 : decode me_M_release.2.1 71 = .ok (.iload_n 3, 1) := by decide +kernel
theorem d_M_release_72 : decode me_M_release.2.1 72 = .ok (.invokevirtual 173, 3) := by decide +kernel
theorem c_M_release_72 : bm_iv me_M_release me_M_isSound 72 11 2 := ⟨_, d_M_release_72, Or.inl ml_M_173, ⟨kc_M_isSound, in_BatchHallModel, by decide +kernel, by decide, by decide⟩, ki_M_isSound, ks_M_isSound, _, _, rfl⟩
theorem d_M_release_75 : decode me_M_release.2.1 75 = .ok (.ifCond .eq (7), 3) := by decide +kernel
theorem d_M_release_78 : decode me_M_release.2.1 78 = .ok (.iconst 1, 1) := by decide +kernel
theorem d_M_release_79 : decode me_M_release.2.1 79 = .ok (.goto (4), 3) := by decide +kernel
theorem d_M_release_82 : decode me_M_release.2.1 82 = .ok (.iconst 0, 1) := by decide +kernel
theorem d_M_release_83 : decode me_M_release.2.1 83 = .ok (.istore_n 2, 1) := by decide +kernel
theorem d_M_release_84 : decode me_M_release.2.1 84 = .ok (.iinc 3 (1), 3) := by decide +kernel
theorem d_M_release_87 : decode me_M_release.2.1 87 = .ok (.goto (-32), 3) := by decide +kernel
theorem d_M_release_90 : decode me_M_release.2.1 90 = .ok (.iload_n 2, 1) := by decide +kernel
theorem d_M_release_91 : decode me_M_release.2.1 91 = .ok (.ifCond .ne (7), 3) := by decide +kernel
theorem d_M_release_94 : decode me_M_release.2.1 94 = .ok (.iconst 1, 1) := by decide +kernel
theorem d_M_release_95 : decode me_M_release.2.1 95 = .ok (.goto (52), 3) := by decide +kernel
theorem d_M_release_98 : decode me_M_release.2.1 98 = .ok (.aload_n 0, 1) := by decide +kernel
theorem d_M_release_99 : decode me_M_release.2.1 99 = .ok (.iload_n 1, 1) := by decide +kernel
theorem d_M_release_100 : decode me_M_release.2.1 100 = .ok (.invokevirtual 176, 3) := by decide +kernel
theorem c_M_release_100 : bm_iv me_M_release me_M_isWhole 100 11 1 := ⟨_, d_M_release_100, Or.inl ml_M_176, ⟨kc_M_isWhole, in_BatchHallModel, by decide +kernel, by decide, by decide⟩, ki_M_isWhole, ks_M_isWhole, _, _, rfl⟩
theorem d_M_release_103 : decode me_M_release.2.1 103 = .ok (.ifCond .ne (7), 3) := by decide +kernel
theorem d_M_release_106 : decode me_M_release.2.1 106 = .ok (.iconst 2, 1) := by decide +kernel
theorem d_M_release_107 : decode me_M_release.2.1 107 = .ok (.goto (40), 3) := by decide +kernel
theorem d_M_release_110 : decode me_M_release.2.1 110 = .ok (.aload_n 0, 1) := by decide +kernel
theorem d_M_release_111 : decode me_M_release.2.1 111 = .ok (.iload_n 1, 1) := by decide +kernel
theorem d_M_release_112 : decode me_M_release.2.1 112 = .ok (.invokevirtual 179, 3) := by decide +kernel
theorem c_M_release_112 : bm_iv me_M_release me_M_branches 112 11 1 := ⟨_, d_M_release_112, Or.inl ml_M_179, ⟨kc_M_branches, in_BatchHallModel, by decide +kernel, by decide, by decide⟩, ki_M_branches, ks_M_branches, _, _, rfl⟩
theorem d_M_release_115 : decode me_M_release.2.1 115 = .ok (.ifCond .ne (7), 3) := by decide +kernel
theorem d_M_release_118 : decode me_M_release.2.1 118 = .ok (.iconst 3, 1) := by decide +kernel
theorem d_M_release_119 : decode me_M_release.2.1 119 = .ok (.goto (28), 3) := by decide +kernel
theorem d_M_release_122 : decode me_M_release.2.1 122 = .ok (.aload_n 0, 1) := by decide +kernel
theorem d_M_release_123 : decode me_M_release.2.1 123 = .ok (.iload_n 1, 1) := by decide +kernel
theorem d_M_release_124 : decode me_M_release.2.1 124 = .ok (.invokevirtual 182, 3) := by decide +kernel
theorem c_M_release_124 : bm_iv me_M_release me_M_measures 124 11 1 := ⟨_, d_M_release_124, Or.inl ml_M_182, ⟨kc_M_measures, in_BatchHallModel, by decide +kernel, by decide, by decide⟩, ki_M_measures, ks_M_measures, _, _, rfl⟩
theorem d_M_release_127 : decode me_M_release.2.1 127 = .ok (.ifCond .ne (7), 3) := by decide +kernel
theorem d_M_release_130 : decode me_M_release.2.1 130 = .ok (.iconst 4, 1) := by decide +kernel
theorem d_M_release_131 : decode me_M_release.2.1 131 = .ok (.goto (16), 3) := by decide +kernel
theorem d_M_release_134 : decode me_M_release.2.1 134 = .ok (.aload_n 0, 1) := by decide +kernel
theorem d_M_release_135 : decode me_M_release.2.1 135 = .ok (.iload_n 1, 1) := by decide +kernel
theorem d_M_release_136 : decode me_M_release.2.1 136 = .ok (.invokevirtual 185, 3) := by decide +kernel
theorem c_M_release_136 : bm_iv me_M_release me_M_hasUnits 136 11 1 := ⟨_, d_M_release_136, Or.inl ml_M_185, ⟨kc_M_hasUnits, in_BatchHallModel, by decide +kernel, by decide, by decide⟩, ki_M_hasUnits, ks_M_hasUnits, _, _, rfl⟩
theorem d_M_release_139 : decode me_M_release.2.1 139 = .ok (.ifCond .ne (7), 3) := by decide +kernel
theorem d_M_release_142 : decode me_M_release.2.1 142 = .ok (.iconst 5, 1) := by decide +kernel
theorem d_M_release_143 : decode me_M_release.2.1 143 = .ok (.goto (4), 3) := by decide +kernel
theorem d_M_release_146 : decode me_M_release.2.1 146 = .ok (.iconst 0, 1) := by decide +kernel
theorem d_M_release_147 : decode me_M_release.2.1 147 = .ok (.istore_n 3, 1) := by decide +kernel
theorem d_M_release_148 : decode me_M_release.2.1 148 = .ok (.aload_n 0, 1) := by decide +kernel
theorem d_M_release_149 : decode me_M_release.2.1 149 = .ok (.getfield 31, 3) := by decide +kernel
theorem g_M_release_149 : bm_gf me_M_release 149 11 8 := ⟨_, _, _, _, d_M_release_149, rfl, by decide, uw_M, fl_M_31⟩
theorem d_M_release_152 : decode me_M_release.2.1 152 = .ok (.iload_n 1, 1) := by decide +kernel
theorem d_M_release_153 : decode me_M_release.2.1 153 = .ok (.iload_n 3, 1) := by decide +kernel
theorem d_M_release_154 : decode me_M_release.2.1 154 = .ok (.ifCond .ne (7), 3) := by decide +kernel
theorem d_M_release_157 : decode me_M_release.2.1 157 = .ok (.iconst 1, 1) := by decide +kernel
theorem d_M_release_158 : decode me_M_release.2.1 158 = .ok (.goto (4), 3) := by decide +kernel
theorem d_M_release_161 : decode me_M_release.2.1 161 = .ok (.iconst 0, 1) := by decide +kernel
theorem d_M_release_162 : decode me_M_release.2.1 162 = .ok (.bastore, 1) := by decide +kernel
theorem d_M_release_163 : decode me_M_release.2.1 163 = .ok (.iload_n 3, 1) := by decide +kernel
theorem d_M_release_164 : decode me_M_release.2.1 164 = .ok (.ireturn, 1) := by decide +kernel
theorem d_M_goes_0 : decode me_M_goes.2.1 0 = .ok (.aload_n 0, 1) := by decide +kernel
theorem d_M_goes_1 : decode me_M_goes.2.1 1 = .ok (.iload_n 1, 1) := by decide +kernel
theorem d_M_goes_2 : decode me_M_goes.2.1 2 = .ok (.ifCond .ne (7), 3) := by decide +kernel
theorem d_M_goes_5 : decode me_M_goes.2.1 5 = .ok (.iconst 1, 1) := by decide +kernel
theorem d_M_goes_6 : decode me_M_goes.2.1 6 = .ok (.goto (12), 3) := by decide +kernel
theorem d_M_goes_9 : decode me_M_goes.2.1 9 = .ok (.iload_n 2, 1) := by decide +kernel
theorem d_M_goes_10 : decode me_M_goes.2.1 10 = .ok (.ifCond .ne (7), 3) := by decide +kernel
theorem d_M_goes_13 : decode me_M_goes.2.1 13 = .ok (.iconst 2, 1) := by decide +kernel
theorem d_M_goes_14 : decode me_M_goes.2.1 14 = .ok (.goto (4), 3) := by decide +kernel
theorem d_M_goes_17 : decode me_M_goes.2.1 17 = .ok (.iconst 0, 1) := by decide +kernel
theorem d_M_goes_18 : decode me_M_goes.2.1 18 = .ok (.putfield 137, 3) := by decide +kernel
theorem p_M_goes_18 : bm_pf me_M_goes 18 11 0 .int := ⟨_, _, _, _, ty_M, d_M_goes_18, rfl, by decide, uw_M, fl_M_137, tk_M, nm_M, rfl, Or.inl rfl⟩
theorem d_M_goes_21 : decode me_M_goes.2.1 21 = .ok (.aload_n 0, 1) := by decide +kernel
theorem d_M_goes_22 : decode me_M_goes.2.1 22 = .ok (.getfield 137, 3) := by decide +kernel
theorem g_M_goes_22 : bm_gf me_M_goes 22 11 0 := ⟨_, _, _, _, d_M_goes_22, rfl, by decide, uw_M, fl_M_137⟩
theorem d_M_goes_25 : decode me_M_goes.2.1 25 = .ok (.ifCond .ne (7), 3) := by decide +kernel
theorem d_M_goes_28 : decode me_M_goes.2.1 28 = .ok (.iconst 1, 1) := by decide +kernel
theorem d_M_goes_29 : decode me_M_goes.2.1 29 = .ok (.goto (4), 3) := by decide +kernel
theorem d_M_goes_32 : decode me_M_goes.2.1 32 = .ok (.iconst 0, 1) := by decide +kernel
theorem d_M_goes_33 : decode me_M_goes.2.1 33 = .ok (.ireturn, 1) := by decide +kernel
