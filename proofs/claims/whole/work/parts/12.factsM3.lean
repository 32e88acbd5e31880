theorem d_M_works_0 : decode me_M_works.2.1 0 = .ok (.bipush (8), 2) := by decide +kernel
theorem d_M_works_2 : decode me_M_works.2.1 2 = .ok (.iload_n 1, 1) := by decide +kernel
theorem d_M_works_3 : decode me_M_works.2.1 3 = .ok (.imul, 1) := by decide +kernel
theorem d_M_works_4 : decode me_M_works.2.1 4 = .ok (.iload_n 2, 1) := by decide +kernel
theorem d_M_works_5 : decode me_M_works.2.1 5 = .ok (.iadd, 1) := by decide +kernel
theorem d_M_works_6 : decode me_M_works.2.1 6 = .ok (.istore_n 3, 1) := by decide +kernel
theorem d_M_works_7 : decode me_M_works.2.1 7 = .ok (.aload_n 0, 1) := by decide +kernel
theorem d_M_works_8 : decode me_M_works.2.1 8 = .ok (.iload_n 1, 1) := by decide +kernel
theorem d_M_works_9 : decode me_M_works.2.1 9 = .ok (.iload_n 2, 1) := by decide +kernel
theorem d_M_works_10 : decode me_M_works.2.1 10 = .ok (.invokevirtual 236, 3) := by decide +kernel
theorem c_M_works_10 : bm_iv me_M_works me_M_stepAt 10 11 2 := ⟨_, d_M_works_10, Or.inl ml_M_236, ⟨kc_M_stepAt, in_BatchHallModel, by decide +kernel, by decide, by decide⟩, ki_M_stepAt, ks_M_stepAt, _, _, rfl⟩
theorem d_M_works_13 : decode me_M_works.2.1 13 = .ok (.istore 4, 2) := by decide +kernel
theorem d_M_works_15 : decode me_M_works.2.1 15 = .ok (.aload_n 0, 1) := by decide +kernel
theorem d_M_works_16 : decode me_M_works.2.1 16 = .ok (.getfield 71, 3) := by decide +kernel
theorem g_M_works_16 : bm_gf me_M_works 16 11 22 := ⟨_, _, _, _, d_M_works_16, rfl, by decide, uw_M, fl_M_71⟩
theorem d_M_works_19 : decode me_M_works.2.1 19 = .ok (.iconst 3, 1) := by decide +kernel
theorem d_M_works_20 : decode me_M_works.2.1 20 = .ok (.iload_n 1, 1) := by decide +kernel
theorem d_M_works_21 : decode me_M_works.2.1 21 = .ok (.imul, 1) := by decide +kernel
theorem d_M_works_22 : decode me_M_works.2.1 22 = .ok (.aload_n 0, 1) := by decide +kernel
theorem d_M_works_23 : decode me_M_works.2.1 23 = .ok (.getfield 38, 3) := by decide +kernel
theorem g_M_works_23 : bm_gf me_M_works 23 11 10 := ⟨_, _, _, _, d_M_works_23, rfl, by decide, uw_M, fl_M_38⟩
theorem d_M_works_26 : decode me_M_works.2.1 26 = .ok (.iload 4, 2) := by decide +kernel
theorem d_M_works_28 : decode me_M_works.2.1 28 = .ok (.iaload, 1) := by decide +kernel
theorem d_M_works_29 : decode me_M_works.2.1 29 = .ok (.iadd, 1) := by decide +kernel
theorem d_M_works_30 : decode me_M_works.2.1 30 = .ok (.iaload, 1) := by decide +kernel
theorem d_M_works_31 : decode me_M_works.2.1 31 = .ok (.istore 5, 2) := by decide +kernel
theorem d_M_works_33 : decode me_M_works.2.1 33 = .ok (.aload_n 0, 1) := by decide +kernel
theorem d_M_works_34 : decode me_M_works.2.1 34 = .ok (.getfield 77, 3) := by decide +kernel
theorem g_M_works_34 : bm_gf me_M_works 34 11 24 := ⟨_, _, _, _, d_M_works_34, rfl, by decide, uw_M, fl_M_77⟩
theorem d_M_works_37 : decode me_M_works.2.1 37 = .ok (.iload_n 3, 1) := by decide +kernel
theorem d_M_works_38 : decode me_M_works.2.1 38 = .ok (.iaload, 1) := by decide +kernel
theorem d_M_works_39 : decode me_M_works.2.1 39 = .ok (.bipush (10), 2) := by decide +kernel
theorem d_M_works_41 : decode me_M_works.2.1 41 = .ok (.if_icmp .ge (12), 3) := by decide +kernel
theorem d_M_works_44 : decode me_M_works.2.1 44 = .ok (.aload_n 0, 1) := by decide +kernel
theorem d_M_works_45 : decode me_M_works.2.1 45 = .ok (.getfield 77, 3) := by decide +kernel
theorem g_M_works_45 : bm_gf me_M_works 45 11 24 := ⟨_, _, _, _, d_M_works_45, rfl, by decide, uw_M, fl_M_77⟩
theorem d_M_works_48 : decode me_M_works.2.1 48 = .ok (.iload_n 3, 1) := by decide +kernel
theorem d_M_works_49 : decode me_M_works.2.1 49 = .ok (.iaload, 1) := by decide +kernel
theorem d_M_works_50 : decode me_M_works.2.1 50 = .ok (.goto (5), 3) := by decide +kernel
theorem d_M_works_53 : decode me_M_works.2.1 53 = .ok (.bipush (10), 2) := by decide +kernel
theorem d_M_works_55 : decode me_M_works.2.1 55 = .ok (.istore 6, 2) := by decide +kernel
theorem d_M_works_57 : decode me_M_works.2.1 57 = .ok (.aload_n 0, 1) := by decide +kernel
theorem d_M_works_58 : decode me_M_works.2.1 58 = .ok (.getfield 35, 3) := by decide +kernel
theorem g_M_works_58 : bm_gf me_M_works 58 11 9 := ⟨_, _, _, _, d_M_works_58, rfl, by decide, uw_M, fl_M_35⟩
theorem d_M_works_61 : decode me_M_works.2.1 61 = .ok (.iload 4, 2) := by decide +kernel
theorem d_M_works_63 : decode me_M_works.2.1 63 = .ok (.iaload, 1) := by decide +kernel
theorem d_M_works_64 : decode me_M_works.2.1 64 = .ok (.tableswitch (182) (0) (4) #[(36), (182), (81), (182), (175)], 36) := by decide +kernel
theorem d_M_works_100 : decode me_M_works.2.1 100 = .ok (.iload 6, 2) := by decide +kernel
theorem d_M_works_102 : decode me_M_works.2.1 102 = .ok (.ifCond .le (17), 3) := by decide +kernel
theorem d_M_works_105 : decode me_M_works.2.1 105 = .ok (.aload_n 0, 1) := by decide +kernel
theorem d_M_works_106 : decode me_M_works.2.1 106 = .ok (.iload 5, 2) := by decide +kernel
theorem d_M_works_108 : decode me_M_works.2.1 108 = .ok (.aload_n 0, 1) := by decide +kernel
theorem d_M_works_109 : decode me_M_works.2.1 109 = .ok (.getfield 80, 3) := by decide +kernel
theorem g_M_works_109 : bm_gf me_M_works 109 11 25 := ⟨_, _, _, _, d_M_works_109, rfl, by decide, uw_M, fl_M_80⟩
theorem d_M_works_112 : decode me_M_works.2.1 112 = .ok (.iload_n 3, 1) := by decide +kernel
theorem d_M_works_113 : decode me_M_works.2.1 113 = .ok (.iaload, 1) := by decide +kernel
theorem d_M_works_114 : decode me_M_works.2.1 114 = .ok (.iload 6, 2) := by decide +kernel
theorem d_M_works_116 : decode me_M_works.2.1 116 = .ok (.invokevirtual 192, 3) := by decide +kernel
theorem c_M_works_116 : bm_iv me_M_works me_M_add 116 11 3 := ⟨_, d_M_works_116, Or.inl ml_M_192, ⟨kc_M_add, in_BatchHallModel, by decide +kernel, by decide, by decide⟩, ki_M_add, ks_M_add, _, _, rfl⟩
theorem d_M_works_119 : decode me_M_works.2.1 119 = .ok (.aload_n 0, 1) := by decide +kernel
theorem d_M_works_120 : decode me_M_works.2.1 120 = .ok (.getfield 77, 3) := by decide +kernel
theorem g_M_works_120 : bm_gf me_M_works 120 11 24 := ⟨_, _, _, _, d_M_works_120, rfl, by decide, uw_M, fl_M_77⟩
theorem d_M_works_123 : decode me_M_works.2.1 123 = .ok (.iload_n 3, 1) := by decide +kernel
theorem d_M_works_124 : decode me_M_works.2.1 124 = .ok (.dup2, 1) := by decide +kernel
theorem d_M_works_125 : decode me_M_works.2.1 125 = .ok (.iaload, 1) := by decide +kernel
theorem d_M_works_126 : decode me_M_works.2.1 126 = .ok (.iload 6, 2) := by decide +kernel
theorem d_M_works_128 : decode me_M_works.2.1 128 = .ok (.isub, 1) := by decide +kernel
theorem d_M_works_129 : decode me_M_works.2.1 129 = .ok (.iastore, 1) := by decide +kernel
theorem d_M_works_130 : decode me_M_works.2.1 130 = .ok (.aload_n 0, 1) := by decide +kernel
theorem d_M_works_131 : decode me_M_works.2.1 131 = .ok (.getfield 77, 3) := by decide +kernel
theorem g_M_works_131 : bm_gf me_M_works 131 11 24 := ⟨_, _, _, _, d_M_works_131, rfl, by decide, uw_M, fl_M_77⟩
theorem d_M_works_134 : decode me_M_works.2.1 134 = .ok (.iload_n 3, 1) := by decide +kernel
theorem d_M_works_135 : decode me_M_works.2.1 135 = .ok (.iaload, 1) := by decide +kernel
theorem d_M_works_136 : decode me_M_works.2.1 136 = .ok (.ifCond .ne (7), 3) := by decide +kernel
theorem d_M_works_139 : decode me_M_works.2.1 139 = .ok (.iconst 1, 1) := by decide +kernel
theorem d_M_works_140 : decode me_M_works.2.1 140 = .ok (.goto (4), 3) := by decide +kernel
theorem d_M_works_143 : decode me_M_works.2.1 143 = .ok (.iconst 0, 1) := by decide +kernel
theorem d_M_works_144 : decode me_M_works.2.1 144 = .ok (.ireturn, 1) := by decide +kernel
theorem d_M_works_145 : decode me_M_works.2.1 145 = .ok (.aload_n 0, 1) := by decide +kernel
theorem d_M_works_146 : decode me_M_works.2.1 146 = .ok (.iload 5, 2) := by decide +kernel
theorem d_M_works_148 : decode me_M_works.2.1 148 = .ok (.invokevirtual 188, 3) := by decide +kernel
theorem c_M_works_148 : bm_iv me_M_works me_M_total 148 11 1 := ⟨_, d_M_works_148, Or.inl ml_M_188, ⟨kc_M_total, in_BatchHallModel, by decide +kernel, by decide, by decide⟩, ki_M_total, ks_M_total, _, _, rfl⟩
theorem d_M_works_151 : decode me_M_works.2.1 151 = .ok (.istore 7, 2) := by decide +kernel
theorem d_M_works_153 : decode me_M_works.2.1 153 = .ok (.aload_n 0, 1) := by decide +kernel
theorem d_M_works_154 : decode me_M_works.2.1 154 = .ok (.getfield 77, 3) := by decide +kernel
theorem g_M_works_154 : bm_gf me_M_works 154 11 24 := ⟨_, _, _, _, d_M_works_154, rfl, by decide, uw_M, fl_M_77⟩
theorem d_M_works_157 : decode me_M_works.2.1 157 = .ok (.iload_n 3, 1) := by decide +kernel
theorem d_M_works_158 : decode me_M_works.2.1 158 = .ok (.iload 7, 2) := by decide +kernel
theorem d_M_works_160 : decode me_M_works.2.1 160 = .ok (.iload 6, 2) := by decide +kernel
theorem d_M_works_162 : decode me_M_works.2.1 162 = .ok (.if_icmp .ge (7), 3) := by decide +kernel
theorem d_M_works_165 : decode me_M_works.2.1 165 = .ok (.iconst 0, 1) := by decide +kernel
theorem d_M_works_166 : decode me_M_works.2.1 166 = .ok (.goto (12), 3) := by decide +kernel
theorem d_M_works_169 : decode me_M_works.2.1 169 = .ok (.aload_n 0, 1) := by decide +kernel
theorem d_M_works_170 : decode me_M_works.2.1 170 = .ok (.getfield 77, 3) := by decide +kernel
theorem g_M_works_170 : bm_gf me_M_works 170 11 24 := ⟨_, _, _, _, d_M_works_170, rfl, by decide, uw_M, fl_M_77⟩
theorem d_M_works_173 : decode me_M_works.2.1 173 = .ok (.iload_n 3, 1) := by decide +kernel
theorem d_M_works_174 : decode me_M_works.2.1 174 = .ok (.iaload, 1) := by decide +kernel
theorem d_M_works_175 : decode me_M_works.2.1 175 = .ok (.iload 6, 2) := by decide +kernel
theorem d_M_works_177 : decode me_M_works.2.1 177 = .ok (.isub, 1) := by decide +kernel
theorem d_M_works_178 : decode me_M_works.2.1 178 = .ok (.iastore, 1) := by decide +kernel
theorem d_M_works_179 : decode me_M_works.2.1 179 = .ok (.iload 7, 2) := by decide +kernel
theorem d_M_works_181 : decode me_M_works.2.1 181 = .ok (.iload 6, 2) := by decide +kernel
theorem d_M_works_183 : decode me_M_works.2.1 183 = .ok (.if_icmp .ge (8), 3) := by decide +kernel
theorem d_M_works_186 : decode me_M_works.2.1 186 = .ok (.iload 7, 2) := by decide +kernel
theorem d_M_works_188 : decode me_M_works.2.1 188 = .ok (.goto (5), 3) := by decide +kernel
theorem d_M_works_191 : decode me_M_works.2.1 191 = .ok (.iload 6, 2) := by decide +kernel
theorem d_M_works_193 : decode me_M_works.2.1 193 = .ok (.istore 6, 2) := by decide +kernel
theorem d_M_works_195 : decode me_M_works.2.1 195 = .ok (.iload 6, 2) := by decide +kernel
theorem d_M_works_197 : decode me_M_works.2.1 197 = .ok (.ifCond .le (27), 3) := by decide +kernel
theorem d_M_works_200 : decode me_M_works.2.1 200 = .ok (.aload_n 0, 1) := by decide +kernel
theorem d_M_works_201 : decode me_M_works.2.1 201 = .ok (.iload 5, 2) := by decide +kernel
theorem d_M_works_203 : decode me_M_works.2.1 203 = .ok (.aload_n 0, 1) := by decide +kernel
theorem d_M_works_204 : decode me_M_works.2.1 204 = .ok (.getfield 71, 3) := by decide +kernel
theorem g_M_works_204 : bm_gf me_M_works 204 11 22 := ⟨_, _, _, _, d_M_works_204, rfl, by decide, uw_M, fl_M_71⟩
theorem d_M_works_207 : decode me_M_works.2.1 207 = .ok (.iconst 3, 1) := by decide +kernel
theorem d_M_works_208 : decode me_M_works.2.1 208 = .ok (.iload_n 1, 1) := by decide +kernel
theorem d_M_works_209 : decode me_M_works.2.1 209 = .ok (.imul, 1) := by decide +kernel
theorem d_M_works_210 : decode me_M_works.2.1 210 = .ok (.aload_n 0, 1) := by decide +kernel
theorem d_M_works_211 : decode me_M_works.2.1 211 = .ok (.getfield 41, 3) := by decide +kernel
theorem g_M_works_211 : bm_gf me_M_works 211 11 11 := ⟨_, _, _, _, d_M_works_211, rfl, by decide, uw_M, fl_M_41⟩
theorem d_M_works_214 : decode me_M_works.2.1 214 = .ok (.iload 4, 2) := by decide +kernel
theorem d_M_works_216 : decode me_M_works.2.1 216 = .ok (.iaload, 1) := by decide +kernel
theorem d_M_works_217 : decode me_M_works.2.1 217 = .ok (.iadd, 1) := by decide +kernel
theorem d_M_works_218 : decode me_M_works.2.1 218 = .ok (.iaload, 1) := by decide +kernel
theorem d_M_works_219 : decode me_M_works.2.1 219 = .ok (.iload 6, 2) := by decide +kernel
theorem d_M_works_221 : decode me_M_works.2.1 221 = .ok (.invokevirtual 257, 3) := by decide +kernel
theorem c_M_works_221 : bm_iv me_M_works me_M_carry 221 11 3 := ⟨_, d_M_works_221, Or.inl ml_M_257, ⟨kc_M_carry, in_BatchHallModel, by decide +kernel, by decide, by decide⟩, ki_M_carry, ks_M_carry, _, _, rfl⟩
theorem d_M_works_224 : decode me_M_works.2.1 224 = .ok (.aload_n 0, 1) := by decide +kernel
theorem d_M_works_225 : decode me_M_works.2.1 225 = .ok (.getfield 77, 3) := by decide +kernel
theorem g_M_works_225 : bm_gf me_M_works 225 11 24 := ⟨_, _, _, _, d_M_works_225, rfl, by decide, uw_M, fl_M_77⟩
theorem d_M_works_228 : decode me_M_works.2.1 228 = .ok (.iload_n 3, 1) := by decide +kernel
theorem d_M_works_229 : decode me_M_works.2.1 229 = .ok (.iaload, 1) := by decide +kernel
theorem d_M_works_230 : decode me_M_works.2.1 230 = .ok (.ifCond .ne (7), 3) := by decide +kernel
theorem d_M_works_233 : decode me_M_works.2.1 233 = .ok (.iconst 1, 1) := by decide +kernel
theorem d_M_works_234 : decode me_M_works.2.1 234 = .ok (.goto (4), 3) := by decide +kernel
theorem d_M_works_237 : decode me_M_works.2.1 237 = .ok (.iconst 0, 1) := by decide +kernel
theorem d_M_works_238 : decode me_M_works.2.1 238 = .ok (.ireturn, 1) := by decide +kernel
theorem d_M_works_239 : decode me_M_works.2.1 239 = .ok (.aload_n 0, 1) := by decide +kernel
theorem d_M_works_240 : decode me_M_works.2.1 240 = .ok (.getfield 86, 3) := by decide +kernel
theorem g_M_works_240 : bm_gf me_M_works 240 11 27 := ⟨_, _, _, _, d_M_works_240, rfl, by decide, uw_M, fl_M_86⟩
theorem d_M_works_243 : decode me_M_works.2.1 243 = .ok (.iload_n 3, 1) := by decide +kernel
theorem d_M_works_244 : decode me_M_works.2.1 244 = .ok (.baload, 1) := by decide +kernel
theorem d_M_works_245 : decode me_M_works.2.1 245 = .ok (.ireturn, 1) := by decide +kernel
theorem d_M_works_246 : decode me_M_works.2.1 246 = .ok (.aload_n 0, 1) := by decide +kernel
theorem d_M_works_247 : decode me_M_works.2.1 247 = .ok (.getfield 77, 3) := by decide +kernel
theorem g_M_works_247 : bm_gf me_M_works 247 11 24 := ⟨_, _, _, _, d_M_works_247, rfl, by decide, uw_M, fl_M_77⟩
theorem d_M_works_250 : decode me_M_works.2.1 250 = .ok (.iload_n 3, 1) := by decide +kernel
theorem d_M_works_251 : decode me_M_works.2.1 251 = .ok (.dup2, 1) := by decide +kernel
theorem d_M_works_252 : decode me_M_works.2.1 252 = .ok (.iaload, 1) := by decide +kernel
theorem d_M_works_253 : decode me_M_works.2.1 253 = .ok (.iconst 1, 1) := by decide +kernel
theorem d_M_works_254 : decode me_M_works.2.1 254 = .ok (.isub, 1) := by decide +kernel
theorem d_M_works_255 : decode me_M_works.2.1 255 = .ok (.iastore, 1) := by decide +kernel
theorem d_M_works_256 : decode me_M_works.2.1 256 = .ok (.aload_n 0, 1) := by decide +kernel
theorem d_M_works_257 : decode me_M_works.2.1 257 = .ok (.getfield 77, 3) := by decide +kernel
theorem g_M_works_257 : bm_gf me_M_works 257 11 24 := ⟨_, _, _, _, d_M_works_257, rfl, by decide, uw_M, fl_M_77⟩
theorem d_M_works_260 : decode me_M_works.2.1 260 = .ok (.iload_n 3, 1) := by decide +kernel
theorem d_M_works_261 : decode me_M_works.2.1 261 = .ok (.iaload, 1) := by decide +kernel
theorem d_M_works_262 : decode me_M_works.2.1 262 = .ok (.ifCond .ne (27), 3) := by decide +kernel
theorem d_M_works_265 : decode me_M_works.2.1 265 = .ok (.aload_n 0, 1) := by decide +kernel
theorem d_M_works_266 : decode me_M_works.2.1 266 = .ok (.getfield 35, 3) := by decide +kernel
theorem g_M_works_266 : bm_gf me_M_works 266 11 9 := ⟨_, _, _, _, d_M_works_266, rfl, by decide, uw_M, fl_M_35⟩
theorem d_M_works_269 : decode me_M_works.2.1 269 = .ok (.iload 4, 2) := by decide +kernel
theorem d_M_works_271 : decode me_M_works.2.1 271 = .ok (.iaload, 1) := by decide +kernel
theorem d_M_works_272 : decode me_M_works.2.1 272 = .ok (.iconst 3, 1) := by decide +kernel
theorem d_M_works_273 : decode me_M_works.2.1 273 = .ok (.if_icmp .ne (16), 3) := by decide +kernel
theorem d_M_works_276 : decode me_M_works.2.1 276 = .ok (.aload_n 0, 1) := by decide +kernel
theorem d_M_works_277 : decode me_M_works.2.1 277 = .ok (.iload_n 1, 1) := by decide +kernel
theorem d_M_works_278 : decode me_M_works.2.1 278 = .ok (.iload 5, 2) := by decide +kernel
theorem d_M_works_280 : decode me_M_works.2.1 280 = .ok (.aload_n 0, 1) := by decide +kernel
theorem d_M_works_281 : decode me_M_works.2.1 281 = .ok (.getfield 74, 3) := by decide +kernel
theorem g_M_works_281 : bm_gf me_M_works 281 11 23 := ⟨_, _, _, _, d_M_works_281, rfl, by decide, uw_M, fl_M_74⟩
theorem d_M_works_284 : decode me_M_works.2.1 284 = .ok (.iload_n 3, 1) := by decide +kernel
theorem d_M_works_285 : decode me_M_works.2.1 285 = .ok (.iaload, 1) := by decide +kernel
theorem d_M_works_286 : decode me_M_works.2.1 286 = .ok (.invokevirtual 260, 3) := by decide +kernel
theorem c_M_works_286 : bm_iv me_M_works me_M_react 286 11 3 := ⟨_, d_M_works_286, Or.inl ml_M_260, ⟨kc_M_react, in_BatchHallModel, by decide +kernel, by decide, by decide⟩, ki_M_react, ks_M_react, _, _, rfl⟩
theorem d_M_works_289 : decode me_M_works.2.1 289 = .ok (.aload_n 0, 1) := by decide +kernel
theorem d_M_works_290 : decode me_M_works.2.1 290 = .ok (.getfield 77, 3) := by decide +kernel
theorem g_M_works_290 : bm_gf me_M_works 290 11 24 := ⟨_, _, _, _, d_M_works_290, rfl, by decide, uw_M, fl_M_77⟩
theorem d_M_works_293 : decode me_M_works.2.1 293 = .ok (.iload_n 3, 1) := by decide +kernel
theorem d_M_works_294 : decode me_M_works.2.1 294 = .ok (.iaload, 1) := by decide +kernel
theorem d_M_works_295 : decode me_M_works.2.1 295 = .ok (.ifCond .ne (7), 3) := by decide +kernel
theorem d_M_works_298 : decode me_M_works.2.1 298 = .ok (.iconst 1, 1) := by decide +kernel
theorem d_M_works_299 : decode me_M_works.2.1 299 = .ok (.goto (4), 3) := by decide +kernel
theorem d_M_works_302 : decode me_M_works.2.1 302 = .ok (.iconst 0, 1) := by decide +kernel
theorem d_M_works_303 : decode me_M_works.2.1 303 = .ok (.ireturn, 1) := by decide +kernel
theorem d_M_stepAt_0 : decode me_M_stepAt.2.1 0 = .ok (.bipush (12), 2) := by decide +kernel
theorem d_M_stepAt_2 : decode me_M_stepAt.2.1 2 = .ok (.aload_n 0, 1) := by decide +kernel
theorem d_M_stepAt_3 : decode me_M_stepAt.2.1 3 = .ok (.getfield 53, 3) := by decide +kernel
theorem g_M_stepAt_3 : bm_gf me_M_stepAt 3 11 16 := ⟨_, _, _, _, d_M_stepAt_3, rfl, by decide, uw_M, fl_M_53⟩
theorem d_M_stepAt_6 : decode me_M_stepAt.2.1 6 = .ok (.iload_n 1, 1) := by decide +kernel
theorem d_M_stepAt_7 : decode me_M_stepAt.2.1 7 = .ok (.iaload, 1) := by decide +kernel
theorem d_M_stepAt_8 : decode me_M_stepAt.2.1 8 = .ok (.imul, 1) := by decide +kernel
theorem d_M_stepAt_9 : decode me_M_stepAt.2.1 9 = .ok (.aload_n 0, 1) := by decide +kernel
theorem d_M_stepAt_10 : decode me_M_stepAt.2.1 10 = .ok (.getfield 74, 3) := by decide +kernel
theorem g_M_stepAt_10 : bm_gf me_M_stepAt 10 11 23 := ⟨_, _, _, _, d_M_stepAt_10, rfl, by decide, uw_M, fl_M_74⟩
theorem d_M_stepAt_13 : decode me_M_stepAt.2.1 13 = .ok (.bipush (8), 2) := by decide +kernel
theorem d_M_stepAt_15 : decode me_M_stepAt.2.1 15 = .ok (.iload_n 1, 1) := by decide +kernel
theorem d_M_stepAt_16 : decode me_M_stepAt.2.1 16 = .ok (.imul, 1) := by decide +kernel
theorem d_M_stepAt_17 : decode me_M_stepAt.2.1 17 = .ok (.iload_n 2, 1) := by decide +kernel
theorem d_M_stepAt_18 : decode me_M_stepAt.2.1 18 = .ok (.iadd, 1) := by decide +kernel
theorem d_M_stepAt_19 : decode me_M_stepAt.2.1 19 = .ok (.iaload, 1) := by decide +kernel
theorem d_M_stepAt_20 : decode me_M_stepAt.2.1 20 = .ok (.iadd, 1) := by decide +kernel
theorem d_M_stepAt_21 : decode me_M_stepAt.2.1 21 = .ok (.ireturn, 1) := by decide +kernel
theorem d_M_add_0 : decode me_M_add.2.1 0 = .ok (.iconst 0, 1) := by decide +kernel
theorem d_M_add_1 : decode me_M_add.2.1 1 = .ok (.istore 4, 2) := by decide +kernel
theorem d_M_add_3 : decode me_M_add.2.1 3 = .ok (.iload 4, 2) := by decide +kernel
theorem d_M_add_5 : decode me_M_add.2.1 5 = .ok (.aload_n 0, 1) := by decide +kernel
theorem d_M_add_6 : decode me_M_add.2.1 6 = .ok (.getfield 16, 3) := by decide +kernel
theorem g_M_add_6 : bm_gf me_M_add 6 11 3 := ⟨_, _, _, _, d_M_add_6, rfl, by decide, uw_M, fl_M_16⟩
theorem d_M_add_9 : decode me_M_add.2.1 9 = .ok (.iload_n 1, 1) := by decide +kernel
theorem d_M_add_10 : decode me_M_add.2.1 10 = .ok (.iaload, 1) := by decide +kernel
theorem d_M_add_11 : decode me_M_add.2.1 11 = .ok (.if_icmp .ge (25), 3) := by decide +kernel
theorem d_M_add_14 : decode me_M_add.2.1 14 = .ok (.aload_n 0, 1) := by decide +kernel
theorem d_M_add_15 : decode me_M_add.2.1 15 = .ok (.getfield 19, 3) := by decide +kernel
theorem g_M_add_15 : bm_gf me_M_add 15 11 4 := ⟨_, _, _, _, d_M_add_15, rfl, by decide, uw_M, fl_M_19⟩
theorem d_M_add_18 : decode me_M_add.2.1 18 = .ok (.bipush (100), 2) := by decide +kernel
theorem d_M_add_20 : decode me_M_add.2.1 20 = .ok (.iload_n 1, 1) := by decide +kernel
theorem d_M_add_21 : decode me_M_add.2.1 21 = .ok (.imul, 1) := by decide +kernel
theorem d_M_add_22 : decode me_M_add.2.1 22 = .ok (.iload 4, 2) := by decide +kernel
theorem d_M_add_24 : decode me_M_add.2.1 24 = .ok (.iadd, 1) := by decide +kernel
theorem d_M_add_25 : decode me_M_add.2.1 25 = .ok (.iaload, 1) := by decide +kernel
theorem d_M_add_26 : decode me_M_add.2.1 26 = .ok (.iload_n 2, 1) := by decide +kernel
theorem d_M_add_27 : decode me_M_add.2.1 27 = .ok (.if_icmp .eq (9), 3) := by decide +kernel
theorem d_M_add_30 : decode me_M_add.2.1 30 = .ok (.iinc 4 (1), 3) := by decide +kernel
theorem d_M_add_33 : decode me_M_add.2.1 33 = .ok (.goto (-30), 3) := by decide +kernel
theorem d_M_add_36 : decode me_M_add.2.1 36 = .ok (.iload 4, 2) := by decide +kernel
theorem d_M_add_38 : decode me_M_add.2.1 38 = .ok (.aload_n 0, 1) := by decide +kernel
theorem d_M_add_39 : decode me_M_add.2.1 39 = .ok (.getfield 16, 3) := by decide +kernel
theorem g_M_add_39 : bm_gf me_M_add 39 11 3 := ⟨_, _, _, _, d_M_add_39, rfl, by decide, uw_M, fl_M_16⟩
theorem d_M_add_42 : decode me_M_add.2.1 42 = .ok (.iload_n 1, 1) := by decide +kernel
theorem d_M_add_43 : decode me_M_add.2.1 43 = .ok (.iaload, 1) := by decide +kernel
theorem d_M_add_44 : decode me_M_add.2.1 44 = .ok (.if_icmp .ne (39), 3) := by decide +kernel
theorem d_M_add_47 : decode me_M_add.2.1 47 = .ok (.aload_n 0, 1) := by decide +kernel
theorem d_M_add_48 : decode me_M_add.2.1 48 = .ok (.getfield 19, 3) := by decide +kernel
theorem g_M_add_48 : bm_gf me_M_add 48 11 4 := ⟨_, _, _, _, d_M_add_48, rfl, by decide, uw_M, fl_M_19⟩
theorem d_M_add_51 : decode me_M_add.2.1 51 = .ok (.bipush (100), 2) := by decide +kernel
theorem d_M_add_53 : decode me_M_add.2.1 53 = .ok (.iload_n 1, 1) := by decide +kernel
theorem d_M_add_54 : decode me_M_add.2.1 54 = .ok (.imul, 1) := by decide +kernel
theorem d_M_add_55 : decode me_M_add.2.1 55 = .ok (.iload 4, 2) := by decide +kernel
theorem d_M_add_57 : decode me_M_add.2.1 57 = .ok (.iadd, 1) := by decide +kernel
theorem d_M_add_58 : decode me_M_add.2.1 58 = .ok (.iload_n 2, 1) := by decide +kernel
theorem d_M_add_59 : decode me_M_add.2.1 59 = .ok (.iastore, 1) := by decide +kernel
theorem d_M_add_60 : decode me_M_add.2.1 60 = .ok (.aload_n 0, 1) := by decide +kernel
theorem d_M_add_61 : decode me_M_add.2.1 61 = .ok (.getfield 22, 3) := by decide +kernel
theorem g_M_add_61 : bm_gf me_M_add 61 11 5 := ⟨_, _, _, _, d_M_add_61, rfl, by decide, uw_M, fl_M_22⟩
theorem d_M_add_64 : decode me_M_add.2.1 64 = .ok (.bipush (100), 2) := by decide +kernel
theorem d_M_add_66 : decode me_M_add.2.1 66 = .ok (.iload_n 1, 1) := by decide +kernel
theorem d_M_add_67 : decode me_M_add.2.1 67 = .ok (.imul, 1) := by decide +kernel
theorem d_M_add_68 : decode me_M_add.2.1 68 = .ok (.iload 4, 2) := by decide +kernel
theorem d_M_add_70 : decode me_M_add.2.1 70 = .ok (.iadd, 1) := by decide +kernel
theorem d_M_add_71 : decode me_M_add.2.1 71 = .ok (.iconst 0, 1) := by decide +kernel
theorem d_M_add_72 : decode me_M_add.2.1 72 = .ok (.iastore, 1) := by decide +kernel
theorem d_M_add_73 : decode me_M_add.2.1 73 = .ok (.aload_n 0, 1) := by decide +kernel
theorem d_M_add_74 : decode me_M_add.2.1 74 = .ok (.getfield 16, 3) := by decide +kernel
theorem g_M_add_74 : bm_gf me_M_add 74 11 3 := ⟨_, _, _, _, d_M_add_74, rfl, by decide, uw_M, fl_M_16⟩
theorem d_M_add_77 : decode me_M_add.2.1 77 = .ok (.iload_n 1, 1) := by decide +kernel
theorem d_M_add_78 : decode me_M_add.2.1 78 = .ok (.dup2, 1) := by decide +kernel
theorem d_M_add_79 : decode me_M_add.2.1 79 = .ok (.iaload, 1) := by decide +kernel
theorem d_M_add_80 : decode me_M_add.2.1 80 = .ok (.iconst 1, 1) := by decide +kernel
theorem d_M_add_81 : decode me_M_add.2.1 81 = .ok (.iadd, 1) := by decide +kernel
theorem d_M_add_82 : decode me_M_add.2.1 82 = .ok (.iastore, 1) := by decide +kernel
theorem d_M_add_83 : decode me_M_add.2.1 83 = .ok (.aload_n 0, 1) := by decide +kernel
theorem d_M_add_84 : decode me_M_add.2.1 84 = .ok (.getfield 22, 3) := by decide +kernel
theorem g_M_add_84 : bm_gf me_M_add 84 11 5 := ⟨_, _, _, _, d_M_add_84, rfl, by decide, uw_M, fl_M_22⟩
theorem d_M_add_87 : decode me_M_add.2.1 87 = .ok (.bipush (100), 2) := by decide +kernel
theorem d_M_add_89 : decode me_M_add.2.1 89 = .ok (.iload_n 1, 1) := by decide +kernel
theorem d_M_add_90 : decode me_M_add.2.1 90 = .ok (.imul, 1) := by decide +kernel
theorem d_M_add_91 : decode me_M_add.2.1 91 = .ok (.iload 4, 2) := by decide +kernel
theorem d_M_add_93 : decode me_M_add.2.1 93 = .ok (.iadd, 1) := by decide +kernel
theorem d_M_add_94 : decode me_M_add.2.1 94 = .ok (.dup2, 1) := by decide +kernel
theorem d_M_add_95 : decode me_M_add.2.1 95 = .ok (.iaload, 1) := by decide +kernel
theorem d_M_add_96 : decode me_M_add.2.1 96 = .ok (.iload_n 3, 1) := by decide +kernel
theorem d_M_add_97 : decode me_M_add.2.1 97 = .ok (.iadd, 1) := by decide +kernel
theorem d_M_add_98 : decode me_M_add.2.1 98 = .ok (.iastore, 1) := by decide +kernel
theorem d_M_add_99 : decode me_M_add.2.1 99 = .ok (.return_, 1) := by decide +kernel
theorem d_M_total_0 : decode me_M_total.2.1 0 = .ok (.iconst 0, 1) := by decide +kernel
theorem d_M_total_1 : decode me_M_total.2.1 1 = .ok (.istore_n 2, 1) := by decide +kernel
theorem d_M_total_2 : decode me_M_total.2.1 2 = .ok (.iconst 0, 1) := by decide +kernel
theorem d_M_total_3 : decode me_M_total.2.1 3 = .ok (.istore_n 3, 1) := by decide +kernel
theorem d_M_total_4 : decode me_M_total.2.1 4 = .ok (.iload_n 3, 1) := by decide +kernel
theorem d_M_total_5 : decode me_M_total.2.1 5 = .ok (.aload_n 0, 1) := by decide +kernel
theorem d_M_total_6 : decode me_M_total.2.1 6 = .ok (.getfield 16, 3) := by decide +kernel
theorem g_M_total_6 : bm_gf me_M_total 6 11 3 := ⟨_, _, _, _, d_M_total_6, rfl, by decide, uw_M, fl_M_16⟩
theorem d_M_total_9 : decode me_M_total.2.1 9 = .ok (.iload_n 1, 1) := by decide +kernel
theorem d_M_total_10 : decode me_M_total.2.1 10 = .ok (.iaload, 1) := by decide +kernel
theorem d_M_total_11 : decode me_M_total.2.1 11 = .ok (.if_icmp .ge (23), 3) := by decide +kernel
theorem d_M_total_14 : decode me_M_total.2.1 14 = .ok (.iload_n 2, 1) := by decide +kernel
theorem d_M_total_15 : decode me_M_total.2.1 15 = .ok (.aload_n 0, 1) := by decide +kernel
theorem d_M_total_16 : decode me_M_total.2.1 16 = .ok (.getfield 22, 3) := by decide +kernel
theorem g_M_total_16 : bm_gf me_M_total 16 11 5 := ⟨_, _, _, _, d_M_total_16, rfl, by decide, uw_M, fl_M_22⟩
theorem d_M_total_19 : decode me_M_total.2.1 19 = .ok (.bipush (100), 2) := by decide +kernel
theorem d_M_total_21 : decode me_M_total.2.1 21 = .ok (.iload_n 1, 1) := by decide +kernel
theorem d_M_total_22 : decode me_M_total.2.1 22 = .ok (.imul, 1) := by decide +kernel
theorem d_M_total_23 : decode me_M_total.2.1 23 = .ok (.iload_n 3, 1) := by decide +kernel
theorem d_M_total_24 : decode me_M_total.2.1 24 = .ok (.iadd, 1) := by decide +kernel
theorem d_M_total_25 : decode me_M_total.2.1 25 = .ok (.iaload, 1) := by decide +kernel
theorem d_M_total_26 : decode me_M_total.2.1 26 = .ok (.iadd, 1) := by decide +kernel
theorem d_M_total_27 : decode me_M_total.2.1 27 = .ok (.istore_n 2, 1) := by decide +kernel
theorem d_M_total_28 : decode me_M_total.2.1 28 = .ok (.iinc 3 (1), 3) := by decide +kernel
theorem d_M_total_31 : decode me_M_total.2.1 31 = .ok (.goto (-27), 3) := by decide +kernel
theorem d_M_total_34 : decode me_M_total.2.1 34 = .ok (.iload_n 2, 1) := by decide +kernel
theorem d_M_total_35 : decode me_M_total.2.1 35 = .ok (.ireturn, 1) := by decide +kernel
theorem d_M_carry_0 : decode me_M_carry.2.1 0 = .ok (.aload_n 0, 1) := by decide +kernel
theorem d_M_carry_1 : decode me_M_carry.2.1 1 = .ok (.iload_n 1, 1) := by decide +kernel
theorem d_M_carry_2 : decode me_M_carry.2.1 2 = .ok (.invokevirtual 188, 3) := by decide +kernel
theorem c_M_carry_2 : bm_iv me_M_carry me_M_total 2 11 1 := ⟨_, d_M_carry_2, Or.inl ml_M_188, ⟨kc_M_total, in_BatchHallModel, by decide +kernel, by decide, by decide⟩, ki_M_total, ks_M_total, _, _, rfl⟩
theorem d_M_carry_5 : decode me_M_carry.2.1 5 = .ok (.istore 4, 2) := by decide +kernel
theorem d_M_carry_7 : decode me_M_carry.2.1 7 = .ok (.iload_n 3, 1) := by decide +kernel
theorem d_M_carry_8 : decode me_M_carry.2.1 8 = .ok (.istore 5, 2) := by decide +kernel
theorem d_M_carry_10 : decode me_M_carry.2.1 10 = .ok (.iconst 0, 1) := by decide +kernel
theorem d_M_carry_11 : decode me_M_carry.2.1 11 = .ok (.istore 6, 2) := by decide +kernel
theorem d_M_carry_13 : decode me_M_carry.2.1 13 = .ok (.iload 6, 2) := by decide +kernel
theorem d_M_carry_15 : decode me_M_carry.2.1 15 = .ok (.aload_n 0, 1) := by decide +kernel
theorem d_M_carry_16 : decode me_M_carry.2.1 16 = .ok (.getfield 16, 3) := by decide +kernel
theorem g_M_carry_16 : bm_gf me_M_carry 16 11 3 := ⟨_, _, _, _, d_M_carry_16, rfl, by decide, uw_M, fl_M_16⟩
theorem d_M_carry_19 : decode me_M_carry.2.1 19 = .ok (.iload_n 1, 1) := by decide +kernel
theorem d_M_carry_20 : decode me_M_carry.2.1 20 = .ok (.iaload, 1) := by decide +kernel
theorem d_M_carry_21 : decode me_M_carry.2.1 21 = .ok (.if_icmp .ge (69), 3) := by decide +kernel
theorem d_M_carry_24 : decode me_M_carry.2.1 24 = .ok (.aload_n 0, 1) := by decide +kernel
theorem d_M_carry_25 : decode me_M_carry.2.1 25 = .ok (.getfield 107, 3) := by decide +kernel
theorem g_M_carry_25 : bm_gf me_M_carry 25 11 38 := ⟨_, _, _, _, d_M_carry_25, rfl, by decide, uw_M, fl_M_107⟩
theorem d_M_carry_28 : decode me_M_carry.2.1 28 = .ok (.iload 6, 2) := by decide +kernel
theorem d_M_carry_30 : decode me_M_carry.2.1 30 = .ok (.iload_n 3, 1) := by decide +kernel
theorem d_M_carry_31 : decode me_M_carry.2.1 31 = .ok (.aload_n 0, 1) := by decide +kernel
theorem d_M_carry_32 : decode me_M_carry.2.1 32 = .ok (.getfield 22, 3) := by decide +kernel
theorem g_M_carry_32 : bm_gf me_M_carry 32 11 5 := ⟨_, _, _, _, d_M_carry_32, rfl, by decide, uw_M, fl_M_22⟩
theorem d_M_carry_35 : decode me_M_carry.2.1 35 = .ok (.bipush (100), 2) := by decide +kernel
theorem d_M_carry_37 : decode me_M_carry.2.1 37 = .ok (.iload_n 1, 1) := by decide +kernel
theorem d_M_carry_38 : decode me_M_carry.2.1 38 = .ok (.imul, 1) := by decide +kernel
theorem d_M_carry_39 : decode me_M_carry.2.1 39 = .ok (.iload 6, 2) := by decide +kernel
theorem d_M_carry_41 : decode me_M_carry.2.1 41 = .ok (.iadd, 1) := by decide +kernel
theorem d_M_carry_42 : decode me_M_carry.2.1 42 = .ok (.iaload, 1) := by decide +kernel
theorem d_M_carry_43 : decode me_M_carry.2.1 43 = .ok (.imul, 1) := by decide +kernel
theorem d_M_carry_44 : decode me_M_carry.2.1 44 = .ok (.iload 4, 2) := by decide +kernel
theorem d_M_carry_46 : decode me_M_carry.2.1 46 = .ok (.idiv, 1) := by decide +kernel
theorem d_M_carry_47 : decode me_M_carry.2.1 47 = .ok (.iastore, 1) := by decide +kernel
theorem d_M_carry_48 : decode me_M_carry.2.1 48 = .ok (.aload_n 0, 1) := by decide +kernel
theorem d_M_carry_49 : decode me_M_carry.2.1 49 = .ok (.getfield 110, 3) := by decide +kernel
theorem g_M_carry_49 : bm_gf me_M_carry 49 11 39 := ⟨_, _, _, _, d_M_carry_49, rfl, by decide, uw_M, fl_M_110⟩
theorem d_M_carry_52 : decode me_M_carry.2.1 52 = .ok (.iload 6, 2) := by decide +kernel
theorem d_M_carry_54 : decode me_M_carry.2.1 54 = .ok (.iload_n 3, 1) := by decide +kernel
theorem d_M_carry_55 : decode me_M_carry.2.1 55 = .ok (.aload_n 0, 1) := by decide +kernel
theorem d_M_carry_56 : decode me_M_carry.2.1 56 = .ok (.getfield 22, 3) := by decide +kernel
theorem g_M_carry_56 : bm_gf me_M_carry 56 11 5 := ⟨_, _, _, _, d_M_carry_56, rfl, by decide, uw_M, fl_M_22⟩
theorem d_M_carry_59 : decode me_M_carry.2.1 59 = .ok (.bipush (100), 2) := by decide +kernel
theorem d_M_carry_61 : decode me_M_carry.2.1 61 = .ok (.iload_n 1, 1) := by decide +kernel
theorem d_M_carry_62 : decode me_M_carry.2.1 62 = .ok (.imul, 1) := by decide +kernel
theorem d_M_carry_63 : decode me_M_carry.2.1 63 = .ok (.iload 6, 2) := by decide +kernel
theorem d_M_carry_65 : decode me_M_carry.2.1 65 = .ok (.iadd, 1) := by decide +kernel
theorem d_M_carry_66 : decode me_M_carry.2.1 66 = .ok (.iaload, 1) := by decide +kernel
theorem d_M_carry_67 : decode me_M_carry.2.1 67 = .ok (.imul, 1) := by decide +kernel
theorem d_M_carry_68 : decode me_M_carry.2.1 68 = .ok (.iload 4, 2) := by decide +kernel
theorem d_M_carry_70 : decode me_M_carry.2.1 70 = .ok (.irem, 1) := by decide +kernel
theorem d_M_carry_71 : decode me_M_carry.2.1 71 = .ok (.iastore, 1) := by decide +kernel
theorem d_M_carry_72 : decode me_M_carry.2.1 72 = .ok (.iload 5, 2) := by decide +kernel
theorem d_M_carry_74 : decode me_M_carry.2.1 74 = .ok (.aload_n 0, 1) := by decide +kernel
theorem d_M_carry_75 : decode me_M_carry.2.1 75 = .ok (.getfield 107, 3) := by decide +kernel
theorem g_M_carry_75 : bm_gf me_M_carry 75 11 38 := ⟨_, _, _, _, d_M_carry_75, rfl, by decide, uw_M, fl_M_107⟩
theorem d_M_carry_78 : decode me_M_carry.2.1 78 = .ok (.iload 6, 2) := by decide +kernel
theorem d_M_carry_80 : decode me_M_carry.2.1 80 = .ok (.iaload, 1) := by decide +kernel
theorem d_M_carry_81 : decode me_M_carry.2.1 81 = .ok (.isub, 1) := by decide +kernel
theorem d_M_carry_82 : decode me_M_carry.2.1 82 = .ok (.istore 5, 2) := by decide +kernel
theorem d_M_carry_84 : decode me_M_carry.2.1 84 = .ok (.iinc 6 (1), 3) := by decide +kernel
theorem d_M_carry_87 : decode me_M_carry.2.1 87 = .ok (.goto (-74), 3) := by decide +kernel
theorem d_M_carry_90 : decode me_M_carry.2.1 90 = .ok (.iload 5, 2) := by decide +kernel
theorem d_M_carry_92 : decode me_M_carry.2.1 92 = .ok (.ifCond .le (77), 3) := by decide +kernel
theorem d_M_carry_95 : decode me_M_carry.2.1 95 = .ok (.iconst 0, 1) := by decide +kernel
theorem d_M_carry_96 : decode me_M_carry.2.1 96 = .ok (.istore 6, 2) := by decide +kernel
theorem d_M_carry_98 : decode me_M_carry.2.1 98 = .ok (.iconst 1, 1) := by decide +kernel
theorem d_M_carry_99 : decode me_M_carry.2.1 99 = .ok (.istore 7, 2) := by decide +kernel
theorem d_M_carry_101 : decode me_M_carry.2.1 101 = .ok (.iload 7, 2) := by decide +kernel
theorem d_M_carry_103 : decode me_M_carry.2.1 103 = .ok (.aload_n 0, 1) := by decide +kernel
theorem d_M_carry_104 : decode me_M_carry.2.1 104 = .ok (.getfield 16, 3) := by decide +kernel
theorem g_M_carry_104 : bm_gf me_M_carry 104 11 3 := ⟨_, _, _, _, d_M_carry_104, rfl, by decide, uw_M, fl_M_16⟩
theorem d_M_carry_107 : decode me_M_carry.2.1 107 = .ok (.iload_n 1, 1) := by decide +kernel
theorem d_M_carry_108 : decode me_M_carry.2.1 108 = .ok (.iaload, 1) := by decide +kernel
theorem d_M_carry_109 : decode me_M_carry.2.1 109 = .ok (.if_icmp .ge (35), 3) := by decide +kernel
theorem d_M_carry_112 : decode me_M_carry.2.1 112 = .ok (.aload_n 0, 1) := by decide +kernel
theorem d_M_carry_113 : decode me_M_carry.2.1 113 = .ok (.getfield 110, 3) := by decide +kernel
theorem g_M_carry_113 : bm_gf me_M_carry 113 11 39 := ⟨_, _, _, _, d_M_carry_113, rfl, by decide, uw_M, fl_M_110⟩
theorem d_M_carry_116 : decode me_M_carry.2.1 116 = .ok (.iload 7, 2) := by decide +kernel
theorem d_M_carry_118 : decode me_M_carry.2.1 118 = .ok (.iaload, 1) := by decide +kernel
theorem d_M_carry_119 : decode me_M_carry.2.1 119 = .ok (.aload_n 0, 1) := by decide +kernel
theorem d_M_carry_120 : decode me_M_carry.2.1 120 = .ok (.getfield 110, 3) := by decide +kernel
theorem g_M_carry_120 : bm_gf me_M_carry 120 11 39 := ⟨_, _, _, _, d_M_carry_120, rfl, by decide, uw_M, fl_M_110⟩
theorem d_M_carry_123 : decode me_M_carry.2.1 123 = .ok (.iload 6, 2) := by decide +kernel
theorem d_M_carry_125 : decode me_M_carry.2.1 125 = .ok (.iaload, 1) := by decide +kernel
theorem d_M_carry_126 : decode me_M_carry.2.1 126 = .ok (.if_icmp .le (8), 3) := by decide +kernel
theorem d_M_carry_129 : decode me_M_carry.2.1 129 = .ok (.iload 7, 2) := by decide +kernel
theorem d_M_carry_131 : decode me_M_carry.2.1 131 = .ok (.goto (5), 3) := by decide +kernel
theorem d_M_carry_134 : decode me_M_carry.2.1 134 = .ok (.iload 6, 2) := by decide +kernel
theorem d_M_carry_136 : decode me_M_carry.2.1 136 = .ok (.istore 6, 2) := by decide +kernel
theorem d_M_carry_138 : decode me_M_carry.2.1 138 = .ok (.iinc 7 (1), 3) := by decide +kernel
theorem d_M_carry_141 : decode me_M_carry.2.1 141 = .ok (.goto (-40), 3) := by decide +kernel
theorem d_M_carry_144 : decode me_M_carry.2.1 144 = .ok (.aload_n 0, 1) := by decide +kernel
theorem d_M_carry_145 : decode me_M_carry.2.1 145 = .ok (.getfield 107, 3) := by decide +kernel
theorem g_M_carry_145 : bm_gf me_M_carry 145 11 38 := ⟨_, _, _, _, d_M_carry_145, rfl, by decide, uw_M, fl_M_107⟩
theorem d_M_carry_148 : decode me_M_carry.2.1 148 = .ok (.iload 6, 2) := by decide +kernel
theorem d_M_carry_150 : decode me_M_carry.2.1 150 = .ok (.dup2, 1) := by decide +kernel
theorem d_M_carry_151 : decode me_M_carry.2.1 151 = .ok (.iaload, 1) := by decide +kernel
theorem d_M_carry_152 : decode me_M_carry.2.1 152 = .ok (.iconst 1, 1) := by decide +kernel
theorem d_M_carry_153 : decode me_M_carry.2.1 153 = .ok (.iadd, 1) := by decide +kernel
theorem d_M_carry_154 : decode me_M_carry.2.1 154 = .ok (.iastore, 1) := by decide +kernel
theorem d_M_carry_155 : decode me_M_carry.2.1 155 = .ok (.aload_n 0, 1) := by decide +kernel
theorem d_M_carry_156 : decode me_M_carry.2.1 156 = .ok (.getfield 110, 3) := by decide +kernel
theorem g_M_carry_156 : bm_gf me_M_carry 156 11 39 := ⟨_, _, _, _, d_M_carry_156, rfl, by decide, uw_M, fl_M_110⟩
theorem d_M_carry_159 : decode me_M_carry.2.1 159 = .ok (.iload 6, 2) := by decide +kernel
theorem d_M_carry_161 : decode me_M_carry.2.1 161 = .ok (.iconst (-1), 1) := by decide +kernel
theorem d_M_carry_162 : decode me_M_carry.2.1 162 = .ok (.iastore, 1) := by decide +kernel
theorem d_M_carry_163 : decode me_M_carry.2.1 163 = .ok (.iinc 5 (-1), 3) := by decide +kernel
theorem d_M_carry_166 : decode me_M_carry.2.1 166 = .ok (.goto (-76), 3) := by decide +kernel
theorem d_M_carry_169 : decode me_M_carry.2.1 169 = .ok (.iconst 0, 1) := by decide +kernel
theorem d_M_carry_170 : decode me_M_carry.2.1 170 = .ok (.istore 6, 2) := by decide +kernel
theorem d_M_carry_172 : decode me_M_carry.2.1 172 = .ok (.iload 6, 2) := by decide +kernel
theorem d_M_carry_174 : decode me_M_carry.2.1 174 = .ok (.aload_n 0, 1) := by decide +kernel
theorem d_M_carry_175 : decode me_M_carry.2.1 175 = .ok (.getfield 16, 3) := by decide +kernel
theorem g_M_carry_175 : bm_gf me_M_carry 175 11 3 := ⟨_, _, _, _, d_M_carry_175, rfl, by decide, uw_M, fl_M_16⟩
theorem d_M_carry_178 : decode me_M_carry.2.1 178 = .ok (.iload_n 1, 1) := by decide +kernel
theorem d_M_carry_179 : decode me_M_carry.2.1 179 = .ok (.iaload, 1) := by decide +kernel
theorem d_M_carry_180 : decode me_M_carry.2.1 180 = .ok (.if_icmp .ge (65), 3) := by decide +kernel
theorem d_M_carry_183 : decode me_M_carry.2.1 183 = .ok (.aload_n 0, 1) := by decide +kernel
theorem d_M_carry_184 : decode me_M_carry.2.1 184 = .ok (.getfield 107, 3) := by decide +kernel
theorem g_M_carry_184 : bm_gf me_M_carry 184 11 38 := ⟨_, _, _, _, d_M_carry_184, rfl, by decide, uw_M, fl_M_107⟩
theorem d_M_carry_187 : decode me_M_carry.2.1 187 = .ok (.iload 6, 2) := by decide +kernel
theorem d_M_carry_189 : decode me_M_carry.2.1 189 = .ok (.iaload, 1) := by decide +kernel
theorem d_M_carry_190 : decode me_M_carry.2.1 190 = .ok (.ifCond .le (49), 3) := by decide +kernel
theorem d_M_carry_193 : decode me_M_carry.2.1 193 = .ok (.aload_n 0, 1) := by decide +kernel
theorem d_M_carry_194 : decode me_M_carry.2.1 194 = .ok (.iload_n 2, 1) := by decide +kernel
theorem d_M_carry_195 : decode me_M_carry.2.1 195 = .ok (.aload_n 0, 1) := by decide +kernel
theorem d_M_carry_196 : decode me_M_carry.2.1 196 = .ok (.getfield 19, 3) := by decide +kernel
theorem g_M_carry_196 : bm_gf me_M_carry 196 11 4 := ⟨_, _, _, _, d_M_carry_196, rfl, by decide, uw_M, fl_M_19⟩
theorem d_M_carry_199 : decode me_M_carry.2.1 199 = .ok (.bipush (100), 2) := by decide +kernel
theorem d_M_carry_201 : decode me_M_carry.2.1 201 = .ok (.iload_n 1, 1) := by decide +kernel
theorem d_M_carry_202 : decode me_M_carry.2.1 202 = .ok (.imul, 1) := by decide +kernel
theorem d_M_carry_203 : decode me_M_carry.2.1 203 = .ok (.iload 6, 2) := by decide +kernel
theorem d_M_carry_205 : decode me_M_carry.2.1 205 = .ok (.iadd, 1) := by decide +kernel
theorem d_M_carry_206 : decode me_M_carry.2.1 206 = .ok (.iaload, 1) := by decide +kernel
theorem d_M_carry_207 : decode me_M_carry.2.1 207 = .ok (.aload_n 0, 1) := by decide +kernel
theorem d_M_carry_208 : decode me_M_carry.2.1 208 = .ok (.getfield 107, 3) := by decide +kernel
theorem g_M_carry_208 : bm_gf me_M_carry 208 11 38 := ⟨_, _, _, _, d_M_carry_208, rfl, by decide, uw_M, fl_M_107⟩
theorem d_M_carry_211 : decode me_M_carry.2.1 211 = .ok (.iload 6, 2) := by decide +kernel
theorem d_M_carry_213 : decode me_M_carry.2.1 213 = .ok (.iaload, 1) := by decide +kernel
theorem d_M_carry_214 : decode me_M_carry.2.1 214 = .ok (.invokevirtual 192, 3) := by decide +kernel
theorem c_M_carry_214 : bm_iv me_M_carry me_M_add 214 11 3 := ⟨_, d_M_carry_214, Or.inl ml_M_192, ⟨kc_M_add, in_BatchHallModel, by decide +kernel, by decide, by decide⟩, ki_M_add, ks_M_add, _, _, rfl⟩
theorem d_M_carry_217 : decode me_M_carry.2.1 217 = .ok (.aload_n 0, 1) := by decide +kernel
theorem d_M_carry_218 : decode me_M_carry.2.1 218 = .ok (.getfield 22, 3) := by decide +kernel
theorem g_M_carry_218 : bm_gf me_M_carry 218 11 5 := ⟨_, _, _, _, d_M_carry_218, rfl, by decide, uw_M, fl_M_22⟩
theorem d_M_carry_221 : decode me_M_carry.2.1 221 = .ok (.bipush (100), 2) := by decide +kernel
theorem d_M_carry_223 : decode me_M_carry.2.1 223 = .ok (.iload_n 1, 1) := by decide +kernel
theorem d_M_carry_224 : decode me_M_carry.2.1 224 = .ok (.imul, 1) := by decide +kernel
theorem d_M_carry_225 : decode me_M_carry.2.1 225 = .ok (.iload 6, 2) := by decide +kernel
theorem d_M_carry_227 : decode me_M_carry.2.1 227 = .ok (.iadd, 1) := by decide +kernel
theorem d_M_carry_228 : decode me_M_carry.2.1 228 = .ok (.dup2, 1) := by decide +kernel
theorem d_M_carry_229 : decode me_M_carry.2.1 229 = .ok (.iaload, 1) := by decide +kernel
theorem d_M_carry_230 : decode me_M_carry.2.1 230 = .ok (.aload_n 0, 1) := by decide +kernel
theorem d_M_carry_231 : decode me_M_carry.2.1 231 = .ok (.getfield 107, 3) := by decide +kernel
theorem g_M_carry_231 : bm_gf me_M_carry 231 11 38 := ⟨_, _, _, _, d_M_carry_231, rfl, by decide, uw_M, fl_M_107⟩
theorem d_M_carry_234 : decode me_M_carry.2.1 234 = .ok (.iload 6, 2) := by decide +kernel
theorem d_M_carry_236 : decode me_M_carry.2.1 236 = .ok (.iaload, 1) := by decide +kernel
theorem d_M_carry_237 : decode me_M_carry.2.1 237 = .ok (.isub, 1) := by decide +kernel
theorem d_M_carry_238 : decode me_M_carry.2.1 238 = .ok (.iastore, 1) := by decide +kernel
theorem d_M_carry_239 : decode me_M_carry.2.1 239 = .ok (.iinc 6 (1), 3) := by decide +kernel
theorem d_M_carry_242 : decode me_M_carry.2.1 242 = .ok (.goto (-70), 3) := by decide +kernel
theorem d_M_carry_245 : decode me_M_carry.2.1 245 = .ok (.aload_n 0, 1) := by decide +kernel
theorem d_M_carry_246 : decode me_M_carry.2.1 246 = .ok (.iload_n 1, 1) := by decide +kernel
theorem d_M_carry_247 : decode me_M_carry.2.1 247 = .ok (.invokevirtual 196, 3) := by decide +kernel
theorem c_M_carry_247 : bm_iv me_M_carry me_M_tidy 247 11 1 := ⟨_, d_M_carry_247, Or.inl ml_M_196, ⟨kc_M_tidy, in_BatchHallModel, by decide +kernel, by decide, by decide⟩, ki_M_tidy, ks_M_tidy, _, _, rfl⟩
theorem d_M_carry_250 : decode me_M_carry.2.1 250 = .ok (.return_, 1) := by decide +kernel
theorem d_M_tidy_0 : decode me_M_tidy.2.1 0 = .ok (.iconst 0, 1) := by decide +kernel
theorem d_M_tidy_1 : decode me_M_tidy.2.1 1 = .ok (.istore_n 2, 1) := by decide +kernel
theorem d_M_tidy_2 : decode me_M_tidy.2.1 2 = .ok (.iconst 0, 1) := by decide +kernel
theorem d_M_tidy_3 : decode me_M_tidy.2.1 3 = .ok (.istore_n 3, 1) := by decide +kernel
theorem d_M_tidy_4 : decode me_M_tidy.2.1 4 = .ok (.iload_n 3, 1) := by decide +kernel
theorem d_M_tidy_5 : decode me_M_tidy.2.1 5 = .ok (.aload_n 0, 1) := by decide +kernel
theorem d_M_tidy_6 : decode me_M_tidy.2.1 6 = .ok (.getfield 16, 3) := by decide +kernel
theorem g_M_tidy_6 : bm_gf me_M_tidy 6 11 3 := ⟨_, _, _, _, d_M_tidy_6, rfl, by decide, uw_M, fl_M_16⟩
theorem d_M_tidy_9 : decode me_M_tidy.2.1 9 = .ok (.iload_n 1, 1) := by decide +kernel
theorem d_M_tidy_10 : decode me_M_tidy.2.1 10 = .ok (.iaload, 1) := by decide +kernel
theorem d_M_tidy_11 : decode me_M_tidy.2.1 11 = .ok (.if_icmp .ge (70), 3) := by decide +kernel
theorem d_M_tidy_14 : decode me_M_tidy.2.1 14 = .ok (.aload_n 0, 1) := by decide +kernel
theorem d_M_tidy_15 : decode me_M_tidy.2.1 15 = .ok (.getfield 22, 3) := by decide +kernel
theorem g_M_tidy_15 : bm_gf me_M_tidy 15 11 5 := ⟨_, _, _, _, d_M_tidy_15, rfl, by decide, uw_M, fl_M_22⟩
theorem d_M_tidy_18 : decode me_M_tidy.2.1 18 = .ok (.bipush (100), 2) := by decide +kernel
theorem d_M_tidy_20 : decode me_M_tidy.2.1 20 = .ok (.iload_n 1, 1) := by decide +kernel
theorem d_M_tidy_21 : decode me_M_tidy.2.1 21 = .ok (.imul, 1) := by decide +kernel
theorem d_M_tidy_22 : decode me_M_tidy.2.1 22 = .ok (.iload_n 3, 1) := by decide +kernel
theorem d_M_tidy_23 : decode me_M_tidy.2.1 23 = .ok (.iadd, 1) := by decide +kernel
theorem d_M_tidy_24 : decode me_M_tidy.2.1 24 = .ok (.iaload, 1) := by decide +kernel
theorem d_M_tidy_25 : decode me_M_tidy.2.1 25 = .ok (.ifCond .le (50), 3) := by decide +kernel
theorem d_M_tidy_28 : decode me_M_tidy.2.1 28 = .ok (.aload_n 0, 1) := by decide +kernel
theorem d_M_tidy_29 : decode me_M_tidy.2.1 29 = .ok (.getfield 19, 3) := by decide +kernel
theorem g_M_tidy_29 : bm_gf me_M_tidy 29 11 4 := ⟨_, _, _, _, d_M_tidy_29, rfl, by decide, uw_M, fl_M_19⟩
theorem d_M_tidy_32 : decode me_M_tidy.2.1 32 = .ok (.bipush (100), 2) := by decide +kernel
theorem d_M_tidy_34 : decode me_M_tidy.2.1 34 = .ok (.iload_n 1, 1) := by decide +kernel
theorem d_M_tidy_35 : decode me_M_tidy.2.1 35 = .ok (.imul, 1) := by decide +kernel
theorem d_M_tidy_36 : decode me_M_tidy.2.1 36 = .ok (.iload_n 2, 1) := by decide +kernel
theorem d_M_tidy_37 : decode me_M_tidy.2.1 37 = .ok (.iadd, 1) := by decide +kernel
theorem d_M_tidy_38 : decode me_M_tidy.2.1 38 = .ok (.aload_n 0, 1) := by decide +kernel
theorem d_M_tidy_39 : decode me_M_tidy.2.1 39 = .ok (.getfield 19, 3) := by decide +kernel
theorem g_M_tidy_39 : bm_gf me_M_tidy 39 11 4 := ⟨_, _, _, _, d_M_tidy_39, rfl, by decide, uw_M, fl_M_19⟩
theorem d_M_tidy_42 : decode me_M_tidy.2.1 42 = .ok (.bipush (100), 2) := by decide +kernel
theorem d_M_tidy_44 : decode me_M_tidy.2.1 44 = .ok (.iload_n 1, 1) := by decide +kernel
theorem d_M_tidy_45 : decode me_M_tidy.2.1 45 = .ok (.imul, 1) := by decide +kernel
theorem d_M_tidy_46 : decode me_M_tidy.2.1 46 = .ok (.iload_n 3, 1) := by decide +kernel
theorem d_M_tidy_47 : decode me_M_tidy.2.1 47 = .ok (.iadd, 1) := by decide +kernel
theorem d_M_tidy_48 : decode me_M_tidy.2.1 48 = .ok (.iaload, 1) := by decide +kernel
theorem d_M_tidy_49 : decode me_M_tidy.2.1 49 = .ok (.iastore, 1) := by decide +kernel
theorem d_M_tidy_50 : decode me_M_tidy.2.1 50 = .ok (.aload_n 0, 1) := by decide +kernel
theorem d_M_tidy_51 : decode me_M_tidy.2.1 51 = .ok (.getfield 22, 3) := by decide +kernel
theorem g_M_tidy_51 : bm_gf me_M_tidy 51 11 5 := ⟨_, _, _, _, d_M_tidy_51, rfl, by decide, uw_M, fl_M_22⟩
theorem d_M_tidy_54 : decode me_M_tidy.2.1 54 = .ok (.bipush (100), 2) := by decide +kernel
theorem d_M_tidy_56 : decode me_M_tidy.2.1 56 = .ok (.iload_n 1, 1) := by decide +kernel
theorem d_M_tidy_57 : decode me_M_tidy.2.1 57 = .ok (.imul, 1) := by decide +kernel
theorem d_M_tidy_58 : decode me_M_tidy.2.1 58 = .ok (.iload_n 2, 1) := by decide +kernel
theorem d_M_tidy_59 : decode me_M_tidy.2.1 59 = .ok (.iadd, 1) := by decide +kernel
theorem d_M_tidy_60 : decode me_M_tidy.2.1 60 = .ok (.aload_n 0, 1) := by decide +kernel
theorem d_M_tidy_61 : decode me_M_tidy.2.1 61 = .ok (.getfield 22, 3) := by decide +kernel
theorem g_M_tidy_61 : bm_gf me_M_tidy 61 11 5 := ⟨_, _, _, _, d_M_tidy_61, rfl, by decide, uw_M, fl_M_22⟩
theorem d_M_tidy_64 : decode me_M_tidy.2.1 64 = .ok (.bipush (100), 2) := by decide +kernel
theorem d_M_tidy_66 : decode me_M_tidy.2.1 66 = .ok (.iload_n 1, 1) := by decide +kernel
theorem d_M_tidy_67 : decode me_M_tidy.2.1 67 = .ok (.imul, 1) := by decide +kernel
theorem d_M_tidy_68 : decode me_M_tidy.2.1 68 = .ok (.iload_n 3, 1) := by decide +kernel
theorem d_M_tidy_69 : decode me_M_tidy.2.1 69 = .ok (.iadd, 1) := by decide +kernel
theorem d_M_tidy_70 : decode me_M_tidy.2.1 70 = .ok (.iaload, 1) := by decide +kernel
theorem d_M_tidy_71 : decode me_M_tidy.2.1 71 = .ok (.iastore, 1) := by decide +kernel
theorem d_M_tidy_72 : decode me_M_tidy.2.1 72 = .ok (.iinc 2 (1), 3) := by decide +kernel
theorem d_M_tidy_75 : decode me_M_tidy.2.1 75 = .ok (.iinc 3 (1), 3) := by decide +kernel
theorem d_M_tidy_78 : decode me_M_tidy.2.1 78 = .ok (.goto (-74), 3) := by decide +kernel
theorem d_M_tidy_81 : decode me_M_tidy.2.1 81 = .ok (.aload_n 0, 1) := by decide +kernel
theorem d_M_tidy_82 : decode me_M_tidy.2.1 82 = .ok (.getfield 16, 3) := by decide +kernel
theorem g_M_tidy_82 : bm_gf me_M_tidy 82 11 3 := ⟨_, _, _, _, d_M_tidy_82, rfl, by decide, uw_M, fl_M_16⟩
theorem d_M_tidy_85 : decode me_M_tidy.2.1 85 = .ok (.iload_n 1, 1) := by decide +kernel
theorem d_M_tidy_86 : decode me_M_tidy.2.1 86 = .ok (.iload_n 2, 1) := by decide +kernel
theorem d_M_tidy_87 : decode me_M_tidy.2.1 87 = .ok (.iastore, 1) := by decide +kernel
theorem d_M_tidy_88 : decode me_M_tidy.2.1 88 = .ok (.return_, 1) := by decide +kernel
theorem d_M_react_0 : decode me_M_react.2.1 0 = .ok (.aload_n 0, 1) := by decide +kernel
theorem d_M_react_1 : decode me_M_react.2.1 1 = .ok (.iload_n 2, 1) := by decide +kernel
theorem d_M_react_2 : decode me_M_react.2.1 2 = .ok (.invokevirtual 188, 3) := by decide +kernel
theorem c_M_react_2 : bm_iv me_M_react me_M_total 2 11 1 := ⟨_, d_M_react_2, Or.inl ml_M_188, ⟨kc_M_total, in_BatchHallModel, by decide +kernel, by decide, by decide⟩, ki_M_total, ks_M_total, _, _, rfl⟩
theorem d_M_react_5 : decode me_M_react.2.1 5 = .ok (.istore 4, 2) := by decide +kernel
theorem d_M_react_7 : decode me_M_react.2.1 7 = .ok (.iload 4, 2) := by decide +kernel
theorem d_M_react_9 : decode me_M_react.2.1 9 = .ok (.ifCond .ne (7), 3) := by decide +kernel
theorem d_M_react_12 : decode me_M_react.2.1 12 = .ok (.iconst (-1), 1) := by decide +kernel
theorem d_M_react_13 : decode me_M_react.2.1 13 = .ok (.goto (9), 3) := by decide +kernel
theorem d_M_react_16 : decode me_M_react.2.1 16 = .ok (.aload_n 0, 1) := by decide +kernel
theorem d_M_react_17 : decode me_M_react.2.1 17 = .ok (.iload_n 1, 1) := by decide +kernel
theorem d_M_react_18 : decode me_M_react.2.1 18 = .ok (.iload_n 3, 1) := by decide +kernel
theorem d_M_react_19 : decode me_M_react.2.1 19 = .ok (.invokevirtual 210, 3) := by decide +kernel
theorem c_M_react_19 : bm_iv me_M_react me_M_newLot 19 11 2 := ⟨_, d_M_react_19, Or.inl ml_M_210, ⟨kc_M_newLot, in_BatchHallModel, by decide +kernel, by decide, by decide⟩, ki_M_newLot, ks_M_newLot, _, _, rfl⟩
theorem d_M_react_22 : decode me_M_react.2.1 22 = .ok (.istore 5, 2) := by decide +kernel
theorem d_M_react_24 : decode me_M_react.2.1 24 = .ok (.iload 5, 2) := by decide +kernel
theorem d_M_react_26 : decode me_M_react.2.1 26 = .ok (.iconst (-1), 1) := by decide +kernel
theorem d_M_react_27 : decode me_M_react.2.1 27 = .ok (.if_icmp .ne (4), 3) := by decide +kernel
theorem d_M_react_30 : decode me_M_react.2.1 30 = .ok (.return_, 1) := by decide +kernel
theorem d_M_react_31 : decode me_M_react.2.1 31 = .ok (.iconst 0, 1) := by decide +kernel
theorem d_M_react_32 : decode me_M_react.2.1 32 = .ok (.istore 6, 2) := by decide +kernel
theorem d_M_react_34 : decode me_M_react.2.1 34 = .ok (.iload 6, 2) := by decide +kernel
theorem d_M_react_36 : decode me_M_react.2.1 36 = .ok (.aload_n 0, 1) := by decide +kernel
theorem d_M_react_37 : decode me_M_react.2.1 37 = .ok (.getfield 16, 3) := by decide +kernel
theorem g_M_react_37 : bm_gf me_M_react 37 11 3 := ⟨_, _, _, _, d_M_react_37, rfl, by decide, uw_M, fl_M_16⟩
theorem d_M_react_40 : decode me_M_react.2.1 40 = .ok (.iload_n 2, 1) := by decide +kernel
theorem d_M_react_41 : decode me_M_react.2.1 41 = .ok (.iaload, 1) := by decide +kernel
theorem d_M_react_42 : decode me_M_react.2.1 42 = .ok (.if_icmp .ge (61), 3) := by decide +kernel
theorem d_M_react_45 : decode me_M_react.2.1 45 = .ok (.aload_n 0, 1) := by decide +kernel
theorem d_M_react_46 : decode me_M_react.2.1 46 = .ok (.getfield 101, 3) := by decide +kernel
theorem g_M_react_46 : bm_gf me_M_react 46 11 36 := ⟨_, _, _, _, d_M_react_46, rfl, by decide, uw_M, fl_M_101⟩
theorem d_M_react_49 : decode me_M_react.2.1 49 = .ok (.aload_n 0, 1) := by decide +kernel
theorem d_M_react_50 : decode me_M_react.2.1 50 = .ok (.getfield 207, 3) := by decide +kernel
theorem g_M_react_50 : bm_gf me_M_react 50 11 32 := ⟨_, _, _, _, d_M_react_50, rfl, by decide, uw_M, fl_M_207⟩
theorem d_M_react_53 : decode me_M_react.2.1 53 = .ok (.aload_n 0, 1) := by decide +kernel
theorem d_M_react_54 : decode me_M_react.2.1 54 = .ok (.getfield 19, 3) := by decide +kernel
theorem g_M_react_54 : bm_gf me_M_react 54 11 4 := ⟨_, _, _, _, d_M_react_54, rfl, by decide, uw_M, fl_M_19⟩
theorem d_M_react_57 : decode me_M_react.2.1 57 = .ok (.bipush (100), 2) := by decide +kernel
theorem d_M_react_59 : decode me_M_react.2.1 59 = .ok (.iload_n 2, 1) := by decide +kernel
theorem d_M_react_60 : decode me_M_react.2.1 60 = .ok (.imul, 1) := by decide +kernel
theorem d_M_react_61 : decode me_M_react.2.1 61 = .ok (.iload 6, 2) := by decide +kernel
theorem d_M_react_63 : decode me_M_react.2.1 63 = .ok (.iadd, 1) := by decide +kernel
theorem d_M_react_64 : decode me_M_react.2.1 64 = .ok (.iaload, 1) := by decide +kernel
theorem d_M_react_65 : decode me_M_react.2.1 65 = .ok (.iastore, 1) := by decide +kernel
theorem d_M_react_66 : decode me_M_react.2.1 66 = .ok (.aload_n 0, 1) := by decide +kernel
theorem d_M_react_67 : decode me_M_react.2.1 67 = .ok (.getfield 104, 3) := by decide +kernel
theorem g_M_react_67 : bm_gf me_M_react 67 11 37 := ⟨_, _, _, _, d_M_react_67, rfl, by decide, uw_M, fl_M_104⟩
theorem d_M_react_70 : decode me_M_react.2.1 70 = .ok (.aload_n 0, 1) := by decide +kernel
theorem d_M_react_71 : decode me_M_react.2.1 71 = .ok (.getfield 207, 3) := by decide +kernel
theorem g_M_react_71 : bm_gf me_M_react 71 11 32 := ⟨_, _, _, _, d_M_react_71, rfl, by decide, uw_M, fl_M_207⟩
theorem d_M_react_74 : decode me_M_react.2.1 74 = .ok (.aload_n 0, 1) := by decide +kernel
theorem d_M_react_75 : decode me_M_react.2.1 75 = .ok (.getfield 22, 3) := by decide +kernel
theorem g_M_react_75 : bm_gf me_M_react 75 11 5 := ⟨_, _, _, _, d_M_react_75, rfl, by decide, uw_M, fl_M_22⟩
theorem d_M_react_78 : decode me_M_react.2.1 78 = .ok (.bipush (100), 2) := by decide +kernel
theorem d_M_react_80 : decode me_M_react.2.1 80 = .ok (.iload_n 2, 1) := by decide +kernel
theorem d_M_react_81 : decode me_M_react.2.1 81 = .ok (.imul, 1) := by decide +kernel
theorem d_M_react_82 : decode me_M_react.2.1 82 = .ok (.iload 6, 2) := by decide +kernel
theorem d_M_react_84 : decode me_M_react.2.1 84 = .ok (.iadd, 1) := by decide +kernel
theorem d_M_react_85 : decode me_M_react.2.1 85 = .ok (.iaload, 1) := by decide +kernel
theorem d_M_react_86 : decode me_M_react.2.1 86 = .ok (.iastore, 1) := by decide +kernel
theorem d_M_react_87 : decode me_M_react.2.1 87 = .ok (.aload_n 0, 1) := by decide +kernel
theorem d_M_react_88 : decode me_M_react.2.1 88 = .ok (.dup, 1) := by decide +kernel
theorem d_M_react_89 : decode me_M_react.2.1 89 = .ok (.getfield 207, 3) := by decide +kernel
theorem g_M_react_89 : bm_gf me_M_react 89 11 32 := ⟨_, _, _, _, d_M_react_89, rfl, by decide, uw_M, fl_M_207⟩
theorem d_M_react_92 : decode me_M_react.2.1 92 = .ok (.iconst 1, 1) := by decide +kernel
theorem d_M_react_93 : decode me_M_react.2.1 93 = .ok (.iadd, 1) := by decide +kernel
theorem d_M_react_94 : decode me_M_react.2.1 94 = .ok (.putfield 207, 3) := by decide +kernel
theorem p_M_react_94 : bm_pf me_M_react 94 11 32 .int := ⟨_, _, _, _, ty_M, d_M_react_94, rfl, by decide, uw_M, fl_M_207, tk_M, nm_M, rfl, Or.inl rfl⟩
theorem d_M_react_97 : decode me_M_react.2.1 97 = .ok (.iinc 6 (1), 3) := by decide +kernel
theorem d_M_react_100 : decode me_M_react.2.1 100 = .ok (.goto (-66), 3) := by decide +kernel
theorem d_M_react_103 : decode me_M_react.2.1 103 = .ok (.aload_n 0, 1) := by decide +kernel
theorem d_M_react_104 : decode me_M_react.2.1 104 = .ok (.getfield 98, 3) := by decide +kernel
theorem g_M_react_104 : bm_gf me_M_react 104 11 35 := ⟨_, _, _, _, d_M_react_104, rfl, by decide, uw_M, fl_M_98⟩
theorem d_M_react_107 : decode me_M_react.2.1 107 = .ok (.aload_n 0, 1) := by decide +kernel
theorem d_M_react_108 : decode me_M_react.2.1 108 = .ok (.getfield 200, 3) := by decide +kernel
theorem g_M_react_108 : bm_gf me_M_react 108 11 31 := ⟨_, _, _, _, d_M_react_108, rfl, by decide, uw_M, fl_M_200⟩
theorem d_M_react_111 : decode me_M_react.2.1 111 = .ok (.aload_n 0, 1) := by decide +kernel
theorem d_M_react_112 : decode me_M_react.2.1 112 = .ok (.getfield 207, 3) := by decide +kernel
theorem g_M_react_112 : bm_gf me_M_react 112 11 32 := ⟨_, _, _, _, d_M_react_112, rfl, by decide, uw_M, fl_M_207⟩
theorem d_M_react_115 : decode me_M_react.2.1 115 = .ok (.iastore, 1) := by decide +kernel
theorem d_M_react_116 : decode me_M_react.2.1 116 = .ok (.aload_n 0, 1) := by decide +kernel
theorem d_M_react_117 : decode me_M_react.2.1 117 = .ok (.getfield 16, 3) := by decide +kernel
theorem g_M_react_117 : bm_gf me_M_react 117 11 3 := ⟨_, _, _, _, d_M_react_117, rfl, by decide, uw_M, fl_M_16⟩
theorem d_M_react_120 : decode me_M_react.2.1 120 = .ok (.iload_n 2, 1) := by decide +kernel
theorem d_M_react_121 : decode me_M_react.2.1 121 = .ok (.iconst 1, 1) := by decide +kernel
theorem d_M_react_122 : decode me_M_react.2.1 122 = .ok (.iastore, 1) := by decide +kernel
theorem d_M_react_123 : decode me_M_react.2.1 123 = .ok (.aload_n 0, 1) := by decide +kernel
theorem d_M_react_124 : decode me_M_react.2.1 124 = .ok (.getfield 19, 3) := by decide +kernel
theorem g_M_react_124 : bm_gf me_M_react 124 11 4 := ⟨_, _, _, _, d_M_react_124, rfl, by decide, uw_M, fl_M_19⟩
theorem d_M_react_127 : decode me_M_react.2.1 127 = .ok (.bipush (100), 2) := by decide +kernel
theorem d_M_react_129 : decode me_M_react.2.1 129 = .ok (.iload_n 2, 1) := by decide +kernel
theorem d_M_react_130 : decode me_M_react.2.1 130 = .ok (.imul, 1) := by decide +kernel
theorem d_M_react_131 : decode me_M_react.2.1 131 = .ok (.iload 5, 2) := by decide +kernel
theorem d_M_react_133 : decode me_M_react.2.1 133 = .ok (.iastore, 1) := by decide +kernel
theorem d_M_react_134 : decode me_M_react.2.1 134 = .ok (.aload_n 0, 1) := by decide +kernel
theorem d_M_react_135 : decode me_M_react.2.1 135 = .ok (.getfield 22, 3) := by decide +kernel
theorem g_M_react_135 : bm_gf me_M_react 135 11 5 := ⟨_, _, _, _, d_M_react_135, rfl, by decide, uw_M, fl_M_22⟩
theorem d_M_react_138 : decode me_M_react.2.1 138 = .ok (.bipush (100), 2) := by decide +kernel
theorem d_M_react_140 : decode me_M_react.2.1 140 = .ok (.iload_n 2, 1) := by decide +kernel
theorem d_M_react_141 : decode me_M_react.2.1 141 = .ok (.imul, 1) := by decide +kernel
theorem d_M_react_142 : decode me_M_react.2.1 142 = .ok (.iload 4, 2) := by decide +kernel
theorem d_M_react_144 : decode me_M_react.2.1 144 = .ok (.iastore, 1) := by decide +kernel
theorem d_M_react_145 : decode me_M_react.2.1 145 = .ok (.return_, 1) := by decide +kernel
theorem d_M_newLot_0 : decode me_M_newLot.2.1 0 = .ok (.aload_n 0, 1) := by decide +kernel
theorem d_M_newLot_1 : decode me_M_newLot.2.1 1 = .ok (.getfield 200, 3) := by decide +kernel
theorem g_M_newLot_1 : bm_gf me_M_newLot 1 11 31 := ⟨_, _, _, _, d_M_newLot_1, rfl, by decide, uw_M, fl_M_200⟩
theorem d_M_newLot_4 : decode me_M_newLot.2.1 4 = .ok (.bipush (100), 2) := by decide +kernel
theorem d_M_newLot_6 : decode me_M_newLot.2.1 6 = .ok (.if_icmp .ne (12), 3) := by decide +kernel
theorem d_M_newLot_9 : decode me_M_newLot.2.1 9 = .ok (.aload_n 0, 1) := by decide +kernel
theorem d_M_newLot_10 : decode me_M_newLot.2.1 10 = .ok (.iload_n 1, 1) := by decide +kernel
theorem d_M_newLot_11 : decode me_M_newLot.2.1 11 = .ok (.bipush (6), 2) := by decide +kernel
theorem d_M_newLot_13 : decode me_M_newLot.2.1 13 = .ok (.invokevirtual 203, 3) := by decide +kernel
theorem c_M_newLot_13 : bm_iv me_M_newLot me_M_close 13 11 2 := ⟨_, d_M_newLot_13, Or.inl ml_M_203, ⟨kc_M_close, in_BatchHallModel, by decide +kernel, by decide, by decide⟩, ki_M_close, ks_M_close, _, _, rfl⟩
theorem d_M_newLot_16 : decode me_M_newLot.2.1 16 = .ok (.iconst (-1), 1) := by decide +kernel
theorem d_M_newLot_17 : decode me_M_newLot.2.1 17 = .ok (.ireturn, 1) := by decide +kernel
theorem d_M_newLot_18 : decode me_M_newLot.2.1 18 = .ok (.aload_n 0, 1) := by decide +kernel
theorem d_M_newLot_19 : decode me_M_newLot.2.1 19 = .ok (.getfield 92, 3) := by decide +kernel
theorem g_M_newLot_19 : bm_gf me_M_newLot 19 11 33 := ⟨_, _, _, _, d_M_newLot_19, rfl, by decide, uw_M, fl_M_92⟩
theorem d_M_newLot_22 : decode me_M_newLot.2.1 22 = .ok (.aload_n 0, 1) := by decide +kernel
theorem d_M_newLot_23 : decode me_M_newLot.2.1 23 = .ok (.getfield 200, 3) := by decide +kernel
theorem g_M_newLot_23 : bm_gf me_M_newLot 23 11 31 := ⟨_, _, _, _, d_M_newLot_23, rfl, by decide, uw_M, fl_M_200⟩
theorem d_M_newLot_26 : decode me_M_newLot.2.1 26 = .ok (.iload_n 1, 1) := by decide +kernel
theorem d_M_newLot_27 : decode me_M_newLot.2.1 27 = .ok (.iastore, 1) := by decide +kernel
theorem d_M_newLot_28 : decode me_M_newLot.2.1 28 = .ok (.aload_n 0, 1) := by decide +kernel
theorem d_M_newLot_29 : decode me_M_newLot.2.1 29 = .ok (.getfield 95, 3) := by decide +kernel
theorem g_M_newLot_29 : bm_gf me_M_newLot 29 11 34 := ⟨_, _, _, _, d_M_newLot_29, rfl, by decide, uw_M, fl_M_95⟩
theorem d_M_newLot_32 : decode me_M_newLot.2.1 32 = .ok (.aload_n 0, 1) := by decide +kernel
theorem d_M_newLot_33 : decode me_M_newLot.2.1 33 = .ok (.getfield 200, 3) := by decide +kernel
theorem g_M_newLot_33 : bm_gf me_M_newLot 33 11 31 := ⟨_, _, _, _, d_M_newLot_33, rfl, by decide, uw_M, fl_M_200⟩
theorem d_M_newLot_36 : decode me_M_newLot.2.1 36 = .ok (.iload_n 2, 1) := by decide +kernel
theorem d_M_newLot_37 : decode me_M_newLot.2.1 37 = .ok (.iastore, 1) := by decide +kernel
theorem d_M_newLot_38 : decode me_M_newLot.2.1 38 = .ok (.aload_n 0, 1) := by decide +kernel
theorem d_M_newLot_39 : decode me_M_newLot.2.1 39 = .ok (.dup, 1) := by decide +kernel
theorem d_M_newLot_40 : decode me_M_newLot.2.1 40 = .ok (.getfield 200, 3) := by decide +kernel
theorem g_M_newLot_40 : bm_gf me_M_newLot 40 11 31 := ⟨_, _, _, _, d_M_newLot_40, rfl, by decide, uw_M, fl_M_200⟩
theorem d_M_newLot_43 : decode me_M_newLot.2.1 43 = .ok (.iconst 1, 1) := by decide +kernel
theorem d_M_newLot_44 : decode me_M_newLot.2.1 44 = .ok (.iadd, 1) := by decide +kernel
theorem d_M_newLot_45 : decode me_M_newLot.2.1 45 = .ok (.putfield 200, 3) := by decide +kernel
theorem p_M_newLot_45 : bm_pf me_M_newLot 45 11 31 .int := ⟨_, _, _, _, ty_M, d_M_newLot_45, rfl, by decide, uw_M, fl_M_200, tk_M, nm_M, rfl, Or.inl rfl⟩
theorem d_M_newLot_48 : decode me_M_newLot.2.1 48 = .ok (.aload_n 0, 1) := by decide +kernel
theorem d_M_newLot_49 : decode me_M_newLot.2.1 49 = .ok (.getfield 98, 3) := by decide +kernel
theorem g_M_newLot_49 : bm_gf me_M_newLot 49 11 35 := ⟨_, _, _, _, d_M_newLot_49, rfl, by decide, uw_M, fl_M_98⟩
theorem d_M_newLot_52 : decode me_M_newLot.2.1 52 = .ok (.aload_n 0, 1) := by decide +kernel
theorem d_M_newLot_53 : decode me_M_newLot.2.1 53 = .ok (.getfield 200, 3) := by decide +kernel
theorem g_M_newLot_53 : bm_gf me_M_newLot 53 11 31 := ⟨_, _, _, _, d_M_newLot_53, rfl, by decide, uw_M, fl_M_200⟩
theorem d_M_newLot_56 : decode me_M_newLot.2.1 56 = .ok (.aload_n 0, 1) := by decide +kernel
theorem d_M_newLot_57 : decode me_M_newLot.2.1 57 = .ok (.getfield 207, 3) := by decide +kernel
theorem g_M_newLot_57 : bm_gf me_M_newLot 57 11 32 := ⟨_, _, _, _, d_M_newLot_57, rfl, by decide, uw_M, fl_M_207⟩
theorem d_M_newLot_60 : decode me_M_newLot.2.1 60 = .ok (.iastore, 1) := by decide +kernel
theorem d_M_newLot_61 : decode me_M_newLot.2.1 61 = .ok (.aload_n 0, 1) := by decide +kernel
theorem d_M_newLot_62 : decode me_M_newLot.2.1 62 = .ok (.getfield 200, 3) := by decide +kernel
theorem g_M_newLot_62 : bm_gf me_M_newLot 62 11 31 := ⟨_, _, _, _, d_M_newLot_62, rfl, by decide, uw_M, fl_M_200⟩
theorem d_M_newLot_65 : decode me_M_newLot.2.1 65 = .ok (.iconst 1, 1) := by decide +kernel
theorem d_M_newLot_66 : decode me_M_newLot.2.1 66 = .ok (.isub, 1) := by decide +kernel
theorem d_M_newLot_67 : decode me_M_newLot.2.1 67 = .ok (.ireturn, 1) := by decide +kernel
