theorem E_M_works {G : bm_G} {f : Nat} {l1 : Int32} {l2 : Int32} {s sz : rx_S} {r : Int32} {Q : Int32 → rx_S → Prop} (h : D_M_works f l1 l2 s = some (r, sz)) (hq : Q r sz) : rx_Ti G me_M_works [.ref rx_o, .int (l1), .int (l2)] s Q := by
  refine rx_meti (by decide) rfl (Nat.le_of_ble_eq_true rfl) ?_
  generalize hQ : (fun (v : bm_R) (s2 : rx_S) => ∃ x, v = .inl (some (.int x)) ∧ Q x s2) = Q2
  replace hq : Q2 (.inl (some (.int (r)))) sz := by rw [← hQ]; exact ⟨_, rfl, hq⟩
  clear hQ
  unfold D_M_works at h
  refine rx_bipush (v := nI 8) d_M_works_0 (by decide) ?_
  refine rx_iload_n d_M_works_2 rfl ?_
  refine rx_imul d_M_works_3 ?_
  refine rx_iload_n d_M_works_4 rfl ?_
  refine rx_iadd d_M_works_5 ?_
  refine rx_istore_n d_M_works_6 (by decide) ?_
  refine rx_aload_n d_M_works_7 rfl ?_
  refine rx_iload_n d_M_works_8 rfl ?_
  refine rx_iload_n d_M_works_9 rfl ?_
  obtain ⟨x1, s2, ex1, h⟩ := ob_inv h
  refine rx_callV2 c_M_works_10 (Nat.le_of_ble_eq_true rfl) (E_M_stepAt ex1 ?_)
  refine rx_istore d_M_works_13 (by decide) ?_
  refine rx_aload_n d_M_works_15 rfl ?_
  refine rx_gaf g_M_works_16 (by decide) ?_
  refine rx_iconst (v := nI 3) d_M_works_19 (by decide) ?_
  refine rx_iload_n d_M_works_20 rfl ?_
  refine rx_imul d_M_works_21 ?_
  refine rx_aload_n d_M_works_22 rfl ?_
  refine rx_gaf g_M_works_23 (by decide) ?_
  refine rx_iload d_M_works_26 rfl ?_
  obtain ⟨j3, hj3, ej3, h⟩ := og_inv (by decide) h
  refine rx_iald d_M_works_28 rfl ej3 hj3 ?_
  refine rx_iadd d_M_works_29 ?_
  obtain ⟨j4, hj4, ej4, h⟩ := og_inv (by decide) h
  refine rx_iald d_M_works_30 rfl ej4 hj4 ?_
  refine rx_istore d_M_works_31 (by decide) ?_
  refine rx_aload_n d_M_works_33 rfl ?_
  refine rx_gaf g_M_works_34 (by decide) ?_
  refine rx_iload_n d_M_works_37 rfl ?_
  obtain ⟨j5, hj5, ej5, h⟩ := og_inv (by decide) h
  refine rx_iald d_M_works_38 rfl ej5 hj5 ?_
  refine rx_bipush (v := nI 10) d_M_works_39 (by decide) ?_
  refine oj_step (P := fun J6 : Int32 → Option (Int32 × rx_S) => ∀ (x7 : Int32) (d2 : Option Value) (d6 : Option Value) (d7 : Option Value), J6 x7 = some (r, sz) → rx G me_M_works 55 [some (.ref rx_o), some (.int (l1)), d2, some (.int (((nI 8) * l1) + l2)), some (.int (x1)), some (.int (s2 22 j4)), d6, d7] [.int (x7)] s2 Q2) h ?_ ?_
  · intro x7 d2 d6 d7 h
    refine rx_istore d_M_works_55 (by decide) ?_
    refine rx_aload_n d_M_works_57 rfl ?_
    refine rx_gaf g_M_works_58 (by decide) ?_
    refine rx_iload d_M_works_61 rfl ?_
    refine rx_iald d_M_works_63 rfl ej3 hj3 ?_
    by_cases e64_0 : (s2 9 j3) = nI 0
    · rw [if_pos e64_0] at h
      refine rx_tab (tgt := 100) d_M_works_64 0 e64_0 (by decide) (by decide) (by rfl) (by decide) ?_
      refine rx_iload d_M_works_100 rfl ?_
      refine oj_step (P := fun J8 : rx_S → Option (Int32 × rx_S) => ∀ (s9 : rx_S) (d1 : Option Value) (d2 : Option Value) (d4 : Option Value) (d5 : Option Value) (d7 : Option Value), J8 s9 = some (r, sz) → rx G me_M_works 119 [some (.ref rx_o), d1, d2, some (.int (((nI 8) * l1) + l2)), d4, d5, some (.int (x7)), d7] [] s9 Q2) h ?_ ?_
      · intro s9 d1 d2 d4 d5 d7 h
        refine rx_aload_n d_M_works_119 rfl ?_
        refine rx_gaf g_M_works_120 (by decide) ?_
        refine rx_iload_n d_M_works_123 rfl ?_
        refine rx_dup2 d_M_works_124 rfl rfl ?_
        refine rx_iald d_M_works_125 rfl ej5 hj5 ?_
        refine rx_iload d_M_works_126 rfl ?_
        refine rx_isub d_M_works_128 ?_
        refine rx_iast d_M_works_129 rfl ej5 hj5 ?_
        refine rx_aload_n d_M_works_130 rfl ?_
        refine rx_gaf g_M_works_131 (by decide) ?_
        refine rx_iload_n d_M_works_134 rfl ?_
        refine rx_iald d_M_works_135 rfl ej5 hj5 ?_
        refine oj_step (P := fun J10 : Int32 → Option (Int32 × rx_S) => ∀ (x11 : Int32) (d0 : Option Value) (d1 : Option Value) (d2 : Option Value) (d3 : Option Value) (d4 : Option Value) (d5 : Option Value) (d6 : Option Value) (d7 : Option Value), J10 x11 = some (r, sz) → rx G me_M_works 144 [d0, d1, d2, d3, d4, d5, d6, d7] [.int (x11)] (rx_up s9 24 j5 ((s9 24 j5) - x7)) Q2) h ?_ ?_
        · intro x11 d0 d1 d2 d3 d4 d5 d6 d7 h
          obtain ⟨hz, h⟩ := ozb_inv h
          exact rx_zret d_M_works_144 rfl (ozb_nar hz) (ox_i hq h)
        clear h
        intro J10 hJ1 h
        refine rx_if_ne (tgt := 143) d_M_works_136 (by decide) (fun hc136 => ?_) (fun hc136 => ?_)
        · rw [if_neg hc136] at h
          refine rx_iconst (v := nI 0) d_M_works_143 (by decide) ?_
          exact hJ1 _ _ _ _ _ _ _ _ _ h
        · rw [if_pos hc136] at h
          refine rx_iconst (v := nI 1) d_M_works_139 (by decide) ?_
          refine rx_goto (tgt := 144) d_M_works_140 (by decide) ?_
          exact hJ1 _ _ _ _ _ _ _ _ _ h
      clear h
      intro J8 hJ2 h
      refine rx_if_le (tgt := 119) d_M_works_102 (by decide) (fun hc102 => ?_) (fun hc102 => ?_)
      · rw [if_pos hc102] at h
        exact hJ2 _ _ _ _ _ _ h
      · rw [if_neg hc102] at h
        refine rx_aload_n d_M_works_105 rfl ?_
        refine rx_iload d_M_works_106 rfl ?_
        refine rx_aload_n d_M_works_108 rfl ?_
        refine rx_gaf g_M_works_109 (by decide) ?_
        refine rx_iload_n d_M_works_112 rfl ?_
        refine rx_iald d_M_works_113 rfl ej5 hj5 ?_
        refine rx_iload d_M_works_114 rfl ?_
        obtain ⟨x12, s13, ex12, h⟩ := ob_inv h
        refine rx_callV3v c_M_works_116 (Nat.le_of_ble_eq_true rfl) (E_M_add ex12 ?_)
        exact hJ2 _ _ _ _ _ _ h
    rw [if_neg e64_0] at h
    by_cases e64_1 : (s2 9 j3) = nI 1
    · rw [if_pos e64_1] at h
      refine rx_tab (tgt := 246) d_M_works_64 1 e64_1 (by decide) (by decide) (by rfl) (by decide) ?_
      refine rx_aload_n d_M_works_246 rfl ?_
      refine rx_gaf g_M_works_247 (by decide) ?_
      refine rx_iload_n d_M_works_250 rfl ?_
      refine rx_dup2 d_M_works_251 rfl rfl ?_
      refine rx_iald d_M_works_252 rfl ej5 hj5 ?_
      refine rx_iconst (v := nI 1) d_M_works_253 (by decide) ?_
      refine rx_isub d_M_works_254 ?_
      refine rx_iast d_M_works_255 rfl ej5 hj5 ?_
      refine rx_aload_n d_M_works_256 rfl ?_
      refine rx_gaf g_M_works_257 (by decide) ?_
      refine rx_iload_n d_M_works_260 rfl ?_
      refine rx_iald d_M_works_261 rfl ej5 hj5 ?_
      refine oj_step (P := fun J14 : rx_S → Option (Int32 × rx_S) => ∀ (s15 : rx_S) (d1 : Option Value) (d2 : Option Value) (d4 : Option Value) (d5 : Option Value) (d6 : Option Value) (d7 : Option Value), J14 s15 = some (r, sz) → rx G me_M_works 289 [some (.ref rx_o), d1, d2, some (.int (((nI 8) * l1) + l2)), d4, d5, d6, d7] [] s15 Q2) h ?_ ?_
      · intro s15 d1 d2 d4 d5 d6 d7 h
        refine rx_aload_n d_M_works_289 rfl ?_
        refine rx_gaf g_M_works_290 (by decide) ?_
        refine rx_iload_n d_M_works_293 rfl ?_
        refine rx_iald d_M_works_294 rfl ej5 hj5 ?_
        refine oj_step (P := fun J16 : Int32 → Option (Int32 × rx_S) => ∀ (x17 : Int32) (d0 : Option Value) (d1 : Option Value) (d2 : Option Value) (d3 : Option Value) (d4 : Option Value) (d5 : Option Value) (d6 : Option Value) (d7 : Option Value), J16 x17 = some (r, sz) → rx G me_M_works 303 [d0, d1, d2, d3, d4, d5, d6, d7] [.int (x17)] s15 Q2) h ?_ ?_
        · intro x17 d0 d1 d2 d3 d4 d5 d6 d7 h
          obtain ⟨hz, h⟩ := ozb_inv h
          exact rx_zret d_M_works_303 rfl (ozb_nar hz) (ox_i hq h)
        clear h
        intro J16 hJ3 h
        refine rx_if_ne (tgt := 302) d_M_works_295 (by decide) (fun hc295 => ?_) (fun hc295 => ?_)
        · rw [if_neg hc295] at h
          refine rx_iconst (v := nI 0) d_M_works_302 (by decide) ?_
          exact hJ3 _ _ _ _ _ _ _ _ _ h
        · rw [if_pos hc295] at h
          refine rx_iconst (v := nI 1) d_M_works_298 (by decide) ?_
          refine rx_goto (tgt := 303) d_M_works_299 (by decide) ?_
          exact hJ3 _ _ _ _ _ _ _ _ _ h
      clear h
      intro J14 hJ4 h
      refine rx_if_ne (tgt := 289) d_M_works_262 (by decide) (fun hc262 => ?_) (fun hc262 => ?_)
      · rw [if_neg hc262] at h
        exact hJ4 _ _ _ _ _ _ _ h
      · rw [if_pos hc262] at h
        refine rx_aload_n d_M_works_265 rfl ?_
        refine rx_gaf g_M_works_266 (by decide) ?_
        refine rx_iload d_M_works_269 rfl ?_
        refine rx_iald d_M_works_271 rfl ej3 hj3 ?_
        refine rx_iconst (v := nI 3) d_M_works_272 (by decide) ?_
        refine rx_icmp_ne (tgt := 289) d_M_works_273 (by decide) (fun hc273 => ?_) (fun hc273 => ?_)
        · rw [if_neg hc273] at h
          exact hJ4 _ _ _ _ _ _ _ h
        · rw [if_pos hc273] at h
          refine rx_aload_n d_M_works_276 rfl ?_
          refine rx_iload_n d_M_works_277 rfl ?_
          refine rx_iload d_M_works_278 rfl ?_
          refine rx_aload_n d_M_works_280 rfl ?_
          refine rx_gaf g_M_works_281 (by decide) ?_
          refine rx_iload_n d_M_works_284 rfl ?_
          refine rx_iald d_M_works_285 rfl ej5 hj5 ?_
          obtain ⟨x18, s19, ex18, h⟩ := ob_inv h
          refine rx_callV3v c_M_works_286 (Nat.le_of_ble_eq_true rfl) (E_M_react ex18 ?_)
          exact hJ4 _ _ _ _ _ _ _ h
    rw [if_neg e64_1] at h
    by_cases e64_2 : (s2 9 j3) = nI 2
    · rw [if_pos e64_2] at h
      refine rx_tab (tgt := 145) d_M_works_64 2 e64_2 (by decide) (by decide) (by rfl) (by decide) ?_
      refine rx_aload_n d_M_works_145 rfl ?_
      refine rx_iload d_M_works_146 rfl ?_
      obtain ⟨x20, s21, ex20, h⟩ := ob_inv h
      refine rx_callV1 c_M_works_148 (Nat.le_of_ble_eq_true rfl) (E_M_total ex20 ?_)
      refine rx_istore d_M_works_151 (by decide) ?_
      refine rx_aload_n d_M_works_153 rfl ?_
      refine rx_gaf g_M_works_154 (by decide) ?_
      refine rx_iload_n d_M_works_157 rfl ?_
      refine rx_iload d_M_works_158 rfl ?_
      refine rx_iload d_M_works_160 rfl ?_
      refine oj_step (P := fun J22 : Int32 → Option (Int32 × rx_S) => ∀ (x23 : Int32) (d2 : Option Value), J22 x23 = some (r, sz) → rx G me_M_works 178 [some (.ref rx_o), some (.int (l1)), d2, some (.int (((nI 8) * l1) + l2)), some (.int (x1)), some (.int (s2 22 j4)), some (.int (x7)), some (.int (x20))] [.int (x23), .int (((nI 8) * l1) + l2), .ref (rx_a 24)] s21 Q2) h ?_ ?_
      · intro x23 d2 h
        refine rx_iast d_M_works_178 rfl ej5 hj5 ?_
        refine rx_iload d_M_works_179 rfl ?_
        refine rx_iload d_M_works_181 rfl ?_
        refine oj_step (P := fun J24 : Int32 → Option (Int32 × rx_S) => ∀ (x25 : Int32) (d2 : Option Value) (d6 : Option Value) (d7 : Option Value), J24 x25 = some (r, sz) → rx G me_M_works 193 [some (.ref rx_o), some (.int (l1)), d2, some (.int (((nI 8) * l1) + l2)), some (.int (x1)), some (.int (s2 22 j4)), d6, d7] [.int (x25)] (rx_up s21 24 j5 x23) Q2) h ?_ ?_
        · intro x25 d2 d6 d7 h
          refine rx_istore d_M_works_193 (by decide) ?_
          refine rx_iload d_M_works_195 rfl ?_
          refine oj_step (P := fun J26 : rx_S → Option (Int32 × rx_S) => ∀ (s27 : rx_S) (d1 : Option Value) (d2 : Option Value) (d4 : Option Value) (d5 : Option Value) (d6 : Option Value) (d7 : Option Value), J26 s27 = some (r, sz) → rx G me_M_works 224 [some (.ref rx_o), d1, d2, some (.int (((nI 8) * l1) + l2)), d4, d5, d6, d7] [] s27 Q2) h ?_ ?_
          · intro s27 d1 d2 d4 d5 d6 d7 h
            refine rx_aload_n d_M_works_224 rfl ?_
            refine rx_gaf g_M_works_225 (by decide) ?_
            refine rx_iload_n d_M_works_228 rfl ?_
            refine rx_iald d_M_works_229 rfl ej5 hj5 ?_
            refine oj_step (P := fun J28 : Int32 → Option (Int32 × rx_S) => ∀ (x29 : Int32) (d0 : Option Value) (d1 : Option Value) (d2 : Option Value) (d3 : Option Value) (d4 : Option Value) (d5 : Option Value) (d6 : Option Value) (d7 : Option Value), J28 x29 = some (r, sz) → rx G me_M_works 238 [d0, d1, d2, d3, d4, d5, d6, d7] [.int (x29)] s27 Q2) h ?_ ?_
            · intro x29 d0 d1 d2 d3 d4 d5 d6 d7 h
              obtain ⟨hz, h⟩ := ozb_inv h
              exact rx_zret d_M_works_238 rfl (ozb_nar hz) (ox_i hq h)
            clear h
            intro J28 hJ5 h
            refine rx_if_ne (tgt := 237) d_M_works_230 (by decide) (fun hc230 => ?_) (fun hc230 => ?_)
            · rw [if_neg hc230] at h
              refine rx_iconst (v := nI 0) d_M_works_237 (by decide) ?_
              exact hJ5 _ _ _ _ _ _ _ _ _ h
            · rw [if_pos hc230] at h
              refine rx_iconst (v := nI 1) d_M_works_233 (by decide) ?_
              refine rx_goto (tgt := 238) d_M_works_234 (by decide) ?_
              exact hJ5 _ _ _ _ _ _ _ _ _ h
          clear h
          intro J26 hJ6 h
          refine rx_if_le (tgt := 224) d_M_works_197 (by decide) (fun hc197 => ?_) (fun hc197 => ?_)
          · rw [if_pos hc197] at h
            exact hJ6 _ _ _ _ _ _ _ h
          · rw [if_neg hc197] at h
            refine rx_aload_n d_M_works_200 rfl ?_
            refine rx_iload d_M_works_201 rfl ?_
            refine rx_aload_n d_M_works_203 rfl ?_
            refine rx_gaf g_M_works_204 (by decide) ?_
            refine rx_iconst (v := nI 3) d_M_works_207 (by decide) ?_
            refine rx_iload_n d_M_works_208 rfl ?_
            refine rx_imul d_M_works_209 ?_
            refine rx_aload_n d_M_works_210 rfl ?_
            refine rx_gaf g_M_works_211 (by decide) ?_
            refine rx_iload d_M_works_214 rfl ?_
            refine rx_iald d_M_works_216 rfl ej3 hj3 ?_
            refine rx_iadd d_M_works_217 ?_
            obtain ⟨j30, hj30, ej30, h⟩ := og_inv (by decide) h
            refine rx_iald d_M_works_218 rfl ej30 hj30 ?_
            refine rx_iload d_M_works_219 rfl ?_
            obtain ⟨x31, s32, ex31, h⟩ := ob_inv h
            refine rx_callV3v c_M_works_221 (Nat.le_of_ble_eq_true rfl) (E_M_carry ex31 ?_)
            exact hJ6 _ _ _ _ _ _ _ h
        clear h
        intro J24 hJ7 h
        refine rx_icmp_ge (tgt := 191) d_M_works_183 (by decide) (fun hc183 => ?_) (fun hc183 => ?_)
        · rw [if_pos hc183] at h
          refine rx_iload d_M_works_191 rfl ?_
          exact hJ7 _ _ _ _ h
        · rw [if_neg hc183] at h
          refine rx_iload d_M_works_186 rfl ?_
          refine rx_goto (tgt := 193) d_M_works_188 (by decide) ?_
          exact hJ7 _ _ _ _ h
      clear h
      intro J22 hJ8 h
      refine rx_icmp_ge (tgt := 169) d_M_works_162 (by decide) (fun hc162 => ?_) (fun hc162 => ?_)
      · rw [if_pos hc162] at h
        refine rx_aload_n d_M_works_169 rfl ?_
        refine rx_gaf g_M_works_170 (by decide) ?_
        refine rx_iload_n d_M_works_173 rfl ?_
        refine rx_iald d_M_works_174 rfl ej5 hj5 ?_
        refine rx_iload d_M_works_175 rfl ?_
        refine rx_isub d_M_works_177 ?_
        exact hJ8 _ _ h
      · rw [if_neg hc162] at h
        refine rx_iconst (v := nI 0) d_M_works_165 (by decide) ?_
        refine rx_goto (tgt := 178) d_M_works_166 (by decide) ?_
        exact hJ8 _ _ h
    rw [if_neg e64_2] at h
    by_cases e64_3 : (s2 9 j3) = nI 3
    · rw [if_pos e64_3] at h
      refine rx_tab (tgt := 246) d_M_works_64 3 e64_3 (by decide) (by decide) (by rfl) (by decide) ?_
      refine rx_aload_n d_M_works_246 rfl ?_
      refine rx_gaf g_M_works_247 (by decide) ?_
      refine rx_iload_n d_M_works_250 rfl ?_
      refine rx_dup2 d_M_works_251 rfl rfl ?_
      refine rx_iald d_M_works_252 rfl ej5 hj5 ?_
      refine rx_iconst (v := nI 1) d_M_works_253 (by decide) ?_
      refine rx_isub d_M_works_254 ?_
      refine rx_iast d_M_works_255 rfl ej5 hj5 ?_
      refine rx_aload_n d_M_works_256 rfl ?_
      refine rx_gaf g_M_works_257 (by decide) ?_
      refine rx_iload_n d_M_works_260 rfl ?_
      refine rx_iald d_M_works_261 rfl ej5 hj5 ?_
      refine oj_step (P := fun J33 : rx_S → Option (Int32 × rx_S) => ∀ (s34 : rx_S) (d1 : Option Value) (d2 : Option Value) (d4 : Option Value) (d5 : Option Value) (d6 : Option Value) (d7 : Option Value), J33 s34 = some (r, sz) → rx G me_M_works 289 [some (.ref rx_o), d1, d2, some (.int (((nI 8) * l1) + l2)), d4, d5, d6, d7] [] s34 Q2) h ?_ ?_
      · intro s34 d1 d2 d4 d5 d6 d7 h
        refine rx_aload_n d_M_works_289 rfl ?_
        refine rx_gaf g_M_works_290 (by decide) ?_
        refine rx_iload_n d_M_works_293 rfl ?_
        refine rx_iald d_M_works_294 rfl ej5 hj5 ?_
        refine oj_step (P := fun J35 : Int32 → Option (Int32 × rx_S) => ∀ (x36 : Int32) (d0 : Option Value) (d1 : Option Value) (d2 : Option Value) (d3 : Option Value) (d4 : Option Value) (d5 : Option Value) (d6 : Option Value) (d7 : Option Value), J35 x36 = some (r, sz) → rx G me_M_works 303 [d0, d1, d2, d3, d4, d5, d6, d7] [.int (x36)] s34 Q2) h ?_ ?_
        · intro x36 d0 d1 d2 d3 d4 d5 d6 d7 h
          obtain ⟨hz, h⟩ := ozb_inv h
          exact rx_zret d_M_works_303 rfl (ozb_nar hz) (ox_i hq h)
        clear h
        intro J35 hJ9 h
        refine rx_if_ne (tgt := 302) d_M_works_295 (by decide) (fun hc295 => ?_) (fun hc295 => ?_)
        · rw [if_neg hc295] at h
          refine rx_iconst (v := nI 0) d_M_works_302 (by decide) ?_
          exact hJ9 _ _ _ _ _ _ _ _ _ h
        · rw [if_pos hc295] at h
          refine rx_iconst (v := nI 1) d_M_works_298 (by decide) ?_
          refine rx_goto (tgt := 303) d_M_works_299 (by decide) ?_
          exact hJ9 _ _ _ _ _ _ _ _ _ h
      clear h
      intro J33 hJ10 h
      refine rx_if_ne (tgt := 289) d_M_works_262 (by decide) (fun hc262 => ?_) (fun hc262 => ?_)
      · rw [if_neg hc262] at h
        exact hJ10 _ _ _ _ _ _ _ h
      · rw [if_pos hc262] at h
        refine rx_aload_n d_M_works_265 rfl ?_
        refine rx_gaf g_M_works_266 (by decide) ?_
        refine rx_iload d_M_works_269 rfl ?_
        refine rx_iald d_M_works_271 rfl ej3 hj3 ?_
        refine rx_iconst (v := nI 3) d_M_works_272 (by decide) ?_
        refine rx_icmp_ne (tgt := 289) d_M_works_273 (by decide) (fun hc273 => ?_) (fun hc273 => ?_)
        · rw [if_neg hc273] at h
          exact hJ10 _ _ _ _ _ _ _ h
        · rw [if_pos hc273] at h
          refine rx_aload_n d_M_works_276 rfl ?_
          refine rx_iload_n d_M_works_277 rfl ?_
          refine rx_iload d_M_works_278 rfl ?_
          refine rx_aload_n d_M_works_280 rfl ?_
          refine rx_gaf g_M_works_281 (by decide) ?_
          refine rx_iload_n d_M_works_284 rfl ?_
          refine rx_iald d_M_works_285 rfl ej5 hj5 ?_
          obtain ⟨x37, s38, ex37, h⟩ := ob_inv h
          refine rx_callV3v c_M_works_286 (Nat.le_of_ble_eq_true rfl) (E_M_react ex37 ?_)
          exact hJ10 _ _ _ _ _ _ _ h
    rw [if_neg e64_3] at h
    by_cases e64_4 : (s2 9 j3) = nI 4
    · rw [if_pos e64_4] at h
      refine rx_tab (tgt := 239) d_M_works_64 4 e64_4 (by decide) (by decide) (by rfl) (by decide) ?_
      refine rx_aload_n d_M_works_239 rfl ?_
      refine rx_gaf g_M_works_240 (by decide) ?_
      refine rx_iload_n d_M_works_243 rfl ?_
      refine rx_zald d_M_works_244 rfl ej5 hj5 ?_
      obtain ⟨hz, h⟩ := ozb_inv h
      exact rx_zret d_M_works_245 rfl (ozb_nar hz) (ox_i hq h)
    rw [if_neg e64_4] at h
    have hsw : ∀ j, j ≤ 4 → ¬ (s2 9 j3) = nI j := by
      intro j hj
      have hj2 : j = 0 ∨ j = 1 ∨ j = 2 ∨ j = 3 ∨ j = 4 := by omega
      rcases hj2 with rfl | rfl | rfl | rfl | rfl <;> assumption
    refine rx_tableOut (tgt := 246) d_M_works_64 (sw_out 4 (by decide) hsw) (by decide) ?_
    refine rx_aload_n d_M_works_246 rfl ?_
    refine rx_gaf g_M_works_247 (by decide) ?_
    refine rx_iload_n d_M_works_250 rfl ?_
    refine rx_dup2 d_M_works_251 rfl rfl ?_
    refine rx_iald d_M_works_252 rfl ej5 hj5 ?_
    refine rx_iconst (v := nI 1) d_M_works_253 (by decide) ?_
    refine rx_isub d_M_works_254 ?_
    refine rx_iast d_M_works_255 rfl ej5 hj5 ?_
    refine rx_aload_n d_M_works_256 rfl ?_
    refine rx_gaf g_M_works_257 (by decide) ?_
    refine rx_iload_n d_M_works_260 rfl ?_
    refine rx_iald d_M_works_261 rfl ej5 hj5 ?_
    refine oj_step (P := fun J39 : rx_S → Option (Int32 × rx_S) => ∀ (s40 : rx_S) (d1 : Option Value) (d2 : Option Value) (d4 : Option Value) (d5 : Option Value) (d6 : Option Value) (d7 : Option Value), J39 s40 = some (r, sz) → rx G me_M_works 289 [some (.ref rx_o), d1, d2, some (.int (((nI 8) * l1) + l2)), d4, d5, d6, d7] [] s40 Q2) h ?_ ?_
    · intro s40 d1 d2 d4 d5 d6 d7 h
      refine rx_aload_n d_M_works_289 rfl ?_
      refine rx_gaf g_M_works_290 (by decide) ?_
      refine rx_iload_n d_M_works_293 rfl ?_
      refine rx_iald d_M_works_294 rfl ej5 hj5 ?_
      refine oj_step (P := fun J41 : Int32 → Option (Int32 × rx_S) => ∀ (x42 : Int32) (d0 : Option Value) (d1 : Option Value) (d2 : Option Value) (d3 : Option Value) (d4 : Option Value) (d5 : Option Value) (d6 : Option Value) (d7 : Option Value), J41 x42 = some (r, sz) → rx G me_M_works 303 [d0, d1, d2, d3, d4, d5, d6, d7] [.int (x42)] s40 Q2) h ?_ ?_
      · intro x42 d0 d1 d2 d3 d4 d5 d6 d7 h
        obtain ⟨hz, h⟩ := ozb_inv h
        exact rx_zret d_M_works_303 rfl (ozb_nar hz) (ox_i hq h)
      clear h
      intro J41 hJ11 h
      refine rx_if_ne (tgt := 302) d_M_works_295 (by decide) (fun hc295 => ?_) (fun hc295 => ?_)
      · rw [if_neg hc295] at h
        refine rx_iconst (v := nI 0) d_M_works_302 (by decide) ?_
        exact hJ11 _ _ _ _ _ _ _ _ _ h
      · rw [if_pos hc295] at h
        refine rx_iconst (v := nI 1) d_M_works_298 (by decide) ?_
        refine rx_goto (tgt := 303) d_M_works_299 (by decide) ?_
        exact hJ11 _ _ _ _ _ _ _ _ _ h
    clear h
    intro J39 hJ12 h
    refine rx_if_ne (tgt := 289) d_M_works_262 (by decide) (fun hc262 => ?_) (fun hc262 => ?_)
    · rw [if_neg hc262] at h
      exact hJ12 _ _ _ _ _ _ _ h
    · rw [if_pos hc262] at h
      refine rx_aload_n d_M_works_265 rfl ?_
      refine rx_gaf g_M_works_266 (by decide) ?_
      refine rx_iload d_M_works_269 rfl ?_
      refine rx_iald d_M_works_271 rfl ej3 hj3 ?_
      refine rx_iconst (v := nI 3) d_M_works_272 (by decide) ?_
      refine rx_icmp_ne (tgt := 289) d_M_works_273 (by decide) (fun hc273 => ?_) (fun hc273 => ?_)
      · rw [if_neg hc273] at h
        exact hJ12 _ _ _ _ _ _ _ h
      · rw [if_pos hc273] at h
        refine rx_aload_n d_M_works_276 rfl ?_
        refine rx_iload_n d_M_works_277 rfl ?_
        refine rx_iload d_M_works_278 rfl ?_
        refine rx_aload_n d_M_works_280 rfl ?_
        refine rx_gaf g_M_works_281 (by decide) ?_
        refine rx_iload_n d_M_works_284 rfl ?_
        refine rx_iald d_M_works_285 rfl ej5 hj5 ?_
        obtain ⟨x43, s44, ex43, h⟩ := ob_inv h
        refine rx_callV3v c_M_works_286 (Nat.le_of_ble_eq_true rfl) (E_M_react ex43 ?_)
        exact hJ12 _ _ _ _ _ _ _ h
  clear h
  intro J6 hJ13 h
  refine rx_icmp_ge (tgt := 53) d_M_works_41 (by decide) (fun hc41 => ?_) (fun hc41 => ?_)
  · rw [if_pos hc41] at h
    refine rx_bipush (v := nI 10) d_M_works_53 (by decide) ?_
    exact hJ13 _ _ _ _ h
  · rw [if_neg hc41] at h
    refine rx_aload_n d_M_works_44 rfl ?_
    refine rx_gaf g_M_works_45 (by decide) ?_
    refine rx_iload_n d_M_works_48 rfl ?_
    refine rx_iald d_M_works_49 rfl ej5 hj5 ?_
    refine rx_goto (tgt := 55) d_M_works_50 (by decide) ?_
    exact hJ13 _ _ _ _ h
theorem E_M_running_4 {G : bm_G} {f : Nat} {l1 : Int32} {r : Int32} {sz : rx_S} {Q : bm_R → rx_S → Prop} (hq : Q (.inl (some (.int (r)))) sz) : ∀ (n : Nat) (l2 : Int32) (l3 : Int32) (s : rx_S), D_M_running_4 f l1 n l2 l3 s = some (r, sz) → rx G me_M_running 4 [some (.ref rx_o), some (.int (l1)), some (.int (l2)), some (.int (l3))] [] s Q := by
  intro n
  induction n with
  | zero =>
    intro l2 l3 s h
    rw [D_M_running_4] at h
    exact absurd h (by simp)
  | succ n ih =>
    intro l2 l3 s h
    rw [D_M_running_4] at h
    refine rx_iload_n d_M_running_4 rfl ?_
    refine rx_aload_n d_M_running_5 rfl ?_
    refine rx_gaf g_M_running_6 (by decide) ?_
    refine rx_iload_n d_M_running_9 rfl ?_
    obtain ⟨j1, hj1, ej1, h⟩ := og_inv (by decide) h
    refine rx_iald d_M_running_10 rfl ej1 hj1 ?_
    refine rx_icmp_ge (tgt := 42) d_M_running_11 (by decide) (fun hc11 => ?_) (fun hc11 => ?_)
    · rw [if_pos hc11] at h
      refine rx_iload_n d_M_running_42 rfl ?_
      exact rx_iret d_M_running_43 rfl (ox_i hq h)
    · rw [if_neg hc11] at h
      refine rx_aload_n d_M_running_14 rfl ?_
      refine rx_gaf g_M_running_15 (by decide) ?_
      refine rx_bipush (v := nI 8) d_M_running_18 (by decide) ?_
      refine rx_iload_n d_M_running_20 rfl ?_
      refine rx_imul d_M_running_21 ?_
      refine rx_iload_n d_M_running_22 rfl ?_
      refine rx_iadd d_M_running_23 ?_
      obtain ⟨j2, hj2, ej2, h⟩ := og_inv (by decide) h
      refine rx_zald d_M_running_24 rfl ej2 hj2 ?_
      refine oj_step (P := fun J3 : Int32 → Option (Int32 × rx_S) => ∀ (x4 : Int32) (d2 : Option Value), J3 x4 = some (r, sz) → rx G me_M_running 35 [some (.ref rx_o), some (.int (l1)), d2, some (.int (l3))] [.int (x4)] s Q) h ?_ ?_
      · intro x4 d2 h
        refine rx_istore_n d_M_running_35 (by decide) ?_
        refine rx_iincP d_M_running_36 (by decide) rfl ?_
        refine rx_goto (tgt := 4) d_M_running_39 (by decide) ?_
        exact ih _ _ _ h
      clear h
      intro J3 hJ1 h
      refine rx_if_eq (tgt := 34) d_M_running_25 (by decide) (fun hc25 => ?_) (fun hc25 => ?_)
      · rw [if_pos hc25] at h
        refine rx_iload_n d_M_running_34 rfl ?_
        exact hJ1 _ _ h
      · rw [if_neg hc25] at h
        refine rx_iload_n d_M_running_28 rfl ?_
        refine rx_iconst (v := nI 1) d_M_running_29 (by decide) ?_
        refine rx_iadd d_M_running_30 ?_
        refine rx_goto (tgt := 35) d_M_running_31 (by decide) ?_
        exact hJ1 _ _ h
theorem E_M_running {G : bm_G} {f : Nat} {l1 : Int32} {s sz : rx_S} {r : Int32} {Q : Int32 → rx_S → Prop} (h : D_M_running f l1 s = some (r, sz)) (hq : Q r sz) : rx_Ti G me_M_running [.ref rx_o, .int (l1)] s Q := by
  refine rx_meti (by decide) rfl (Nat.le_of_ble_eq_true rfl) ?_
  generalize hQ : (fun (v : bm_R) (s2 : rx_S) => ∃ x, v = .inl (some (.int x)) ∧ Q x s2) = Q2
  replace hq : Q2 (.inl (some (.int (r)))) sz := by rw [← hQ]; exact ⟨_, rfl, hq⟩
  clear hQ
  unfold D_M_running at h
  refine rx_iconst (v := nI 0) d_M_running_0 (by decide) ?_
  refine rx_istore_n d_M_running_1 (by decide) ?_
  refine rx_iconst (v := nI 0) d_M_running_2 (by decide) ?_
  refine rx_istore_n d_M_running_3 (by decide) ?_
  refine E_M_running_4 (r := r) (sz := sz) hq _ _ _ _ h
theorem E_M_fellow_2 {G : bm_G} {f : Nat} {l1 : Int32} {l2 : Int32} {r : Int32} {sz : rx_S} {Q : bm_R → rx_S → Prop} (hq : Q (.inl (some (.int (r)))) sz) : ∀ (n : Nat) (l3 : Int32) (s : rx_S), D_M_fellow_2 f l1 l2 n l3 s = some (r, sz) → rx G me_M_fellow 2 [some (.ref rx_o), some (.int (l1)), some (.int (l2)), some (.int (l3))] [] s Q := by
  intro n
  induction n with
  | zero =>
    intro l3 s h
    rw [D_M_fellow_2] at h
    exact absurd h (by simp)
  | succ n ih =>
    intro l3 s h
    rw [D_M_fellow_2] at h
    refine rx_iload_n d_M_fellow_2 rfl ?_
    refine rx_aload_n d_M_fellow_3 rfl ?_
    refine rx_gaf g_M_fellow_4 (by decide) ?_
    refine rx_iload_n d_M_fellow_7 rfl ?_
    obtain ⟨j1, hj1, ej1, h⟩ := og_inv (by decide) h
    refine rx_iald d_M_fellow_8 rfl ej1 hj1 ?_
    refine rx_icmp_ge (tgt := 50) d_M_fellow_9 (by decide) (fun hc9 => ?_) (fun hc9 => ?_)
    · rw [if_pos hc9] at h
      refine rx_iconst (v := (-1)) d_M_fellow_50 (by decide) ?_
      exact rx_iret d_M_fellow_51 rfl (ox_i hq h)
    · rw [if_neg hc9] at h
      refine rx_iload_n d_M_fellow_12 rfl ?_
      refine rx_iload_n d_M_fellow_13 rfl ?_
      refine oj_step (P := fun J2 : Unit → Option (Int32 × rx_S) => ∀ (_u : Unit), J2 () = some (r, sz) → rx G me_M_fellow 44 [some (.ref rx_o), some (.int (l1)), some (.int (l2)), some (.int (l3))] [] s Q) h ?_ ?_
      · intro _u h
        refine rx_iincP d_M_fellow_44 (by decide) rfl ?_
        refine rx_goto (tgt := 2) d_M_fellow_47 (by decide) ?_
        exact ih _ _ h
      clear h
      intro J2 hJ1 h
      refine rx_icmp_eq (tgt := 44) d_M_fellow_14 (by decide) (fun hc14 => ?_) (fun hc14 => ?_)
      · rw [if_pos hc14] at h
        exact hJ1 () h
      · rw [if_neg hc14] at h
        refine rx_aload_n d_M_fellow_17 rfl ?_
        refine rx_gaf g_M_fellow_18 (by decide) ?_
        refine rx_bipush (v := nI 8) d_M_fellow_21 (by decide) ?_
        refine rx_iload_n d_M_fellow_23 rfl ?_
        refine rx_imul d_M_fellow_24 ?_
        refine rx_iload_n d_M_fellow_25 rfl ?_
        refine rx_iadd d_M_fellow_26 ?_
        obtain ⟨j3, hj3, ej3, h⟩ := og_inv (by decide) h
        refine rx_iald d_M_fellow_27 rfl ej3 hj3 ?_
        refine rx_aload_n d_M_fellow_28 rfl ?_
        refine rx_gaf g_M_fellow_29 (by decide) ?_
        refine rx_bipush (v := nI 8) d_M_fellow_32 (by decide) ?_
        refine rx_iload_n d_M_fellow_34 rfl ?_
        refine rx_imul d_M_fellow_35 ?_
        refine rx_iload_n d_M_fellow_36 rfl ?_
        refine rx_iadd d_M_fellow_37 ?_
        obtain ⟨j4, hj4, ej4, h⟩ := og_inv (by decide) h
        refine rx_iald d_M_fellow_38 rfl ej4 hj4 ?_
        refine rx_icmp_ne (tgt := 44) d_M_fellow_39 (by decide) (fun hc39 => ?_) (fun hc39 => ?_)
        · rw [if_neg hc39] at h
          exact hJ1 () h
        · rw [if_pos hc39] at h
          refine rx_iload_n d_M_fellow_42 rfl ?_
          exact rx_iret d_M_fellow_43 rfl (ox_i hq h)
theorem E_M_fellow {G : bm_G} {f : Nat} {l1 : Int32} {l2 : Int32} {s sz : rx_S} {r : Int32} {Q : Int32 → rx_S → Prop} (h : D_M_fellow f l1 l2 s = some (r, sz)) (hq : Q r sz) : rx_Ti G me_M_fellow [.ref rx_o, .int (l1), .int (l2)] s Q := by
  refine rx_meti (by decide) rfl (Nat.le_of_ble_eq_true rfl) ?_
  generalize hQ : (fun (v : bm_R) (s2 : rx_S) => ∃ x, v = .inl (some (.int x)) ∧ Q x s2) = Q2
  replace hq : Q2 (.inl (some (.int (r)))) sz := by rw [← hQ]; exact ⟨_, rfl, hq⟩
  clear hQ
  unfold D_M_fellow at h
  refine rx_iconst (v := nI 0) d_M_fellow_0 (by decide) ?_
  refine rx_istore_n d_M_fellow_1 (by decide) ?_
  refine E_M_fellow_2 (r := r) (sz := sz) hq _ _ _ h
theorem E_M_rolesOf {G : bm_G} {f : Nat} {l1 : Int32} {s sz : rx_S} {r : Int32} {Q : Int32 → rx_S → Prop} (h : D_M_rolesOf f l1 s = some (r, sz)) (hq : Q r sz) : rx_Ti G me_M_rolesOf [.ref rx_o, .int (l1)] s Q := by
  refine rx_meti (by decide) rfl (Nat.le_of_ble_eq_true rfl) ?_
  generalize hQ : (fun (v : bm_R) (s2 : rx_S) => ∃ x, v = .inl (some (.int x)) ∧ Q x s2) = Q2
  replace hq : Q2 (.inl (some (.int (r)))) sz := by rw [← hQ]; exact ⟨_, rfl, hq⟩
  clear hQ
  unfold D_M_rolesOf at h
  refine rx_aload_n d_M_rolesOf_0 rfl ?_
  refine rx_gaf g_M_rolesOf_1 (by decide) ?_
  refine rx_iload_n d_M_rolesOf_4 rfl ?_
  obtain ⟨j1, hj1, ej1, h⟩ := og_inv (by decide) h
  refine rx_iald d_M_rolesOf_5 rfl ej1 hj1 ?_
  refine rx_iconst (v := nI 2) d_M_rolesOf_6 (by decide) ?_
  refine oj_step (P := fun J2 : Int32 → Option (Int32 × rx_S) => ∀ (x3 : Int32) (d0 : Option Value) (d1 : Option Value), J2 x3 = some (r, sz) → rx G me_M_rolesOf 38 [d0, d1] [.int (x3)] s Q2) h ?_ ?_
  · intro x3 d0 d1 h
    exact rx_iret d_M_rolesOf_38 rfl (ox_i hq h)
  clear h
  intro J2 hJ1 h
  refine rx_icmp_ne (tgt := 30) d_M_rolesOf_7 (by decide) (fun hc7 => ?_) (fun hc7 => ?_)
  · rw [if_neg hc7] at h
    refine rx_iconst (v := nI 1) d_M_rolesOf_30 (by decide) ?_
    refine rx_aload_n d_M_rolesOf_31 rfl ?_
    refine rx_gaf g_M_rolesOf_32 (by decide) ?_
    refine rx_iload_n d_M_rolesOf_35 rfl ?_
    refine rx_iald d_M_rolesOf_36 rfl ej1 hj1 ?_
    refine rx_ishl d_M_rolesOf_37 ?_
    exact hJ1 _ _ _ h
  · rw [if_pos hc7] at h
    refine rx_iconst (v := nI 1) d_M_rolesOf_10 (by decide) ?_
    refine rx_aload_n d_M_rolesOf_11 rfl ?_
    refine rx_gaf g_M_rolesOf_12 (by decide) ?_
    refine rx_iload_n d_M_rolesOf_15 rfl ?_
    refine rx_iald d_M_rolesOf_16 rfl ej1 hj1 ?_
    refine rx_ishl d_M_rolesOf_17 ?_
    refine rx_iconst (v := nI 1) d_M_rolesOf_18 (by decide) ?_
    refine rx_aload_n d_M_rolesOf_19 rfl ?_
    refine rx_gaf g_M_rolesOf_20 (by decide) ?_
    refine rx_iload_n d_M_rolesOf_23 rfl ?_
    refine rx_iald d_M_rolesOf_24 rfl ej1 hj1 ?_
    refine rx_ishl d_M_rolesOf_25 ?_
    refine rx_ior d_M_rolesOf_26 ?_
    refine rx_goto (tgt := 38) d_M_rolesOf_27 (by decide) ?_
    exact hJ1 _ _ _ h
