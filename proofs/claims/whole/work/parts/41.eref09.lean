theorem E_M_walk_5 {G : bm_G} {f : Nat} {l1 : Int32} {r : Int32} {sz : rx_S} {Q : bm_R → rx_S → Prop} (hq : Q (.inl (some (.int (r)))) sz) : ∀ (n : Nat) (l3 : Int32) (l4 : Int32) (d2 : Option Value) (d5 : Option Value) (d6 : Option Value) (d7 : Option Value) (s : rx_S), D_M_walk_5 f l1 n l3 l4 s = some (r, sz) → rx G me_M_walk 5 [some (.ref rx_o), some (.int (l1)), d2, some (.int (l3)), some (.int (l4)), d5, d6, d7] [] s Q := by
  intro n
  induction n with
  | zero =>
    intro l3 l4 d2 d5 d6 d7 s h
    rw [D_M_walk_5] at h
    exact absurd h (by simp)
  | succ n ih =>
    intro l3 l4 d2 d5 d6 d7 s h
    rw [D_M_walk_5] at h
    refine rx_iload d_M_walk_5 rfl ?_
    refine oj_step (P := fun J1 : Unit → Option (Int32 × rx_S) => ∀ (_u : Unit) (d0 : Option Value) (d1 : Option Value) (d2 : Option Value) (d4 : Option Value) (d5 : Option Value) (d6 : Option Value) (d7 : Option Value), J1 () = some (r, sz) → rx G me_M_walk 299 [d0, d1, d2, some (.int (l3)), d4, d5, d6, d7] [] s Q) h ?_ ?_
    · intro _u d0 d1 d2 d4 d5 d6 d7 h
      refine rx_iload_n d_M_walk_299 rfl ?_
      exact rx_iret d_M_walk_300 rfl (ox_i hq h)
    clear h
    intro J1 hJ1 h
    refine rx_if_eq (tgt := 299) d_M_walk_7 (by decide) (fun hc7 => ?_) (fun hc7 => ?_)
    · rw [if_pos hc7] at h
      exact hJ1 () _ _ _ _ _ _ _ h
    · rw [if_neg hc7] at h
      refine rx_aload_n d_M_walk_10 rfl ?_
      refine rx_gaf g_M_walk_11 (by decide) ?_
      refine rx_iload_n d_M_walk_14 rfl ?_
      obtain ⟨j2, hj2, ej2, h⟩ := og_inv (by decide) h
      refine rx_iald d_M_walk_15 rfl ej2 hj2 ?_
      refine rx_iconst (v := nI 2) d_M_walk_16 (by decide) ?_
      refine rx_icmp_ne (tgt := 299) d_M_walk_17 (by decide) (fun hc17 => ?_) (fun hc17 => ?_)
      · rw [if_neg hc17] at h
        exact hJ1 () _ _ _ _ _ _ _ h
      · rw [if_pos hc17] at h
        refine rx_aload_n d_M_walk_20 rfl ?_
        refine rx_iload_n d_M_walk_21 rfl ?_
        refine rx_iload_n d_M_walk_22 rfl ?_
        obtain ⟨x3, s4, ex3, h⟩ := ob_inv h
        refine rx_callV2 c_M_walk_23 (Nat.le_of_ble_eq_true rfl) (E_M_stepAt ex3 ?_)
        refine rx_istore d_M_walk_26 (by decide) ?_
        refine rx_aload_n d_M_walk_28 rfl ?_
        refine rx_gaf g_M_walk_29 (by decide) ?_
        refine rx_iload d_M_walk_32 rfl ?_
        obtain ⟨j5, hj5, ej5, h⟩ := og_inv (by decide) h
        refine rx_iald d_M_walk_34 rfl ej5 hj5 ?_
        refine rx_bipush (v := nI 6) d_M_walk_35 (by decide) ?_
        refine oj_step (P := fun J6 : Int32 → rx_S → Option (Int32 × rx_S) => ∀ (x7 : Int32) (s8 : rx_S) (d2 : Option Value) (d4 : Option Value) (d6 : Option Value) (d7 : Option Value), J6 x7 s8 = some (r, sz) → rx G me_M_walk 50 [some (.ref rx_o), some (.int (l1)), d2, some (.int (l3)), d4, some (.int (x3)), d6, d7] [.int (x7)] s8 Q) h ?_ ?_
        · intro x7 s8 d2 d4 d6 d7 h
          refine rx_istore d_M_walk_50 (by decide) ?_
          refine rx_aload_n d_M_walk_52 rfl ?_
          refine rx_gaf g_M_walk_53 (by decide) ?_
          refine rx_iload d_M_walk_56 rfl ?_
          refine rx_iald d_M_walk_58 rfl ej5 hj5 ?_
          refine rx_iconst (v := nI 4) d_M_walk_59 (by decide) ?_
          refine oj_step (P := fun J9 : Int32 → Option (Int32 × rx_S) => ∀ (x10 : Int32) (d2 : Option Value) (d4 : Option Value) (d7 : Option Value), J9 x10 = some (r, sz) → rx G me_M_walk 86 [some (.ref rx_o), some (.int (l1)), d2, some (.int (l3)), d4, some (.int (x3)), some (.int (x7)), d7] [.int (x10)] s8 Q) h ?_ ?_
          · intro x10 d2 d4 d7 h
            refine rx_istore d_M_walk_86 (by decide) ?_
            refine rx_aload_n d_M_walk_88 rfl ?_
            refine rx_gaf g_M_walk_89 (by decide) ?_
            refine rx_iload d_M_walk_92 rfl ?_
            refine rx_iald d_M_walk_94 rfl ej5 hj5 ?_
            refine rx_bipush (v := nI 9) d_M_walk_95 (by decide) ?_
            refine oj_step (P := fun J11 : Int32 → rx_S → Option (Int32 × rx_S) => ∀ (v12 : Int32) (s13 : rx_S) (d2 : Option Value) (d5 : Option Value) (d6 : Option Value) (d7 : Option Value), J11 v12 s13 = some (r, sz) → rx G me_M_walk 296 [some (.ref rx_o), some (.int (l1)), d2, some (.int (v12)), some (.int (x10)), d5, d6, d7] [] s13 Q) h ?_ ?_
            · intro v12 s13 d2 d5 d6 d7 h
              refine rx_goto (tgt := 5) d_M_walk_296 (by decide) ?_
              exact ih _ _ _ _ _ _ _ h
            clear h
            intro J11 hJ2 h
            refine rx_icmp_ne (tgt := 110) d_M_walk_97 (by decide) (fun hc97 => ?_) (fun hc97 => ?_)
            · rw [if_neg hc97] at h
              refine rx_aload_n d_M_walk_110 rfl ?_
              refine rx_gaf g_M_walk_111 (by decide) ?_
              refine rx_iload d_M_walk_114 rfl ?_
              refine rx_iald d_M_walk_116 rfl ej5 hj5 ?_
              refine rx_iconst (v := nI 4) d_M_walk_117 (by decide) ?_
              refine rx_icmp_gt (tgt := 130) d_M_walk_118 (by decide) (fun hc118 => ?_) (fun hc118 => ?_)
              · rw [if_pos hc118] at h
                refine rx_aload_n d_M_walk_130 rfl ?_
                refine rx_gaf g_M_walk_131 (by decide) ?_
                refine rx_iload d_M_walk_134 rfl ?_
                refine rx_iald d_M_walk_136 rfl ej5 hj5 ?_
                refine rx_iconst (v := nI 5) d_M_walk_137 (by decide) ?_
                refine rx_icmp_ne (tgt := 207) d_M_walk_138 (by decide) (fun hc138 => ?_) (fun hc138 => ?_)
                · rw [if_neg hc138] at h
                  refine rx_aload_n d_M_walk_207 rfl ?_
                  refine rx_gaf g_M_walk_208 (by decide) ?_
                  refine rx_iload d_M_walk_211 rfl ?_
                  refine rx_iald d_M_walk_213 rfl ej5 hj5 ?_
                  refine rx_bipush (v := nI 6) d_M_walk_214 (by decide) ?_
                  refine oj_step (P := fun J18 : Unit → Option (Int32 × rx_S) => ∀ (_u : Unit) (d2 : Option Value) (d6 : Option Value) (d7 : Option Value), J18 () = some (r, sz) → rx G me_M_walk 266 [some (.ref rx_o), some (.int (l1)), d2, some (.int (l3)), some (.int (x10)), some (.int (x3)), d6, d7] [] s8 Q) h ?_ ?_
                  · intro _u d2 d6 d7 h
                    refine rx_aload_n d_M_walk_266 rfl ?_
                    refine rx_gaf g_M_walk_267 (by decide) ?_
                    refine rx_iload d_M_walk_270 rfl ?_
                    refine rx_iald d_M_walk_272 rfl ej5 hj5 ?_
                    refine rx_bipush (v := nI 6) d_M_walk_273 (by decide) ?_
                    refine rx_icmp_eq (tgt := 296) d_M_walk_275 (by decide) (fun hc275 => ?_) (fun hc275 => ?_)
                    · rw [if_pos hc275] at h
                      exact hJ2 _ _ _ _ _ _ h
                    · rw [if_neg hc275] at h
                      refine rx_aload_n d_M_walk_278 rfl ?_
                      refine rx_gaf g_M_walk_279 (by decide) ?_
                      refine rx_bipush (v := nI 8) d_M_walk_282 (by decide) ?_
                      refine rx_iload_n d_M_walk_284 rfl ?_
                      refine rx_imul d_M_walk_285 ?_
                      refine rx_iload_n d_M_walk_286 rfl ?_
                      refine rx_iadd d_M_walk_287 ?_
                      refine rx_aload_n d_M_walk_288 rfl ?_
                      refine rx_iload_n d_M_walk_289 rfl ?_
                      refine rx_iload d_M_walk_290 rfl ?_
                      obtain ⟨x19, s20, ex19, h⟩ := ob_inv h
                      refine rx_callV2 c_M_walk_292 (Nat.le_of_ble_eq_true rfl) (E_M_way ex19 ?_)
                      obtain ⟨j21, hj21, ej21, h⟩ := og_inv (by decide) h
                      refine rx_iast d_M_walk_295 rfl ej21 hj21 ?_
                      exact hJ2 _ _ _ _ _ _ h
                  clear h
                  intro J18 hJ3 h
                  refine rx_icmp_ne (tgt := 266) d_M_walk_216 (by decide) (fun hc216 => ?_) (fun hc216 => ?_)
                  · rw [if_neg hc216] at h
                    exact hJ3 () _ _ _ h
                  · rw [if_pos hc216] at h
                    refine rx_iload d_M_walk_219 rfl ?_
                    refine rx_if_eq (tgt := 266) d_M_walk_221 (by decide) (fun hc221 => ?_) (fun hc221 => ?_)
                    · rw [if_pos hc221] at h
                      exact hJ3 () _ _ _ h
                    · rw [if_neg hc221] at h
                      refine rx_aload_n d_M_walk_224 rfl ?_
                      refine rx_gaf g_M_walk_225 (by decide) ?_
                      refine rx_bipush (v := nI 8) d_M_walk_228 (by decide) ?_
                      refine rx_iload_n d_M_walk_230 rfl ?_
                      refine rx_imul d_M_walk_231 ?_
                      refine rx_iload_n d_M_walk_232 rfl ?_
                      refine rx_iadd d_M_walk_233 ?_
                      refine rx_aload_n d_M_walk_234 rfl ?_
                      refine rx_gaf g_M_walk_235 (by decide) ?_
                      refine rx_iload d_M_walk_238 rfl ?_
                      refine rx_iald d_M_walk_240 rfl ej5 hj5 ?_
                      obtain ⟨j22, hj22, ej22, h⟩ := og_inv (by decide) h
                      refine rx_iast d_M_walk_241 rfl ej22 hj22 ?_
                      refine rx_aload_n d_M_walk_242 rfl ?_
                      refine rx_iload_n d_M_walk_243 rfl ?_
                      refine rx_iload d_M_walk_244 rfl ?_
                      obtain ⟨x23, s24, ex23, h⟩ := ob_inv h
                      refine rx_callV2v c_M_walk_246 (Nat.le_of_ble_eq_true rfl) (E_M_drop ex23 ?_)
                      refine rx_iload d_M_walk_249 rfl ?_
                      refine rx_iload_n d_M_walk_251 rfl ?_
                      refine oj_step (P := fun J25 : Int32 → Option (Int32 × rx_S) => ∀ (x26 : Int32) (d2 : Option Value) (d3 : Option Value) (d5 : Option Value) (d6 : Option Value) (d7 : Option Value), J25 x26 = some (r, sz) → rx G me_M_walk 262 [some (.ref rx_o), some (.int (l1)), d2, d3, some (.int (x10)), d5, d6, d7] [.int (x26)] s24 Q) h ?_ ?_
                      · intro x26 d2 d3 d5 d6 d7 h
                        refine rx_istore_n d_M_walk_262 (by decide) ?_
                        refine rx_goto (tgt := 296) d_M_walk_263 (by decide) ?_
                        exact hJ2 _ _ _ _ _ _ h
                      clear h
                      intro J25 hJ4 h
                      refine rx_icmp_ge (tgt := 261) d_M_walk_252 (by decide) (fun hc252 => ?_) (fun hc252 => ?_)
                      · rw [if_pos hc252] at h
                        refine rx_iload_n d_M_walk_261 rfl ?_
                        exact hJ4 _ _ _ _ _ _ h
                      · rw [if_neg hc252] at h
                        refine rx_iload_n d_M_walk_255 rfl ?_
                        refine rx_iconst (v := nI 1) d_M_walk_256 (by decide) ?_
                        refine rx_isub d_M_walk_257 ?_
                        refine rx_goto (tgt := 262) d_M_walk_258 (by decide) ?_
                        exact hJ4 _ _ _ _ _ _ h
                · rw [if_pos hc138] at h
                  refine rx_bipush (v := nI 8) d_M_walk_141 (by decide) ?_
                  refine rx_iload_n d_M_walk_143 rfl ?_
                  refine rx_imul d_M_walk_144 ?_
                  refine rx_aload_n d_M_walk_145 rfl ?_
                  refine rx_gaf g_M_walk_146 (by decide) ?_
                  refine rx_iload_n d_M_walk_149 rfl ?_
                  refine rx_iald d_M_walk_150 rfl ej2 hj2 ?_
                  refine rx_iadd d_M_walk_151 ?_
                  refine rx_istore d_M_walk_152 (by decide) ?_
                  refine rx_aload_n d_M_walk_154 rfl ?_
                  refine rx_gaf g_M_walk_155 (by decide) ?_
                  refine rx_iload d_M_walk_158 rfl ?_
                  refine rx_aload_n d_M_walk_160 rfl ?_
                  refine rx_gaf g_M_walk_161 (by decide) ?_
                  refine rx_iload d_M_walk_164 rfl ?_
                  refine rx_iald d_M_walk_166 rfl ej5 hj5 ?_
                  obtain ⟨j16, hj16, ej16, h⟩ := og_inv (by decide) h
                  refine rx_iast d_M_walk_167 rfl ej16 hj16 ?_
                  refine rx_aload_n d_M_walk_168 rfl ?_
                  refine rx_gaf g_M_walk_169 (by decide) ?_
                  refine rx_iload d_M_walk_172 rfl ?_
                  refine rx_iconst (v := nI 0) d_M_walk_174 (by decide) ?_
                  refine rx_zast d_M_walk_175 rfl ej16 hj16 (by decide) ?_
                  refine rx_aload_n d_M_walk_176 rfl ?_
                  refine rx_gaf g_M_walk_177 (by decide) ?_
                  refine rx_iload_n d_M_walk_180 rfl ?_
                  refine rx_dup2 d_M_walk_181 rfl rfl ?_
                  refine rx_iald d_M_walk_182 rfl ej2 hj2 ?_
                  refine rx_iconst (v := nI 1) d_M_walk_183 (by decide) ?_
                  refine rx_iadd d_M_walk_184 ?_
                  refine rx_iast d_M_walk_185 rfl ej2 hj2 ?_
                  refine rx_aload_n d_M_walk_186 rfl ?_
                  refine rx_gaf g_M_walk_187 (by decide) ?_
                  refine rx_bipush (v := nI 8) d_M_walk_190 (by decide) ?_
                  refine rx_iload_n d_M_walk_192 rfl ?_
                  refine rx_imul d_M_walk_193 ?_
                  refine rx_iload_n d_M_walk_194 rfl ?_
                  refine rx_iadd d_M_walk_195 ?_
                  refine rx_aload_n d_M_walk_196 rfl ?_
                  refine rx_gaf g_M_walk_197 (by decide) ?_
                  refine rx_iload d_M_walk_200 rfl ?_
                  refine rx_iald d_M_walk_202 rfl ej5 hj5 ?_
                  obtain ⟨j17, hj17, ej17, h⟩ := og_inv (by decide) h
                  refine rx_iast d_M_walk_203 rfl ej17 hj17 ?_
                  refine rx_goto (tgt := 296) d_M_walk_204 (by decide) ?_
                  exact hJ2 _ _ _ _ _ _ h
              · rw [if_neg hc118] at h
                refine rx_aload_n d_M_walk_121 rfl ?_
                refine rx_iload_n d_M_walk_122 rfl ?_
                refine rx_iload_n d_M_walk_123 rfl ?_
                obtain ⟨x27, s28, ex27, h⟩ := ob_inv h
                refine rx_callV2v c_M_walk_124 (Nat.le_of_ble_eq_true rfl) (E_M_begin ex27 ?_)
                refine rx_goto (tgt := 296) d_M_walk_127 (by decide) ?_
                exact hJ2 _ _ _ _ _ _ h
            · rw [if_pos hc97] at h
              refine rx_aload_n d_M_walk_100 rfl ?_
              refine rx_iload_n d_M_walk_101 rfl ?_
              refine rx_bipush (v := nI 7) d_M_walk_102 (by decide) ?_
              obtain ⟨x14, s15, ex14, h⟩ := ob_inv h
              refine rx_callV2v c_M_walk_104 (Nat.le_of_ble_eq_true rfl) (E_M_close ex14 ?_)
              refine rx_goto (tgt := 296) d_M_walk_107 (by decide) ?_
              exact hJ2 _ _ _ _ _ _ h
          clear h
          intro J9 hJ5 h
          refine oj_step (P := fun J29 : Unit → Option (Int32 × rx_S) => ∀ (_u : Unit) (d2 : Option Value) (d4 : Option Value) (d7 : Option Value), J29 () = some (r, sz) → rx G me_M_walk 85 [some (.ref rx_o), some (.int (l1)), d2, some (.int (l3)), d4, some (.int (x3)), some (.int (x7)), d7] [] s8 Q) h ?_ ?_
          · intro _u d2 d4 d7 h
            refine rx_iconst (v := nI 0) d_M_walk_85 (by decide) ?_
            exact hJ5 _ _ _ _ h
          clear h
          intro J29 hJ6 h
          refine rx_icmp_le (tgt := 85) d_M_walk_60 (by decide) (fun hc60 => ?_) (fun hc60 => ?_)
          · rw [if_pos hc60] at h
            exact hJ6 () _ _ _ h
          · rw [if_neg hc60] at h
            refine rx_aload_n d_M_walk_63 rfl ?_
            refine rx_gaf g_M_walk_64 (by decide) ?_
            refine rx_iload d_M_walk_67 rfl ?_
            refine rx_iald d_M_walk_69 rfl ej5 hj5 ?_
            refine rx_bipush (v := nI 6) d_M_walk_70 (by decide) ?_
            refine oj_step (P := fun J30 : Unit → Option (Int32 × rx_S) => ∀ (_u : Unit) (d2 : Option Value) (d4 : Option Value) (d7 : Option Value), J30 () = some (r, sz) → rx G me_M_walk 81 [some (.ref rx_o), some (.int (l1)), d2, some (.int (l3)), d4, some (.int (x3)), some (.int (x7)), d7] [] s8 Q) h ?_ ?_
            · intro _u d2 d4 d7 h
              refine rx_iconst (v := nI 1) d_M_walk_81 (by decide) ?_
              refine rx_goto (tgt := 86) d_M_walk_82 (by decide) ?_
              exact hJ5 _ _ _ _ h
            clear h
            intro J30 hJ7 h
            refine rx_icmp_ne (tgt := 81) d_M_walk_72 (by decide) (fun hc72 => ?_) (fun hc72 => ?_)
            · rw [if_neg hc72] at h
              exact hJ7 () _ _ _ h
            · rw [if_pos hc72] at h
              refine rx_iload d_M_walk_75 rfl ?_
              refine rx_iconst (v := (-1)) d_M_walk_77 (by decide) ?_
              refine rx_icmp_eq (tgt := 85) d_M_walk_78 (by decide) (fun hc78 => ?_) (fun hc78 => ?_)
              · rw [if_pos hc78] at h
                exact hJ6 () _ _ _ h
              · rw [if_neg hc78] at h
                exact hJ7 () _ _ _ h
        clear h
        intro J6 hJ8 h
        refine rx_icmp_ne (tgt := 49) d_M_walk_37 (by decide) (fun hc37 => ?_) (fun hc37 => ?_)
        · rw [if_neg hc37] at h
          refine rx_iconst (v := (-1)) d_M_walk_49 (by decide) ?_
          exact hJ8 _ _ _ _ _ _ h
        · rw [if_pos hc37] at h
          refine rx_aload_n d_M_walk_40 rfl ?_
          refine rx_iload_n d_M_walk_41 rfl ?_
          refine rx_iload_n d_M_walk_42 rfl ?_
          obtain ⟨x31, s32, ex31, h⟩ := ob_inv h
          refine rx_callV2 c_M_walk_43 (Nat.le_of_ble_eq_true rfl) (E_M_fellow ex31 ?_)
          refine rx_goto (tgt := 50) d_M_walk_46 (by decide) ?_
          exact hJ8 _ _ _ _ _ _ h
theorem E_M_walk {G : bm_G} {f : Nat} {l1 : Int32} {l2 : Int32} {s sz : rx_S} {r : Int32} {Q : Int32 → rx_S → Prop} (h : D_M_walk f l1 l2 s = some (r, sz)) (hq : Q r sz) : rx_Ti G me_M_walk [.ref rx_o, .int (l1), .int (l2)] s Q := by
  refine rx_meti (by decide) rfl (Nat.le_of_ble_eq_true rfl) ?_
  generalize hQ : (fun (v : bm_R) (s2 : rx_S) => ∃ x, v = .inl (some (.int x)) ∧ Q x s2) = Q2
  replace hq : Q2 (.inl (some (.int (r)))) sz := by rw [← hQ]; exact ⟨_, rfl, hq⟩
  clear hQ
  unfold D_M_walk at h
  refine rx_iload_n d_M_walk_0 rfl ?_
  refine rx_istore_n d_M_walk_1 (by decide) ?_
  refine rx_iconst (v := nI 1) d_M_walk_2 (by decide) ?_
  refine rx_istore d_M_walk_3 (by decide) ?_
  refine E_M_walk_5 (r := r) (sz := sz) hq _ _ _ _ _ _ _ _ h
theorem E_M_move_2 {G : bm_G} {f : Nat} {l1 : Int32} {r : Int32} {sz : rx_S} {Q : bm_R → rx_S → Prop} (hq : Q (.inl none) sz) : ∀ (n : Nat) (l2 : Int32) (s : rx_S), D_M_move_2 f l1 n l2 s = some (r, sz) → rx G me_M_move 2 [some (.ref rx_o), some (.int (l1)), some (.int (l2))] [] s Q := by
  intro n
  induction n with
  | zero =>
    intro l2 s h
    rw [D_M_move_2] at h
    exact absurd h (by simp)
  | succ n ih =>
    intro l2 s h
    rw [D_M_move_2] at h
    refine rx_iload_n d_M_move_2 rfl ?_
    refine rx_aload_n d_M_move_3 rfl ?_
    refine rx_gaf g_M_move_4 (by decide) ?_
    refine rx_iload_n d_M_move_7 rfl ?_
    obtain ⟨j1, hj1, ej1, h⟩ := og_inv (by decide) h
    refine rx_iald d_M_move_8 rfl ej1 hj1 ?_
    refine oj_step (P := fun J2 : Unit → Option (Int32 × rx_S) => ∀ (_u : Unit) (d0 : Option Value) (d1 : Option Value) (d2 : Option Value), J2 () = some (r, sz) → rx G me_M_move 49 [d0, d1, d2] [] s Q) h ?_ ?_
    · intro _u d0 d1 d2 h
      exact rx_vret d_M_move_49 rfl (ox_v hq h)
    clear h
    intro J2 hJ1 h
    refine rx_icmp_ge (tgt := 49) d_M_move_9 (by decide) (fun hc9 => ?_) (fun hc9 => ?_)
    · rw [if_pos hc9] at h
      exact hJ1 () _ _ _ h
    · rw [if_neg hc9] at h
      refine rx_aload_n d_M_move_12 rfl ?_
      refine rx_gaf g_M_move_13 (by decide) ?_
      refine rx_iload_n d_M_move_16 rfl ?_
      refine rx_iald d_M_move_17 rfl ej1 hj1 ?_
      refine rx_iconst (v := nI 2) d_M_move_18 (by decide) ?_
      refine rx_icmp_ne (tgt := 49) d_M_move_19 (by decide) (fun hc19 => ?_) (fun hc19 => ?_)
      · rw [if_neg hc19] at h
        exact hJ1 () _ _ _ h
      · rw [if_pos hc19] at h
        refine rx_aload_n d_M_move_22 rfl ?_
        refine rx_gaf g_M_move_23 (by decide) ?_
        refine rx_bipush (v := nI 8) d_M_move_26 (by decide) ?_
        refine rx_iload_n d_M_move_28 rfl ?_
        refine rx_imul d_M_move_29 ?_
        refine rx_iload_n d_M_move_30 rfl ?_
        refine rx_iadd d_M_move_31 ?_
        obtain ⟨j3, hj3, ej3, h⟩ := og_inv (by decide) h
        refine rx_zald d_M_move_32 rfl ej3 hj3 ?_
        refine oj_step (P := fun J4 : Int32 → rx_S → Option (Int32 × rx_S) => ∀ (v5 : Int32) (s6 : rx_S), J4 v5 s6 = some (r, sz) → rx G me_M_move 43 [some (.ref rx_o), some (.int (l1)), some (.int (v5))] [] s6 Q) h ?_ ?_
        · intro v5 s6 h
          refine rx_iincP d_M_move_43 (by decide) rfl ?_
          refine rx_goto (tgt := 2) d_M_move_46 (by decide) ?_
          exact ih _ _ h
        clear h
        intro J4 hJ2 h
        refine rx_if_ne (tgt := 43) d_M_move_33 (by decide) (fun hc33 => ?_) (fun hc33 => ?_)
        · rw [if_neg hc33] at h
          exact hJ2 _ _ h
        · rw [if_pos hc33] at h
          refine rx_aload_n d_M_move_36 rfl ?_
          refine rx_iload_n d_M_move_37 rfl ?_
          refine rx_iload_n d_M_move_38 rfl ?_
          obtain ⟨x7, s8, ex7, h⟩ := ob_inv h
          refine rx_callV2 c_M_move_39 (Nat.le_of_ble_eq_true rfl) (E_M_walk ex7 ?_)
          refine rx_istore_n d_M_move_42 (by decide) ?_
          exact hJ2 _ _ h
theorem E_M_move {G : bm_G} {f : Nat} {l1 : Int32} {s sz : rx_S} {r : Int32} {Q : rx_S → Prop} (h : D_M_move f l1 s = some (r, sz)) (hq : Q sz) : rx_Tv G me_M_move [.ref rx_o, .int (l1)] s Q := by
  refine rx_metv (by decide) rfl (Nat.le_of_ble_eq_true rfl) ?_
  generalize hQ : (fun (v : bm_R) (s2 : rx_S) => v = .inl none ∧ Q s2) = Q2
  replace hq : Q2 (.inl none) sz := by rw [← hQ]; exact ⟨rfl, hq⟩
  clear hQ
  unfold D_M_move at h
  refine rx_iconst (v := nI 0) d_M_move_0 (by decide) ?_
  refine rx_istore_n d_M_move_1 (by decide) ?_
  refine E_M_move_2 (r := r) (sz := sz) hq _ _ _ h
theorem E_M_goOn_2 {G : bm_G} {f : Nat} {l1 : Int32} {k83 : rx_S → Option (Int32 × rx_S)} {r : Int32} {sz : rx_S} {Q : bm_R → rx_S → Prop} (hq : Q (.inl none) sz) (hk83 : ∀ (d2 : Option Value) (d3 : Option Value) (s : rx_S), k83 s = some (r, sz) → rx G me_M_goOn 83 [some (.ref rx_o), some (.int (l1)), d2, d3] [] s Q) : ∀ (n : Nat) (l2 : Int32) (d3 : Option Value) (s : rx_S), D_M_goOn_2 f l1 k83 n l2 s = some (r, sz) → rx G me_M_goOn 2 [some (.ref rx_o), some (.int (l1)), some (.int (l2)), d3] [] s Q := by
  intro n
  induction n with
  | zero =>
    intro l2 d3 s h
    rw [D_M_goOn_2] at h
    exact absurd h (by simp)
  | succ n ih =>
    intro l2 d3 s h
    rw [D_M_goOn_2] at h
    refine rx_iload_n d_M_goOn_2 rfl ?_
    refine rx_aload_n d_M_goOn_3 rfl ?_
    refine rx_gaf g_M_goOn_4 (by decide) ?_
    refine rx_iload_n d_M_goOn_7 rfl ?_
    obtain ⟨j1, hj1, ej1, h⟩ := og_inv (by decide) h
    refine rx_iald d_M_goOn_8 rfl ej1 hj1 ?_
    refine rx_icmp_ge (tgt := 83) d_M_goOn_9 (by decide) (fun hc9 => ?_) (fun hc9 => ?_)
    · rw [if_pos hc9] at h
      exact hk83 _ _ _ h
    · rw [if_neg hc9] at h
      refine rx_aload_n d_M_goOn_12 rfl ?_
      refine rx_iload_n d_M_goOn_13 rfl ?_
      obtain ⟨x2, s3, ex2, h⟩ := ob_inv h
      refine rx_callV1 c_M_goOn_14 (Nat.le_of_ble_eq_true rfl) (E_M_isOn ex2 ?_)
      refine rx_if_eq (tgt := 83) d_M_goOn_17 (by decide) (fun hc17 => ?_) (fun hc17 => ?_)
      · rw [if_pos hc17] at h
        exact hk83 _ _ _ h
      · rw [if_neg hc17] at h
        refine rx_bipush (v := nI 8) d_M_goOn_20 (by decide) ?_
        refine rx_iload_n d_M_goOn_22 rfl ?_
        refine rx_imul d_M_goOn_23 ?_
        refine rx_iload_n d_M_goOn_24 rfl ?_
        refine rx_iadd d_M_goOn_25 ?_
        refine rx_istore_n d_M_goOn_26 (by decide) ?_
        refine rx_aload_n d_M_goOn_27 rfl ?_
        refine rx_gaf g_M_goOn_28 (by decide) ?_
        refine rx_iload_n d_M_goOn_31 rfl ?_
        obtain ⟨j4, hj4, ej4, h⟩ := og_inv (by decide) h
        refine rx_zald d_M_goOn_32 rfl ej4 hj4 ?_
        refine oj_step (P := fun J5 : rx_S → Option (Int32 × rx_S) => ∀ (s6 : rx_S) (d3 : Option Value), J5 s6 = some (r, sz) → rx G me_M_goOn 77 [some (.ref rx_o), some (.int (l1)), some (.int (l2)), d3] [] s6 Q) h ?_ ?_
        · intro s6 d3 h
          refine rx_iincP d_M_goOn_77 (by decide) rfl ?_
          refine rx_goto (tgt := 2) d_M_goOn_80 (by decide) ?_
          exact ih _ _ _ h
        clear h
        intro J5 hJ1 h
        refine rx_if_eq (tgt := 77) d_M_goOn_33 (by decide) (fun hc33 => ?_) (fun hc33 => ?_)
        · rw [if_pos hc33] at h
          exact hJ1 _ _ h
        · rw [if_neg hc33] at h
          refine rx_aload_n d_M_goOn_36 rfl ?_
          refine rx_iload_n d_M_goOn_37 rfl ?_
          refine rx_iload_n d_M_goOn_38 rfl ?_
          obtain ⟨x7, s8, ex7, h⟩ := ob_inv h
          refine rx_callV2 c_M_goOn_39 (Nat.le_of_ble_eq_true rfl) (E_M_works ex7 ?_)
          refine rx_if_eq (tgt := 77) d_M_goOn_42 (by decide) (fun hc42 => ?_) (fun hc42 => ?_)
          · rw [if_pos hc42] at h
            exact hJ1 _ _ h
          · rw [if_neg hc42] at h
            refine rx_aload_n d_M_goOn_45 rfl ?_
            refine rx_iload_n d_M_goOn_46 rfl ?_
            obtain ⟨x9, s10, ex9, h⟩ := ob_inv h
            refine rx_callV1 c_M_goOn_47 (Nat.le_of_ble_eq_true rfl) (E_M_isOn ex9 ?_)
            refine rx_if_eq (tgt := 77) d_M_goOn_50 (by decide) (fun hc50 => ?_) (fun hc50 => ?_)
            · rw [if_pos hc50] at h
              exact hJ1 _ _ h
            · rw [if_neg hc50] at h
              refine rx_aload_n d_M_goOn_53 rfl ?_
              refine rx_gaf g_M_goOn_54 (by decide) ?_
              refine rx_iload_n d_M_goOn_57 rfl ?_
              refine rx_iconst (v := nI 0) d_M_goOn_58 (by decide) ?_
              refine rx_zast d_M_goOn_59 rfl ej4 hj4 (by decide) ?_
              refine rx_aload_n d_M_goOn_60 rfl ?_
              refine rx_gaf g_M_goOn_61 (by decide) ?_
              refine rx_iload_n d_M_goOn_64 rfl ?_
              refine rx_aload_n d_M_goOn_65 rfl ?_
              refine rx_gaf g_M_goOn_66 (by decide) ?_
              refine rx_aload_n d_M_goOn_69 rfl ?_
              refine rx_iload_n d_M_goOn_70 rfl ?_
              refine rx_iload_n d_M_goOn_71 rfl ?_
              obtain ⟨x11, s12, ex11, h⟩ := ob_inv h
              refine rx_callV2 c_M_goOn_72 (Nat.le_of_ble_eq_true rfl) (E_M_stepAt ex11 ?_)
              obtain ⟨j13, hj13, ej13, h⟩ := og_inv (by decide) h
              refine rx_iald d_M_goOn_75 rfl ej13 hj13 ?_
              refine rx_iast d_M_goOn_76 rfl ej4 hj4 ?_
              exact hJ1 _ _ h
theorem E_M_goOn {G : bm_G} {f : Nat} {l1 : Int32} {s sz : rx_S} {r : Int32} {Q : rx_S → Prop} (h : D_M_goOn f l1 s = some (r, sz)) (hq : Q sz) : rx_Tv G me_M_goOn [.ref rx_o, .int (l1)] s Q := by
  refine rx_metv (by decide) rfl (Nat.le_of_ble_eq_true rfl) ?_
  generalize hQ : (fun (v : bm_R) (s2 : rx_S) => v = .inl none ∧ Q s2) = Q2
  replace hq : Q2 (.inl none) sz := by rw [← hQ]; exact ⟨rfl, hq⟩
  clear hQ
  unfold D_M_goOn at h
  refine rx_iconst (v := nI 0) d_M_goOn_0 (by decide) ?_
  refine rx_istore_n d_M_goOn_1 (by decide) ?_
  refine E_M_goOn_2 (r := r) (sz := sz) hq ?_ _ _ _ _ h
  · intro d2 d3 s14 h
    refine rx_aload_n d_M_goOn_83 rfl ?_
    refine rx_gaf g_M_goOn_84 (by decide) ?_
    refine rx_iload_n d_M_goOn_87 rfl ?_
    obtain ⟨j15, hj15, ej15, h⟩ := og_inv (by decide) h
    refine rx_iald d_M_goOn_88 rfl ej15 hj15 ?_
    refine rx_iconst (v := nI 4) d_M_goOn_89 (by decide) ?_
    refine oj_step (P := fun J16 : rx_S → Option (Int32 × rx_S) => ∀ (s17 : rx_S) (d0 : Option Value) (d1 : Option Value) (d2 : Option Value) (d3 : Option Value), J16 s17 = some (r, sz) → rx G me_M_goOn 125 [d0, d1, d2, d3] [] s17 Q2) h ?_ ?_
    · intro s17 d0 d1 d2 d3 h
      exact rx_vret d_M_goOn_125 rfl (ox_v hq h)
    clear h
    intro J16 hJ2 h
    refine oj_step (P := fun J18 : rx_S → Option (Int32 × rx_S) => ∀ (s19 : rx_S) (d2 : Option Value) (d3 : Option Value), J18 s19 = some (r, sz) → rx G me_M_goOn 110 [some (.ref rx_o), some (.int (l1)), d2, d3] [] s19 Q2) h ?_ ?_
    · intro s19 d2 d3 h
      refine rx_aload_n d_M_goOn_110 rfl ?_
      refine rx_gaf g_M_goOn_111 (by decide) ?_
      refine rx_iload_n d_M_goOn_114 rfl ?_
      refine rx_iald d_M_goOn_115 rfl ej15 hj15 ?_
      refine rx_iconst (v := nI 2) d_M_goOn_116 (by decide) ?_
      refine rx_icmp_ne (tgt := 125) d_M_goOn_117 (by decide) (fun hc117 => ?_) (fun hc117 => ?_)
      · rw [if_neg hc117] at h
        exact hJ2 _ _ _ _ _ h
      · rw [if_pos hc117] at h
        refine rx_aload_n d_M_goOn_120 rfl ?_
        refine rx_iload_n d_M_goOn_121 rfl ?_
        obtain ⟨x20, s21, ex20, h⟩ := ob_inv h
        refine rx_callV1v c_M_goOn_122 (Nat.le_of_ble_eq_true rfl) (E_M_move ex20 ?_)
        exact hJ2 _ _ _ _ _ h
    clear h
    intro J18 hJ3 h
    refine rx_icmp_ne (tgt := 110) d_M_goOn_90 (by decide) (fun hc90 => ?_) (fun hc90 => ?_)
    · rw [if_neg hc90] at h
      exact hJ3 _ _ _ h
    · rw [if_pos hc90] at h
      refine rx_aload_n d_M_goOn_93 rfl ?_
      refine rx_iload_n d_M_goOn_94 rfl ?_
      obtain ⟨x22, s23, ex22, h⟩ := ob_inv h
      refine rx_callV1 c_M_goOn_95 (Nat.le_of_ble_eq_true rfl) (E_M_running ex22 ?_)
      refine rx_if_ne (tgt := 110) d_M_goOn_98 (by decide) (fun hc98 => ?_) (fun hc98 => ?_)
      · rw [if_neg hc98] at h
        exact hJ3 _ _ _ h
      · rw [if_pos hc98] at h
        refine rx_aload_n d_M_goOn_101 rfl ?_
        refine rx_iload_n d_M_goOn_102 rfl ?_
        refine rx_iconst (v := nI 5) d_M_goOn_103 (by decide) ?_
        obtain ⟨x24, s25, ex24, h⟩ := ob_inv h
        refine rx_callV2v c_M_goOn_104 (Nat.le_of_ble_eq_true rfl) (E_M_close ex24 ?_)
        refine rx_goto (tgt := 125) d_M_goOn_107 (by decide) ?_
        exact hJ2 _ _ _ _ _ h
theorem E_M_needs_4 {G : bm_G} {f : Nat} {l1 : Int32} {k35 : Int32 → rx_S → Option (Int32 × rx_S)} {r : Int32} {sz : rx_S} {Q : bm_R → rx_S → Prop} (hq : Q (.inl (some (.int (r)))) sz) (hk35 : ∀ (q2 : Int32) (d0 : Option Value) (d1 : Option Value) (d3 : Option Value) (s : rx_S), k35 q2 s = some (r, sz) → rx G me_M_needs 35 [d0, d1, some (.int (q2)), d3] [] s Q) : ∀ (n : Nat) (l2 : Int32) (l3 : Int32) (s : rx_S), D_M_needs_4 f l1 k35 n l2 l3 s = some (r, sz) → rx G me_M_needs 4 [some (.ref rx_o), some (.int (l1)), some (.int (l2)), some (.int (l3))] [] s Q := by
  intro n
  induction n with
  | zero =>
    intro l2 l3 s h
    rw [D_M_needs_4] at h
    exact absurd h (by simp)
  | succ n ih =>
    intro l2 l3 s h
    rw [D_M_needs_4] at h
    refine rx_iload_n d_M_needs_4 rfl ?_
    refine rx_iconst (v := nI 3) d_M_needs_5 (by decide) ?_
    refine rx_icmp_ge (tgt := 35) d_M_needs_6 (by decide) (fun hc6 => ?_) (fun hc6 => ?_)
    · rw [if_pos hc6] at h
      exact hk35 _ _ _ _ _ h
    · rw [if_neg hc6] at h
      refine rx_iload_n d_M_needs_9 rfl ?_
      refine rx_iconst (v := nI 1) d_M_needs_10 (by decide) ?_
      refine rx_aload_n d_M_needs_11 rfl ?_
      refine rx_gaf g_M_needs_12 (by decide) ?_
      refine rx_iconst (v := nI 3) d_M_needs_15 (by decide) ?_
      refine rx_aload_n d_M_needs_16 rfl ?_
      refine rx_gaf g_M_needs_17 (by decide) ?_
      refine rx_iload_n d_M_needs_20 rfl ?_
      obtain ⟨j1, hj1, ej1, h⟩ := og_inv (by decide) h
      refine rx_iald d_M_needs_21 rfl ej1 hj1 ?_
      refine rx_imul d_M_needs_22 ?_
      refine rx_iload_n d_M_needs_23 rfl ?_
      refine rx_iadd d_M_needs_24 ?_
      obtain ⟨j2, hj2, ej2, h⟩ := og_inv (by decide) h
      refine rx_iald d_M_needs_25 rfl ej2 hj2 ?_
      refine rx_ishl d_M_needs_26 ?_
      refine rx_ior d_M_needs_27 ?_
      refine rx_istore_n d_M_needs_28 (by decide) ?_
      refine rx_iincP d_M_needs_29 (by decide) rfl ?_
      refine rx_goto (tgt := 4) d_M_needs_32 (by decide) ?_
      exact ih _ _ _ h
theorem E_M_needs {G : bm_G} {f : Nat} {l1 : Int32} {s sz : rx_S} {r : Int32} {Q : Int32 → rx_S → Prop} (h : D_M_needs f l1 s = some (r, sz)) (hq : Q r sz) : rx_Ti G me_M_needs [.ref rx_o, .int (l1)] s Q := by
  refine rx_meti (by decide) rfl (Nat.le_of_ble_eq_true rfl) ?_
  generalize hQ : (fun (v : bm_R) (s2 : rx_S) => ∃ x, v = .inl (some (.int x)) ∧ Q x s2) = Q2
  replace hq : Q2 (.inl (some (.int (r)))) sz := by rw [← hQ]; exact ⟨_, rfl, hq⟩
  clear hQ
  unfold D_M_needs at h
  refine rx_iconst (v := nI 0) d_M_needs_0 (by decide) ?_
  refine rx_istore_n d_M_needs_1 (by decide) ?_
  refine rx_iconst (v := nI 0) d_M_needs_2 (by decide) ?_
  refine rx_istore_n d_M_needs_3 (by decide) ?_
  refine E_M_needs_4 (r := r) (sz := sz) hq ?_ _ _ _ _ h
  · intro v3 d0 d1 d3 s4 h
    refine rx_iload_n d_M_needs_35 rfl ?_
    refine rx_bipush (v := nI 7) d_M_needs_36 (by decide) ?_
    refine rx_iand d_M_needs_38 ?_
    exact rx_iret d_M_needs_39 rfl (ox_i hq h)
