theorem E_M_begin_21 {G : bm_G} {f : Nat} {l1 : Int32} {l3 : Int32} {l4 : Int32} {k73 : Int32 → rx_S → Option (Int32 × rx_S)} {r : Int32} {sz : rx_S} {Q : bm_R → rx_S → Prop} (hq : Q (.inl none) sz) (hk73 : ∀ (q5 : Int32) (d2 : Option Value) (d6 : Option Value) (s : rx_S), k73 q5 s = some (r, sz) → rx G me_M_begin 73 [some (.ref rx_o), some (.int (l1)), d2, some (.int (l3)), some (.int (l4)), some (.int (q5)), d6] [] s Q) : ∀ (n : Nat) (l5 : Int32) (l6 : Int32) (d2 : Option Value) (s : rx_S), D_M_begin_21 f l1 l3 l4 k73 n l5 l6 s = some (r, sz) → rx G me_M_begin 21 [some (.ref rx_o), some (.int (l1)), d2, some (.int (l3)), some (.int (l4)), some (.int (l5)), some (.int (l6))] [] s Q := by
  intro n
  induction n with
  | zero =>
    intro l5 l6 d2 s h
    rw [D_M_begin_21] at h
    exact absurd h (by simp)
  | succ n ih =>
    intro l5 l6 d2 s h
    rw [D_M_begin_21] at h
    refine rx_iload d_M_begin_21 rfl ?_
    refine rx_aload_n d_M_begin_23 rfl ?_
    refine rx_gaf g_M_begin_24 (by decide) ?_
    refine rx_iload_n d_M_begin_27 rfl ?_
    obtain ⟨j3, hj3, ej3, h⟩ := og_inv (by decide) h
    refine rx_iald d_M_begin_28 rfl ej3 hj3 ?_
    refine rx_icmp_ge (tgt := 73) d_M_begin_29 (by decide) (fun hc29 => ?_) (fun hc29 => ?_)
    · rw [if_pos hc29] at h
      exact hk73 _ _ _ _ h
    · rw [if_neg hc29] at h
      refine rx_iload d_M_begin_32 rfl ?_
      refine rx_aload_n d_M_begin_34 rfl ?_
      refine rx_gaf g_M_begin_35 (by decide) ?_
      refine rx_bipush (v := nI 8) d_M_begin_38 (by decide) ?_
      refine rx_iload_n d_M_begin_40 rfl ?_
      refine rx_imul d_M_begin_41 ?_
      refine rx_iload d_M_begin_42 rfl ?_
      refine rx_iadd d_M_begin_44 ?_
      obtain ⟨j4, hj4, ej4, h⟩ := og_inv (by decide) h
      refine rx_zald d_M_begin_45 rfl ej4 hj4 ?_
      refine oj_step (P := fun J5 : Int32 → rx_S → Option (Int32 × rx_S) => ∀ (x6 : Int32) (s7 : rx_S) (d2 : Option Value) (d5 : Option Value), J5 x6 s7 = some (r, sz) → rx G me_M_begin 64 [some (.ref rx_o), some (.int (l1)), d2, some (.int (l3)), some (.int (l4)), d5, some (.int (l6))] [.int (x6), .int (l5)] s7 Q) h ?_ ?_
      · intro x6 s7 d2 d5 h
        refine rx_ior d_M_begin_64 ?_
        refine rx_istore d_M_begin_65 (by decide) ?_
        refine rx_iincP d_M_begin_67 (by decide) rfl ?_
        refine rx_goto (tgt := 21) d_M_begin_70 (by decide) ?_
        exact ih _ _ _ _ h
      clear h
      intro J5 hJ1 h
      refine rx_if_eq (tgt := 63) d_M_begin_46 (by decide) (fun hc46 => ?_) (fun hc46 => ?_)
      · rw [if_pos hc46] at h
        refine rx_iconst (v := nI 0) d_M_begin_63 (by decide) ?_
        exact hJ1 _ _ _ _ h
      · rw [if_neg hc46] at h
        refine rx_aload_n d_M_begin_49 rfl ?_
        refine rx_aload_n d_M_begin_50 rfl ?_
        refine rx_iload_n d_M_begin_51 rfl ?_
        refine rx_iload d_M_begin_52 rfl ?_
        obtain ⟨x8, s9, ex8, h⟩ := ob_inv h
        refine rx_callV2 c_M_begin_54 (Nat.le_of_ble_eq_true rfl) (E_M_stepAt ex8 ?_)
        obtain ⟨x10, s11, ex10, h⟩ := ob_inv h
        refine rx_callV1 c_M_begin_57 (Nat.le_of_ble_eq_true rfl) (E_M_rolesOf ex10 ?_)
        refine rx_goto (tgt := 64) d_M_begin_60 (by decide) ?_
        exact hJ1 _ _ _ _ h
theorem E_M_begin {G : bm_G} {f : Nat} {l1 : Int32} {l2 : Int32} {s sz : rx_S} {r : Int32} {Q : rx_S → Prop} (h : D_M_begin f l1 l2 s = some (r, sz)) (hq : Q sz) : rx_Tv G me_M_begin [.ref rx_o, .int (l1), .int (l2)] s Q := by
  refine rx_metv (by decide) rfl (Nat.le_of_ble_eq_true rfl) ?_
  generalize hQ : (fun (v : bm_R) (s2 : rx_S) => v = .inl none ∧ Q s2) = Q2
  replace hq : Q2 (.inl none) sz := by rw [← hQ]; exact ⟨rfl, hq⟩
  clear hQ
  unfold D_M_begin at h
  refine rx_bipush (v := nI 8) d_M_begin_0 (by decide) ?_
  refine rx_iload_n d_M_begin_2 rfl ?_
  refine rx_imul d_M_begin_3 ?_
  refine rx_iload_n d_M_begin_4 rfl ?_
  refine rx_iadd d_M_begin_5 ?_
  refine rx_istore_n d_M_begin_6 (by decide) ?_
  refine rx_aload_n d_M_begin_7 rfl ?_
  refine rx_iload_n d_M_begin_8 rfl ?_
  refine rx_iload_n d_M_begin_9 rfl ?_
  obtain ⟨x1, s2, ex1, h⟩ := ob_inv h
  refine rx_callV2 c_M_begin_10 (Nat.le_of_ble_eq_true rfl) (E_M_stepAt ex1 ?_)
  refine rx_istore d_M_begin_13 (by decide) ?_
  refine rx_iconst (v := nI 0) d_M_begin_15 (by decide) ?_
  refine rx_istore d_M_begin_16 (by decide) ?_
  refine rx_iconst (v := nI 0) d_M_begin_18 (by decide) ?_
  refine rx_istore d_M_begin_19 (by decide) ?_
  refine E_M_begin_21 (r := r) (sz := sz) hq ?_ _ _ _ _ _ h
  · intro v12 d2 d6 s13 h
    refine rx_aload_n d_M_begin_73 rfl ?_
    refine rx_gaf g_M_begin_74 (by decide) ?_
    refine rx_iload_n d_M_begin_77 rfl ?_
    obtain ⟨j14, hj14, ej14, h⟩ := og_inv (by decide) h
    refine rx_zald d_M_begin_78 rfl ej14 hj14 ?_
    refine oj_step (P := fun J15 : rx_S → Option (Int32 × rx_S) => ∀ (s16 : rx_S) (d0 : Option Value) (d1 : Option Value) (d2 : Option Value) (d3 : Option Value) (d4 : Option Value) (d5 : Option Value) (d6 : Option Value), J15 s16 = some (r, sz) → rx G me_M_begin 94 [d0, d1, d2, d3, d4, d5, d6] [] s16 Q2) h ?_ ?_
    · intro s16 d0 d1 d2 d3 d4 d5 d6 h
      exact rx_vret d_M_begin_94 rfl (ox_v hq h)
    clear h
    intro J15 hJ2 h
    refine rx_if_ne (tgt := 94) d_M_begin_79 (by decide) (fun hc79 => ?_) (fun hc79 => ?_)
    · rw [if_neg hc79] at h
      exact hJ2 _ _ _ _ _ _ _ _ h
    · rw [if_pos hc79] at h
      refine rx_iload d_M_begin_82 rfl ?_
      refine rx_aload_n d_M_begin_84 rfl ?_
      refine rx_iload d_M_begin_85 rfl ?_
      obtain ⟨x17, s18, ex17, h⟩ := ob_inv h
      refine rx_callV1 c_M_begin_87 (Nat.le_of_ble_eq_true rfl) (E_M_rolesOf ex17 ?_)
      refine rx_iand d_M_begin_90 ?_
      refine rx_if_eq (tgt := 95) d_M_begin_91 (by decide) (fun hc91 => ?_) (fun hc91 => ?_)
      · rw [if_pos hc91] at h
        refine rx_aload_n d_M_begin_95 rfl ?_
        refine rx_gaf g_M_begin_96 (by decide) ?_
        refine rx_iload d_M_begin_99 rfl ?_
        obtain ⟨j19, hj19, ej19, h⟩ := og_inv (by decide) h
        refine rx_iald d_M_begin_101 rfl ej19 hj19 ?_
        refine oj_step (P := fun J20 : rx_S → Option (Int32 × rx_S) => ∀ (s21 : rx_S) (d2 : Option Value) (d5 : Option Value) (d6 : Option Value), J20 s21 = some (r, sz) → rx G me_M_begin 133 [some (.ref rx_o), some (.int (l1)), d2, some (.int (((nI 8) * l1) + l2)), some (.int (x1)), d5, d6] [] s21 Q2) h ?_ ?_
        · intro s21 d2 d5 d6 h
          refine rx_aload_n d_M_begin_133 rfl ?_
          refine rx_gaf g_M_begin_134 (by decide) ?_
          refine rx_iload_n d_M_begin_137 rfl ?_
          refine rx_iconst (v := nI 1) d_M_begin_138 (by decide) ?_
          refine rx_zast d_M_begin_139 rfl ej14 hj14 (by decide) ?_
          refine rx_aload_n d_M_begin_140 rfl ?_
          refine rx_gaf g_M_begin_141 (by decide) ?_
          refine rx_iload_n d_M_begin_144 rfl ?_
          refine rx_iconst (v := nI 0) d_M_begin_145 (by decide) ?_
          refine rx_zast d_M_begin_146 rfl ej14 hj14 (by decide) ?_
          refine rx_aload_n d_M_begin_147 rfl ?_
          refine rx_gaf g_M_begin_148 (by decide) ?_
          refine rx_iload_n d_M_begin_151 rfl ?_
          refine rx_aload_n d_M_begin_152 rfl ?_
          refine rx_gaf g_M_begin_153 (by decide) ?_
          refine rx_iload d_M_begin_156 rfl ?_
          refine rx_iald d_M_begin_158 rfl ej19 hj19 ?_
          refine oj_step (P := fun J22 : Int32 → rx_S → Option (Int32 × rx_S) => ∀ (x23 : Int32) (s24 : rx_S) (d0 : Option Value) (d1 : Option Value) (d2 : Option Value) (d3 : Option Value) (d4 : Option Value) (d5 : Option Value) (d6 : Option Value), J22 x23 s24 = some (r, sz) → rx G me_M_begin 242 [d0, d1, d2, d3, d4, d5, d6] [.int (x23), .int (((nI 8) * l1) + l2), .ref (rx_a 24)] s24 Q2) h ?_ ?_
          · intro x23 s24 d0 d1 d2 d3 d4 d5 d6 h
            refine rx_iast d_M_begin_242 rfl ej14 hj14 ?_
            exact rx_vret d_M_begin_243 rfl (ox_v hq h)
          clear h
          intro J22 hJ3 h
          refine rx_if_ne (tgt := 190) d_M_begin_159 (by decide) (fun hc159 => ?_) (fun hc159 => ?_)
          · rw [if_neg hc159] at h
            refine rx_aload_n d_M_begin_190 rfl ?_
            refine rx_gaf g_M_begin_191 (by decide) ?_
            refine rx_iload d_M_begin_194 rfl ?_
            refine rx_iald d_M_begin_196 rfl ej19 hj19 ?_
            refine rx_iconst (v := nI 2) d_M_begin_197 (by decide) ?_
            refine rx_icmp_ne (tgt := 235) d_M_begin_198 (by decide) (fun hc198 => ?_) (fun hc198 => ?_)
            · rw [if_neg hc198] at h
              refine rx_aload_n d_M_begin_235 rfl ?_
              refine rx_gaf g_M_begin_236 (by decide) ?_
              refine rx_iload d_M_begin_239 rfl ?_
              refine rx_iald d_M_begin_241 rfl ej19 hj19 ?_
              exact hJ3 _ _ _ _ _ _ _ _ _ h
            · rw [if_pos hc198] at h
              refine rx_aload_n d_M_begin_201 rfl ?_
              refine rx_aload_n d_M_begin_202 rfl ?_
              refine rx_gaf g_M_begin_203 (by decide) ?_
              refine rx_iconst (v := nI 3) d_M_begin_206 (by decide) ?_
              refine rx_iload_n d_M_begin_207 rfl ?_
              refine rx_imul d_M_begin_208 ?_
              refine rx_aload_n d_M_begin_209 rfl ?_
              refine rx_gaf g_M_begin_210 (by decide) ?_
              refine rx_iload d_M_begin_213 rfl ?_
              refine rx_iald d_M_begin_215 rfl ej19 hj19 ?_
              refine rx_iadd d_M_begin_216 ?_
              obtain ⟨j26, hj26, ej26, h⟩ := og_inv (by decide) h
              refine rx_iald d_M_begin_217 rfl ej26 hj26 ?_
              obtain ⟨x27, s28, ex27, h⟩ := ob_inv h
              refine rx_callV1 c_M_begin_218 (Nat.le_of_ble_eq_true rfl) (E_M_total ex27 ?_)
              refine rx_aload_n d_M_begin_221 rfl ?_
              refine rx_gaf g_M_begin_222 (by decide) ?_
              refine rx_iload d_M_begin_225 rfl ?_
              refine rx_iald d_M_begin_227 rfl ej19 hj19 ?_
              refine rx_imul d_M_begin_228 ?_
              refine rx_bipush (v := nI 100) d_M_begin_229 (by decide) ?_
              obtain ⟨hy231, h⟩ := od_inv h
              refine rx_idiv d_M_begin_231 hy231 ?_
              refine rx_goto (tgt := 242) d_M_begin_232 (by decide) ?_
              exact hJ3 _ _ _ _ _ _ _ _ _ h
          · rw [if_pos hc159] at h
            refine rx_aload_n d_M_begin_162 rfl ?_
            refine rx_gaf g_M_begin_163 (by decide) ?_
            refine rx_iload d_M_begin_166 rfl ?_
            refine rx_iald d_M_begin_168 rfl ej19 hj19 ?_
            refine rx_aload_n d_M_begin_169 rfl ?_
            refine rx_gaf g_M_begin_170 (by decide) ?_
            refine rx_iload d_M_begin_173 rfl ?_
            refine rx_iald d_M_begin_175 rfl ej19 hj19 ?_
            refine rx_aload_n d_M_begin_176 rfl ?_
            refine rx_gaf g_M_begin_177 (by decide) ?_
            refine rx_iload_n d_M_begin_180 rfl ?_
            obtain ⟨j25, hj25, ej25, h⟩ := og_inv (by decide) h
            refine rx_iald d_M_begin_181 rfl ej25 hj25 ?_
            refine rx_imul d_M_begin_182 ?_
            refine rx_bipush (v := nI 100) d_M_begin_183 (by decide) ?_
            obtain ⟨hy185, h⟩ := od_inv h
            refine rx_idiv d_M_begin_185 hy185 ?_
            refine rx_iadd d_M_begin_186 ?_
            refine rx_goto (tgt := 242) d_M_begin_187 (by decide) ?_
            exact hJ3 _ _ _ _ _ _ _ _ _ h
        clear h
        intro J20 hJ4 h
        refine rx_if_ne (tgt := 133) d_M_begin_102 (by decide) (fun hc102 => ?_) (fun hc102 => ?_)
        · rw [if_neg hc102] at h
          exact hJ4 _ _ _ _ h
        · rw [if_pos hc102] at h
          refine rx_aload_n d_M_begin_105 rfl ?_
          refine rx_iload_n d_M_begin_106 rfl ?_
          refine rx_aload_n d_M_begin_107 rfl ?_
          refine rx_gaf g_M_begin_108 (by decide) ?_
          refine rx_iload_n d_M_begin_111 rfl ?_
          refine rx_iald d_M_begin_112 rfl ej14 hj14 ?_
          obtain ⟨x29, s30, ex29, h⟩ := ob_inv h
          refine rx_callV2 c_M_begin_113 (Nat.le_of_ble_eq_true rfl) (E_M_newLot ex29 ?_)
          refine rx_istore d_M_begin_116 (by decide) ?_
          refine rx_iload d_M_begin_118 rfl ?_
          refine rx_iconst (v := (-1)) d_M_begin_120 (by decide) ?_
          refine rx_icmp_ne (tgt := 125) d_M_begin_121 (by decide) (fun hc121 => ?_) (fun hc121 => ?_)
          · rw [if_neg hc121] at h
            refine rx_aload_n d_M_begin_125 rfl ?_
            refine rx_gaf g_M_begin_126 (by decide) ?_
            refine rx_iload_n d_M_begin_129 rfl ?_
            refine rx_iload d_M_begin_130 rfl ?_
            refine rx_iast d_M_begin_132 rfl ej14 hj14 ?_
            exact hJ4 _ _ _ _ h
          · rw [if_pos hc121] at h
            exact rx_vret d_M_begin_124 rfl (ox_v hq h)
      · rw [if_neg hc91] at h
        exact hJ2 _ _ _ _ _ _ _ _ h
theorem E_M_drop_7 {G : bm_G} {f : Nat} {l1 : Int32} {k100 : rx_S → Option (Int32 × rx_S)} {r : Int32} {sz : rx_S} {Q : bm_R → rx_S → Prop} (hq : Q (.inl none) sz) (hk100 : ∀ (d2 : Option Value) (d3 : Option Value) (s : rx_S), k100 s = some (r, sz) → rx G me_M_drop 100 [some (.ref rx_o), some (.int (l1)), d2, d3] [] s Q) : ∀ (n : Nat) (l3 : Int32) (d2 : Option Value) (s : rx_S), D_M_drop_7 f l1 k100 n l3 s = some (r, sz) → rx G me_M_drop 7 [some (.ref rx_o), some (.int (l1)), d2, some (.int (l3))] [] s Q := by
  intro n
  induction n with
  | zero =>
    intro l3 d2 s h
    rw [D_M_drop_7] at h
    exact absurd h (by simp)
  | succ n ih =>
    intro l3 d2 s h
    rw [D_M_drop_7] at h
    refine rx_iload_n d_M_drop_7 rfl ?_
    refine rx_bipush (v := nI 8) d_M_drop_8 (by decide) ?_
    refine rx_iload_n d_M_drop_10 rfl ?_
    refine rx_imul d_M_drop_11 ?_
    refine rx_aload_n d_M_drop_12 rfl ?_
    refine rx_gaf g_M_drop_13 (by decide) ?_
    refine rx_iload_n d_M_drop_16 rfl ?_
    obtain ⟨j1, hj1, ej1, h⟩ := og_inv (by decide) h
    refine rx_iald d_M_drop_17 rfl ej1 hj1 ?_
    refine rx_iadd d_M_drop_18 ?_
    refine rx_iconst (v := nI 1) d_M_drop_19 (by decide) ?_
    refine rx_isub d_M_drop_20 ?_
    refine rx_icmp_ge (tgt := 100) d_M_drop_21 (by decide) (fun hc21 => ?_) (fun hc21 => ?_)
    · rw [if_pos hc21] at h
      exact hk100 _ _ _ h
    · rw [if_neg hc21] at h
      refine rx_aload_n d_M_drop_24 rfl ?_
      refine rx_gaf g_M_drop_25 (by decide) ?_
      refine rx_iload_n d_M_drop_28 rfl ?_
      refine rx_aload_n d_M_drop_29 rfl ?_
      refine rx_gaf g_M_drop_30 (by decide) ?_
      refine rx_iload_n d_M_drop_33 rfl ?_
      refine rx_iconst (v := nI 1) d_M_drop_34 (by decide) ?_
      refine rx_iadd d_M_drop_35 ?_
      obtain ⟨j2, hj2, ej2, h⟩ := og_inv (by decide) h
      refine rx_iald d_M_drop_36 rfl ej2 hj2 ?_
      obtain ⟨j3, hj3, ej3, h⟩ := og_inv (by decide) h
      refine rx_iast d_M_drop_37 rfl ej3 hj3 ?_
      refine rx_aload_n d_M_drop_38 rfl ?_
      refine rx_gaf g_M_drop_39 (by decide) ?_
      refine rx_iload_n d_M_drop_42 rfl ?_
      refine rx_aload_n d_M_drop_43 rfl ?_
      refine rx_gaf g_M_drop_44 (by decide) ?_
      refine rx_iload_n d_M_drop_47 rfl ?_
      refine rx_iconst (v := nI 1) d_M_drop_48 (by decide) ?_
      refine rx_iadd d_M_drop_49 ?_
      refine rx_iald d_M_drop_50 rfl ej2 hj2 ?_
      refine rx_iast d_M_drop_51 rfl ej3 hj3 ?_
      refine rx_aload_n d_M_drop_52 rfl ?_
      refine rx_gaf g_M_drop_53 (by decide) ?_
      refine rx_iload_n d_M_drop_56 rfl ?_
      refine rx_aload_n d_M_drop_57 rfl ?_
      refine rx_gaf g_M_drop_58 (by decide) ?_
      refine rx_iload_n d_M_drop_61 rfl ?_
      refine rx_iconst (v := nI 1) d_M_drop_62 (by decide) ?_
      refine rx_iadd d_M_drop_63 ?_
      refine rx_iald d_M_drop_64 rfl ej2 hj2 ?_
      refine rx_iast d_M_drop_65 rfl ej3 hj3 ?_
      refine rx_aload_n d_M_drop_66 rfl ?_
      refine rx_gaf g_M_drop_67 (by decide) ?_
      refine rx_iload_n d_M_drop_70 rfl ?_
      refine rx_aload_n d_M_drop_71 rfl ?_
      refine rx_gaf g_M_drop_72 (by decide) ?_
      refine rx_iload_n d_M_drop_75 rfl ?_
      refine rx_iconst (v := nI 1) d_M_drop_76 (by decide) ?_
      refine rx_iadd d_M_drop_77 ?_
      refine rx_zald d_M_drop_78 rfl ej2 hj2 ?_
      obtain ⟨hz79, h⟩ := ozb_inv h
      refine rx_zast d_M_drop_79 rfl ej3 hj3 (ozb_vn hz79) ?_
      refine rx_aload_n d_M_drop_80 rfl ?_
      refine rx_gaf g_M_drop_81 (by decide) ?_
      refine rx_iload_n d_M_drop_84 rfl ?_
      refine rx_aload_n d_M_drop_85 rfl ?_
      refine rx_gaf g_M_drop_86 (by decide) ?_
      refine rx_iload_n d_M_drop_89 rfl ?_
      refine rx_iconst (v := nI 1) d_M_drop_90 (by decide) ?_
      refine rx_iadd d_M_drop_91 ?_
      refine rx_zald d_M_drop_92 rfl ej2 hj2 ?_
      obtain ⟨hz93, h⟩ := ozb_inv h
      refine rx_zast d_M_drop_93 rfl ej3 hj3 (ozb_vn hz93) ?_
      refine rx_iincP d_M_drop_94 (by decide) rfl ?_
      refine rx_goto (tgt := 7) d_M_drop_97 (by decide) ?_
      exact ih _ _ _ h
theorem E_M_drop {G : bm_G} {f : Nat} {l1 : Int32} {l2 : Int32} {s sz : rx_S} {r : Int32} {Q : rx_S → Prop} (h : D_M_drop f l1 l2 s = some (r, sz)) (hq : Q sz) : rx_Tv G me_M_drop [.ref rx_o, .int (l1), .int (l2)] s Q := by
  refine rx_metv (by decide) rfl (Nat.le_of_ble_eq_true rfl) ?_
  generalize hQ : (fun (v : bm_R) (s2 : rx_S) => v = .inl none ∧ Q s2) = Q2
  replace hq : Q2 (.inl none) sz := by rw [← hQ]; exact ⟨rfl, hq⟩
  clear hQ
  unfold D_M_drop at h
  refine rx_bipush (v := nI 8) d_M_drop_0 (by decide) ?_
  refine rx_iload_n d_M_drop_2 rfl ?_
  refine rx_imul d_M_drop_3 ?_
  refine rx_iload_n d_M_drop_4 rfl ?_
  refine rx_iadd d_M_drop_5 ?_
  refine rx_istore_n d_M_drop_6 (by decide) ?_
  refine E_M_drop_7 (r := r) (sz := sz) hq ?_ _ _ _ _ h
  · intro d2 d3 s4 h
    refine rx_aload_n d_M_drop_100 rfl ?_
    refine rx_gaf g_M_drop_101 (by decide) ?_
    refine rx_iload_n d_M_drop_104 rfl ?_
    refine rx_dup2 d_M_drop_105 rfl rfl ?_
    obtain ⟨j5, hj5, ej5, h⟩ := og_inv (by decide) h
    refine rx_iald d_M_drop_106 rfl ej5 hj5 ?_
    refine rx_iconst (v := nI 1) d_M_drop_107 (by decide) ?_
    refine rx_isub d_M_drop_108 ?_
    refine rx_iast d_M_drop_109 rfl ej5 hj5 ?_
    exact rx_vret d_M_drop_110 rfl (ox_v hq h)
theorem E_M_way {G : bm_G} {f : Nat} {l1 : Int32} {l2 : Int32} {s sz : rx_S} {r : Int32} {Q : Int32 → rx_S → Prop} (h : D_M_way f l1 l2 s = some (r, sz)) (hq : Q r sz) : rx_Ti G me_M_way [.ref rx_o, .int (l1), .int (l2)] s Q := by
  refine rx_meti (by decide) rfl (Nat.le_of_ble_eq_true rfl) ?_
  generalize hQ : (fun (v : bm_R) (s2 : rx_S) => ∃ x, v = .inl (some (.int x)) ∧ Q x s2) = Q2
  replace hq : Q2 (.inl (some (.int (r)))) sz := by rw [← hQ]; exact ⟨_, rfl, hq⟩
  clear hQ
  unfold D_M_way at h
  refine rx_iload_n d_M_way_0 rfl ?_
  refine rx_bipush (v := nI 12) d_M_way_1 (by decide) ?_
  refine rx_aload_n d_M_way_3 rfl ?_
  refine rx_gaf g_M_way_4 (by decide) ?_
  refine rx_iload_n d_M_way_7 rfl ?_
  obtain ⟨j1, hj1, ej1, h⟩ := og_inv (by decide) h
  refine rx_iald d_M_way_8 rfl ej1 hj1 ?_
  refine rx_imul d_M_way_9 ?_
  refine rx_isub d_M_way_10 ?_
  refine rx_istore_n d_M_way_11 (by decide) ?_
  refine rx_aload_n d_M_way_12 rfl ?_
  refine rx_gaf g_M_way_13 (by decide) ?_
  refine rx_iload_n d_M_way_16 rfl ?_
  obtain ⟨j2, hj2, ej2, h⟩ := og_inv (by decide) h
  refine rx_iald d_M_way_17 rfl ej2 hj2 ?_
  refine rx_bipush (v := nI 7) d_M_way_18 (by decide) ?_
  refine rx_icmp_ne (tgt := 63) d_M_way_20 (by decide) (fun hc20 => ?_) (fun hc20 => ?_)
  · rw [if_neg hc20] at h
    refine rx_aload_n d_M_way_63 rfl ?_
    refine rx_gaf g_M_way_64 (by decide) ?_
    refine rx_bipush (v := nI 12) d_M_way_67 (by decide) ?_
    refine rx_iload_n d_M_way_69 rfl ?_
    refine rx_imul d_M_way_70 ?_
    refine rx_iload_n d_M_way_71 rfl ?_
    refine rx_iadd d_M_way_72 ?_
    obtain ⟨j6, hj6, ej6, h⟩ := og_inv (by decide) h
    refine rx_iald d_M_way_73 rfl ej6 hj6 ?_
    refine rx_istore d_M_way_74 (by decide) ?_
    refine rx_aload_n d_M_way_76 rfl ?_
    refine rx_gaf g_M_way_77 (by decide) ?_
    refine rx_bipush (v := nI 12) d_M_way_80 (by decide) ?_
    refine rx_iload_n d_M_way_82 rfl ?_
    refine rx_imul d_M_way_83 ?_
    refine rx_iload_n d_M_way_84 rfl ?_
    refine rx_iadd d_M_way_85 ?_
    refine rx_iload d_M_way_86 rfl ?_
    refine rx_aload_n d_M_way_88 rfl ?_
    refine rx_gaf g_M_way_89 (by decide) ?_
    refine rx_iload_n d_M_way_92 rfl ?_
    refine rx_iald d_M_way_93 rfl ej2 hj2 ?_
    refine oj_step (P := fun J7 : Int32 → Option (Int32 × rx_S) => ∀ (x8 : Int32) (d1 : Option Value) (d3 : Option Value), J7 x8 = some (r, sz) → rx G me_M_way 105 [some (.ref rx_o), d1, some (.int (l2)), d3, some (.int (s 21 j6))] [.int (x8), .int (((nI 12) * l1) + (l2 - ((nI 12) * (s 16 j1)))), .ref (rx_a 21)] s Q2) h ?_ ?_
    · intro x8 d1 d3 h
      refine rx_iast d_M_way_105 rfl ej6 hj6 ?_
      refine rx_iload d_M_way_106 rfl ?_
      refine rx_aload_n d_M_way_108 rfl ?_
      refine rx_gaf g_M_way_109 (by decide) ?_
      refine rx_iload_n d_M_way_112 rfl ?_
      refine rx_iald d_M_way_113 rfl ej2 hj2 ?_
      refine oj_step (P := fun J9 : Int32 → Option (Int32 × rx_S) => ∀ (x10 : Int32) (d0 : Option Value) (d1 : Option Value) (d2 : Option Value) (d3 : Option Value) (d4 : Option Value), J9 x10 = some (r, sz) → rx G me_M_way 132 [d0, d1, d2, d3, d4] [.int (x10)] (rx_up s 21 j6 x8) Q2) h ?_ ?_
      · intro x10 d0 d1 d2 d3 d4 h
        exact rx_iret d_M_way_132 rfl (ox_i hq h)
      clear h
      intro J9 hJ2 h
      refine rx_icmp_ge (tgt := 126) d_M_way_114 (by decide) (fun hc114 => ?_) (fun hc114 => ?_)
      · rw [if_pos hc114] at h
        refine rx_aload_n d_M_way_126 rfl ?_
        refine rx_gaf g_M_way_127 (by decide) ?_
        refine rx_iload_n d_M_way_130 rfl ?_
        refine rx_iald d_M_way_131 rfl ej2 hj2 ?_
        exact hJ2 _ _ _ _ _ _ h
      · rw [if_neg hc114] at h
        refine rx_aload_n d_M_way_117 rfl ?_
        refine rx_gaf g_M_way_118 (by decide) ?_
        refine rx_iload_n d_M_way_121 rfl ?_
        refine rx_iald d_M_way_122 rfl ej2 hj2 ?_
        refine rx_goto (tgt := 132) d_M_way_123 (by decide) ?_
        exact hJ2 _ _ _ _ _ _ h
    clear h
    intro J7 hJ3 h
    refine rx_icmp_ge (tgt := 104) d_M_way_94 (by decide) (fun hc94 => ?_) (fun hc94 => ?_)
    · rw [if_pos hc94] at h
      refine rx_iconst (v := nI 0) d_M_way_104 (by decide) ?_
      exact hJ3 _ _ _ h
    · rw [if_neg hc94] at h
      refine rx_iload d_M_way_97 rfl ?_
      refine rx_iconst (v := nI 1) d_M_way_99 (by decide) ?_
      refine rx_iadd d_M_way_100 ?_
      refine rx_goto (tgt := 105) d_M_way_101 (by decide) ?_
      exact hJ3 _ _ _ h
  · rw [if_pos hc20] at h
    refine rx_aload_n d_M_way_23 rfl ?_
    refine rx_gaf g_M_way_24 (by decide) ?_
    refine rx_iconst (v := nI 4) d_M_way_27 (by decide) ?_
    refine rx_iload_n d_M_way_28 rfl ?_
    refine rx_imul d_M_way_29 ?_
    refine rx_aload_n d_M_way_30 rfl ?_
    refine rx_gaf g_M_way_31 (by decide) ?_
    refine rx_iload_n d_M_way_34 rfl ?_
    refine rx_iald d_M_way_35 rfl ej2 hj2 ?_
    refine rx_iadd d_M_way_36 ?_
    obtain ⟨j3, hj3, ej3, h⟩ := og_inv (by decide) h
    refine rx_iald d_M_way_37 rfl ej3 hj3 ?_
    refine rx_aload_n d_M_way_38 rfl ?_
    refine rx_gaf g_M_way_39 (by decide) ?_
    refine rx_iload_n d_M_way_42 rfl ?_
    refine rx_iald d_M_way_43 rfl ej2 hj2 ?_
    refine oj_step (P := fun J4 : Int32 → Option (Int32 × rx_S) => ∀ (x5 : Int32) (d0 : Option Value) (d1 : Option Value) (d2 : Option Value) (d3 : Option Value) (d4 : Option Value), J4 x5 = some (r, sz) → rx G me_M_way 62 [d0, d1, d2, d3, d4] [.int (x5)] s Q2) h ?_ ?_
    · intro x5 d0 d1 d2 d3 d4 h
      exact rx_iret d_M_way_62 rfl (ox_i hq h)
    clear h
    intro J4 hJ1 h
    refine rx_icmp_ge (tgt := 56) d_M_way_44 (by decide) (fun hc44 => ?_) (fun hc44 => ?_)
    · rw [if_pos hc44] at h
      refine rx_aload_n d_M_way_56 rfl ?_
      refine rx_gaf g_M_way_57 (by decide) ?_
      refine rx_iload_n d_M_way_60 rfl ?_
      refine rx_iald d_M_way_61 rfl ej2 hj2 ?_
      exact hJ1 _ _ _ _ _ _ h
    · rw [if_neg hc44] at h
      refine rx_aload_n d_M_way_47 rfl ?_
      refine rx_gaf g_M_way_48 (by decide) ?_
      refine rx_iload_n d_M_way_51 rfl ?_
      refine rx_iald d_M_way_52 rfl ej2 hj2 ?_
      refine rx_goto (tgt := 62) d_M_way_53 (by decide) ?_
      exact hJ1 _ _ _ _ _ _ h
