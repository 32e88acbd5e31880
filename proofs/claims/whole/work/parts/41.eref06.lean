theorem E_M_carry_13 {G : bm_G} {f : Nat} {l1 : Int32} {l2 : Int32} {l3 : Int32} {l4 : Int32} {k90 : Int32 → rx_S → Option (Int32 × rx_S)} {r : Int32} {sz : rx_S} {Q : bm_R → rx_S → Prop} (hq : Q (.inl none) sz) (hk90 : ∀ (q5 : Int32) (d3 : Option Value) (d4 : Option Value) (d6 : Option Value) (d7 : Option Value) (s : rx_S), k90 q5 s = some (r, sz) → rx G me_M_carry 90 [some (.ref rx_o), some (.int (l1)), some (.int (l2)), d3, d4, some (.int (q5)), d6, d7] [] s Q) : ∀ (n : Nat) (l5 : Int32) (l6 : Int32) (d7 : Option Value) (s : rx_S), D_M_carry_13 f l1 l2 l3 l4 k90 n l5 l6 s = some (r, sz) → rx G me_M_carry 13 [some (.ref rx_o), some (.int (l1)), some (.int (l2)), some (.int (l3)), some (.int (l4)), some (.int (l5)), some (.int (l6)), d7] [] s Q := by
  intro n
  induction n with
  | zero =>
    intro l5 l6 d7 s h
    rw [D_M_carry_13] at h
    exact absurd h (by simp)
  | succ n ih =>
    intro l5 l6 d7 s h
    rw [D_M_carry_13] at h
    refine rx_iload d_M_carry_13 rfl ?_
    refine rx_aload_n d_M_carry_15 rfl ?_
    refine rx_gaf g_M_carry_16 (by decide) ?_
    refine rx_iload_n d_M_carry_19 rfl ?_
    obtain ⟨j3, hj3, ej3, h⟩ := og_inv (by decide) h
    refine rx_iald d_M_carry_20 rfl ej3 hj3 ?_
    refine rx_icmp_ge (tgt := 90) d_M_carry_21 (by decide) (fun hc21 => ?_) (fun hc21 => ?_)
    · rw [if_pos hc21] at h
      exact hk90 _ _ _ _ _ _ h
    · rw [if_neg hc21] at h
      refine rx_aload_n d_M_carry_24 rfl ?_
      refine rx_gaf g_M_carry_25 (by decide) ?_
      refine rx_iload d_M_carry_28 rfl ?_
      refine rx_iload_n d_M_carry_30 rfl ?_
      refine rx_aload_n d_M_carry_31 rfl ?_
      refine rx_gaf g_M_carry_32 (by decide) ?_
      refine rx_bipush (v := nI 100) d_M_carry_35 (by decide) ?_
      refine rx_iload_n d_M_carry_37 rfl ?_
      refine rx_imul d_M_carry_38 ?_
      refine rx_iload d_M_carry_39 rfl ?_
      refine rx_iadd d_M_carry_41 ?_
      obtain ⟨j4, hj4, ej4, h⟩ := og_inv (by decide) h
      refine rx_iald d_M_carry_42 rfl ej4 hj4 ?_
      refine rx_imul d_M_carry_43 ?_
      refine rx_iload d_M_carry_44 rfl ?_
      obtain ⟨hy46, h⟩ := od_inv h
      refine rx_idiv d_M_carry_46 hy46 ?_
      obtain ⟨j5, hj5, ej5, h⟩ := og_inv (by decide) h
      refine rx_iast d_M_carry_47 rfl ej5 hj5 ?_
      refine rx_aload_n d_M_carry_48 rfl ?_
      refine rx_gaf g_M_carry_49 (by decide) ?_
      refine rx_iload d_M_carry_52 rfl ?_
      refine rx_iload_n d_M_carry_54 rfl ?_
      refine rx_aload_n d_M_carry_55 rfl ?_
      refine rx_gaf g_M_carry_56 (by decide) ?_
      refine rx_bipush (v := nI 100) d_M_carry_59 (by decide) ?_
      refine rx_iload_n d_M_carry_61 rfl ?_
      refine rx_imul d_M_carry_62 ?_
      refine rx_iload d_M_carry_63 rfl ?_
      refine rx_iadd d_M_carry_65 ?_
      refine rx_iald d_M_carry_66 rfl ej4 hj4 ?_
      refine rx_imul d_M_carry_67 ?_
      refine rx_iload d_M_carry_68 rfl ?_
      obtain ⟨hy70, h⟩ := od_inv h
      refine rx_irem d_M_carry_70 hy70 ?_
      refine rx_iast d_M_carry_71 rfl ej5 hj5 ?_
      refine rx_iload d_M_carry_72 rfl ?_
      refine rx_aload_n d_M_carry_74 rfl ?_
      refine rx_gaf g_M_carry_75 (by decide) ?_
      refine rx_iload d_M_carry_78 rfl ?_
      refine rx_iald d_M_carry_80 rfl ej5 hj5 ?_
      refine rx_isub d_M_carry_81 ?_
      refine rx_istore d_M_carry_82 (by decide) ?_
      refine rx_iincP d_M_carry_84 (by decide) rfl ?_
      refine rx_goto (tgt := 13) d_M_carry_87 (by decide) ?_
      exact ih _ _ _ _ h
theorem E_M_carry_101 {G : bm_G} {f : Nat} {l1 : Int32} {l2 : Int32} {l5 : Int32} {k144 : Int32 → rx_S → Option (Int32 × rx_S)} {r : Int32} {sz : rx_S} {Q : bm_R → rx_S → Prop} (hq : Q (.inl none) sz) (hk144 : ∀ (q6 : Int32) (d3 : Option Value) (d4 : Option Value) (d7 : Option Value) (s : rx_S), k144 q6 s = some (r, sz) → rx G me_M_carry 144 [some (.ref rx_o), some (.int (l1)), some (.int (l2)), d3, d4, some (.int (l5)), some (.int (q6)), d7] [] s Q) : ∀ (n : Nat) (l6 : Int32) (l7 : Int32) (d3 : Option Value) (d4 : Option Value) (s : rx_S), D_M_carry_101 f l1 l2 l5 k144 n l6 l7 s = some (r, sz) → rx G me_M_carry 101 [some (.ref rx_o), some (.int (l1)), some (.int (l2)), d3, d4, some (.int (l5)), some (.int (l6)), some (.int (l7))] [] s Q := by
  intro n
  induction n with
  | zero =>
    intro l6 l7 d3 d4 s h
    rw [D_M_carry_101] at h
    exact absurd h (by simp)
  | succ n ih =>
    intro l6 l7 d3 d4 s h
    rw [D_M_carry_101] at h
    refine rx_iload d_M_carry_101 rfl ?_
    refine rx_aload_n d_M_carry_103 rfl ?_
    refine rx_gaf g_M_carry_104 (by decide) ?_
    refine rx_iload_n d_M_carry_107 rfl ?_
    obtain ⟨j8, hj8, ej8, h⟩ := og_inv (by decide) h
    refine rx_iald d_M_carry_108 rfl ej8 hj8 ?_
    refine rx_icmp_ge (tgt := 144) d_M_carry_109 (by decide) (fun hc109 => ?_) (fun hc109 => ?_)
    · rw [if_pos hc109] at h
      exact hk144 _ _ _ _ _ h
    · rw [if_neg hc109] at h
      refine rx_aload_n d_M_carry_112 rfl ?_
      refine rx_gaf g_M_carry_113 (by decide) ?_
      refine rx_iload d_M_carry_116 rfl ?_
      obtain ⟨j9, hj9, ej9, h⟩ := og_inv (by decide) h
      refine rx_iald d_M_carry_118 rfl ej9 hj9 ?_
      refine rx_aload_n d_M_carry_119 rfl ?_
      refine rx_gaf g_M_carry_120 (by decide) ?_
      refine rx_iload d_M_carry_123 rfl ?_
      obtain ⟨j10, hj10, ej10, h⟩ := og_inv (by decide) h
      refine rx_iald d_M_carry_125 rfl ej10 hj10 ?_
      refine oj_step (P := fun J11 : Int32 → Option (Int32 × rx_S) => ∀ (x12 : Int32) (d3 : Option Value) (d4 : Option Value) (d6 : Option Value), J11 x12 = some (r, sz) → rx G me_M_carry 136 [some (.ref rx_o), some (.int (l1)), some (.int (l2)), d3, d4, some (.int (l5)), d6, some (.int (l7))] [.int (x12)] s Q) h ?_ ?_
      · intro x12 d3 d4 d6 h
        refine rx_istore d_M_carry_136 (by decide) ?_
        refine rx_iincP d_M_carry_138 (by decide) rfl ?_
        refine rx_goto (tgt := 101) d_M_carry_141 (by decide) ?_
        exact ih _ _ _ _ _ h
      clear h
      intro J11 hJ1 h
      refine rx_icmp_le (tgt := 134) d_M_carry_126 (by decide) (fun hc126 => ?_) (fun hc126 => ?_)
      · rw [if_pos hc126] at h
        refine rx_iload d_M_carry_134 rfl ?_
        exact hJ1 _ _ _ _ h
      · rw [if_neg hc126] at h
        refine rx_iload d_M_carry_129 rfl ?_
        refine rx_goto (tgt := 136) d_M_carry_131 (by decide) ?_
        exact hJ1 _ _ _ _ h
theorem E_M_carry_90 {G : bm_G} {f : Nat} {l1 : Int32} {l2 : Int32} {k169 : rx_S → Option (Int32 × rx_S)} {r : Int32} {sz : rx_S} {Q : bm_R → rx_S → Prop} (hq : Q (.inl none) sz) (hk169 : ∀ (d3 : Option Value) (d4 : Option Value) (d5 : Option Value) (d6 : Option Value) (d7 : Option Value) (s : rx_S), k169 s = some (r, sz) → rx G me_M_carry 169 [some (.ref rx_o), some (.int (l1)), some (.int (l2)), d3, d4, d5, d6, d7] [] s Q) : ∀ (n : Nat) (l5 : Int32) (d3 : Option Value) (d4 : Option Value) (d6 : Option Value) (d7 : Option Value) (s : rx_S), D_M_carry_90 f l1 l2 k169 n l5 s = some (r, sz) → rx G me_M_carry 90 [some (.ref rx_o), some (.int (l1)), some (.int (l2)), d3, d4, some (.int (l5)), d6, d7] [] s Q := by
  intro n
  induction n with
  | zero =>
    intro l5 d3 d4 d6 d7 s h
    rw [D_M_carry_90] at h
    exact absurd h (by simp)
  | succ n ih =>
    intro l5 d3 d4 d6 d7 s h
    rw [D_M_carry_90] at h
    refine rx_iload d_M_carry_90 rfl ?_
    refine rx_if_le (tgt := 169) d_M_carry_92 (by decide) (fun hc92 => ?_) (fun hc92 => ?_)
    · rw [if_pos hc92] at h
      exact hk169 _ _ _ _ _ _ h
    · rw [if_neg hc92] at h
      refine rx_iconst (v := nI 0) d_M_carry_95 (by decide) ?_
      refine rx_istore d_M_carry_96 (by decide) ?_
      refine rx_iconst (v := nI 1) d_M_carry_98 (by decide) ?_
      refine rx_istore d_M_carry_99 (by decide) ?_
      refine E_M_carry_101 (r := r) (sz := sz) hq ?_ _ _ _ _ _ _ h
      · intro v13 d3 d4 d7 s14 h
        refine rx_aload_n d_M_carry_144 rfl ?_
        refine rx_gaf g_M_carry_145 (by decide) ?_
        refine rx_iload d_M_carry_148 rfl ?_
        refine rx_dup2 d_M_carry_150 rfl rfl ?_
        obtain ⟨j15, hj15, ej15, h⟩ := og_inv (by decide) h
        refine rx_iald d_M_carry_151 rfl ej15 hj15 ?_
        refine rx_iconst (v := nI 1) d_M_carry_152 (by decide) ?_
        refine rx_iadd d_M_carry_153 ?_
        refine rx_iast d_M_carry_154 rfl ej15 hj15 ?_
        refine rx_aload_n d_M_carry_155 rfl ?_
        refine rx_gaf g_M_carry_156 (by decide) ?_
        refine rx_iload d_M_carry_159 rfl ?_
        refine rx_iconst (v := (-1)) d_M_carry_161 (by decide) ?_
        refine rx_iast d_M_carry_162 rfl ej15 hj15 ?_
        refine rx_iincM d_M_carry_163 (by decide) rfl ?_
        refine rx_goto (tgt := 90) d_M_carry_166 (by decide) ?_
        exact ih _ _ _ _ _ _ h
theorem E_M_carry_172 {G : bm_G} {f : Nat} {l1 : Int32} {l2 : Int32} {k245 : rx_S → Option (Int32 × rx_S)} {r : Int32} {sz : rx_S} {Q : bm_R → rx_S → Prop} (hq : Q (.inl none) sz) (hk245 : ∀ (d2 : Option Value) (d3 : Option Value) (d4 : Option Value) (d5 : Option Value) (d6 : Option Value) (d7 : Option Value) (s : rx_S), k245 s = some (r, sz) → rx G me_M_carry 245 [some (.ref rx_o), some (.int (l1)), d2, d3, d4, d5, d6, d7] [] s Q) : ∀ (n : Nat) (l6 : Int32) (d3 : Option Value) (d4 : Option Value) (d5 : Option Value) (d7 : Option Value) (s : rx_S), D_M_carry_172 f l1 l2 k245 n l6 s = some (r, sz) → rx G me_M_carry 172 [some (.ref rx_o), some (.int (l1)), some (.int (l2)), d3, d4, d5, some (.int (l6)), d7] [] s Q := by
  intro n
  induction n with
  | zero =>
    intro l6 d3 d4 d5 d7 s h
    rw [D_M_carry_172] at h
    exact absurd h (by simp)
  | succ n ih =>
    intro l6 d3 d4 d5 d7 s h
    rw [D_M_carry_172] at h
    refine rx_iload d_M_carry_172 rfl ?_
    refine rx_aload_n d_M_carry_174 rfl ?_
    refine rx_gaf g_M_carry_175 (by decide) ?_
    refine rx_iload_n d_M_carry_178 rfl ?_
    obtain ⟨j17, hj17, ej17, h⟩ := og_inv (by decide) h
    refine rx_iald d_M_carry_179 rfl ej17 hj17 ?_
    refine rx_icmp_ge (tgt := 245) d_M_carry_180 (by decide) (fun hc180 => ?_) (fun hc180 => ?_)
    · rw [if_pos hc180] at h
      exact hk245 _ _ _ _ _ _ _ h
    · rw [if_neg hc180] at h
      refine rx_aload_n d_M_carry_183 rfl ?_
      refine rx_gaf g_M_carry_184 (by decide) ?_
      refine rx_iload d_M_carry_187 rfl ?_
      obtain ⟨j18, hj18, ej18, h⟩ := og_inv (by decide) h
      refine rx_iald d_M_carry_189 rfl ej18 hj18 ?_
      refine oj_step (P := fun J19 : rx_S → Option (Int32 × rx_S) => ∀ (s20 : rx_S) (d3 : Option Value) (d4 : Option Value) (d5 : Option Value) (d7 : Option Value), J19 s20 = some (r, sz) → rx G me_M_carry 239 [some (.ref rx_o), some (.int (l1)), some (.int (l2)), d3, d4, d5, some (.int (l6)), d7] [] s20 Q) h ?_ ?_
      · intro s20 d3 d4 d5 d7 h
        refine rx_iincP d_M_carry_239 (by decide) rfl ?_
        refine rx_goto (tgt := 172) d_M_carry_242 (by decide) ?_
        exact ih _ _ _ _ _ _ h
      clear h
      intro J19 hJ2 h
      refine rx_if_le (tgt := 239) d_M_carry_190 (by decide) (fun hc190 => ?_) (fun hc190 => ?_)
      · rw [if_pos hc190] at h
        exact hJ2 _ _ _ _ _ h
      · rw [if_neg hc190] at h
        refine rx_aload_n d_M_carry_193 rfl ?_
        refine rx_iload_n d_M_carry_194 rfl ?_
        refine rx_aload_n d_M_carry_195 rfl ?_
        refine rx_gaf g_M_carry_196 (by decide) ?_
        refine rx_bipush (v := nI 100) d_M_carry_199 (by decide) ?_
        refine rx_iload_n d_M_carry_201 rfl ?_
        refine rx_imul d_M_carry_202 ?_
        refine rx_iload d_M_carry_203 rfl ?_
        refine rx_iadd d_M_carry_205 ?_
        obtain ⟨j21, hj21, ej21, h⟩ := og_inv (by decide) h
        refine rx_iald d_M_carry_206 rfl ej21 hj21 ?_
        refine rx_aload_n d_M_carry_207 rfl ?_
        refine rx_gaf g_M_carry_208 (by decide) ?_
        refine rx_iload d_M_carry_211 rfl ?_
        refine rx_iald d_M_carry_213 rfl ej18 hj18 ?_
        obtain ⟨x22, s23, ex22, h⟩ := ob_inv h
        refine rx_callV3v c_M_carry_214 (Nat.le_of_ble_eq_true rfl) (E_M_add ex22 ?_)
        refine rx_aload_n d_M_carry_217 rfl ?_
        refine rx_gaf g_M_carry_218 (by decide) ?_
        refine rx_bipush (v := nI 100) d_M_carry_221 (by decide) ?_
        refine rx_iload_n d_M_carry_223 rfl ?_
        refine rx_imul d_M_carry_224 ?_
        refine rx_iload d_M_carry_225 rfl ?_
        refine rx_iadd d_M_carry_227 ?_
        refine rx_dup2 d_M_carry_228 rfl rfl ?_
        refine rx_iald d_M_carry_229 rfl ej21 hj21 ?_
        refine rx_aload_n d_M_carry_230 rfl ?_
        refine rx_gaf g_M_carry_231 (by decide) ?_
        refine rx_iload d_M_carry_234 rfl ?_
        refine rx_iald d_M_carry_236 rfl ej18 hj18 ?_
        refine rx_isub d_M_carry_237 ?_
        refine rx_iast d_M_carry_238 rfl ej21 hj21 ?_
        exact hJ2 _ _ _ _ _ h
theorem E_M_carry {G : bm_G} {f : Nat} {l1 : Int32} {l2 : Int32} {l3 : Int32} {s sz : rx_S} {r : Int32} {Q : rx_S → Prop} (h : D_M_carry f l1 l2 l3 s = some (r, sz)) (hq : Q sz) : rx_Tv G me_M_carry [.ref rx_o, .int (l1), .int (l2), .int (l3)] s Q := by
  refine rx_metv (by decide) rfl (Nat.le_of_ble_eq_true rfl) ?_
  generalize hQ : (fun (v : bm_R) (s2 : rx_S) => v = .inl none ∧ Q s2) = Q2
  replace hq : Q2 (.inl none) sz := by rw [← hQ]; exact ⟨rfl, hq⟩
  clear hQ
  unfold D_M_carry at h
  refine rx_aload_n d_M_carry_0 rfl ?_
  refine rx_iload_n d_M_carry_1 rfl ?_
  obtain ⟨x1, s2, ex1, h⟩ := ob_inv h
  refine rx_callV1 c_M_carry_2 (Nat.le_of_ble_eq_true rfl) (E_M_total ex1 ?_)
  refine rx_istore d_M_carry_5 (by decide) ?_
  refine rx_iload_n d_M_carry_7 rfl ?_
  refine rx_istore d_M_carry_8 (by decide) ?_
  refine rx_iconst (v := nI 0) d_M_carry_10 (by decide) ?_
  refine rx_istore d_M_carry_11 (by decide) ?_
  refine E_M_carry_13 (r := r) (sz := sz) hq ?_ _ _ _ _ _ h
  · intro v6 d3 d4 d6 d7 s7 h
    refine E_M_carry_90 (r := r) (sz := sz) hq ?_ _ _ _ _ _ _ _ h
    · intro d3 d4 d5 d6 d7 s16 h
      refine rx_iconst (v := nI 0) d_M_carry_169 (by decide) ?_
      refine rx_istore d_M_carry_170 (by decide) ?_
      refine E_M_carry_172 (r := r) (sz := sz) hq ?_ _ _ _ _ _ _ _ h
      · intro d2 d3 d4 d5 d6 d7 s24 h
        refine rx_aload_n d_M_carry_245 rfl ?_
        refine rx_iload_n d_M_carry_246 rfl ?_
        obtain ⟨x25, s26, ex25, h⟩ := ob_inv h
        refine rx_callV1v c_M_carry_247 (Nat.le_of_ble_eq_true rfl) (E_M_tidy ex25 ?_)
        exact rx_vret d_M_carry_250 rfl (ox_v hq h)
theorem E_M_leaveLine_4 {G : bm_G} {f : Nat} {l1 : Int32} {k43 : Int32 → rx_S → Option (Int32 × rx_S)} {r : Int32} {sz : rx_S} {Q : bm_R → rx_S → Prop} (hq : Q (.inl none) sz) (hk43 : ∀ (q2 : Int32) (d1 : Option Value) (d3 : Option Value) (s : rx_S), k43 q2 s = some (r, sz) → rx G me_M_leaveLine 43 [some (.ref rx_o), d1, some (.int (q2)), d3] [] s Q) : ∀ (n : Nat) (l2 : Int32) (l3 : Int32) (s : rx_S), D_M_leaveLine_4 f l1 k43 n l2 l3 s = some (r, sz) → rx G me_M_leaveLine 4 [some (.ref rx_o), some (.int (l1)), some (.int (l2)), some (.int (l3))] [] s Q := by
  intro n
  induction n with
  | zero =>
    intro l2 l3 s h
    rw [D_M_leaveLine_4] at h
    exact absurd h (by simp)
  | succ n ih =>
    intro l2 l3 s h
    rw [D_M_leaveLine_4] at h
    refine rx_iload_n d_M_leaveLine_4 rfl ?_
    refine rx_aload_n d_M_leaveLine_5 rfl ?_
    refine rx_gsf g_M_leaveLine_6 (by decide) rfl ?_
    refine rx_icmp_ge (tgt := 43) d_M_leaveLine_9 (by decide) (fun hc9 => ?_) (fun hc9 => ?_)
    · rw [if_pos hc9] at h
      exact hk43 _ _ _ _ h
    · rw [if_neg hc9] at h
      refine rx_aload_n d_M_leaveLine_12 rfl ?_
      refine rx_gaf g_M_leaveLine_13 (by decide) ?_
      refine rx_iload_n d_M_leaveLine_16 rfl ?_
      obtain ⟨j1, hj1, ej1, h⟩ := og_inv (by decide) h
      refine rx_iald d_M_leaveLine_17 rfl ej1 hj1 ?_
      refine rx_iload_n d_M_leaveLine_18 rfl ?_
      refine oj_step (P := fun J2 : Int32 → rx_S → Option (Int32 × rx_S) => ∀ (v3 : Int32) (s4 : rx_S), J2 v3 s4 = some (r, sz) → rx G me_M_leaveLine 37 [some (.ref rx_o), some (.int (l1)), some (.int (v3)), some (.int (l3))] [] s4 Q) h ?_ ?_
      · intro v3 s4 h
        refine rx_iincP d_M_leaveLine_37 (by decide) rfl ?_
        refine rx_goto (tgt := 4) d_M_leaveLine_40 (by decide) ?_
        exact ih _ _ _ h
      clear h
      intro J2 hJ1 h
      refine rx_icmp_eq (tgt := 37) d_M_leaveLine_19 (by decide) (fun hc19 => ?_) (fun hc19 => ?_)
      · rw [if_pos hc19] at h
        exact hJ1 _ _ h
      · rw [if_neg hc19] at h
        refine rx_aload_n d_M_leaveLine_22 rfl ?_
        refine rx_gaf g_M_leaveLine_23 (by decide) ?_
        refine rx_iload_n d_M_leaveLine_26 rfl ?_
        refine rx_aload_n d_M_leaveLine_27 rfl ?_
        refine rx_gaf g_M_leaveLine_28 (by decide) ?_
        refine rx_iload_n d_M_leaveLine_31 rfl ?_
        refine rx_iald d_M_leaveLine_32 rfl ej1 hj1 ?_
        obtain ⟨j5, hj5, ej5, h⟩ := og_inv (by decide) h
        refine rx_iast d_M_leaveLine_33 rfl ej5 hj5 ?_
        refine rx_iincP d_M_leaveLine_34 (by decide) rfl ?_
        exact hJ1 _ _ h
theorem E_M_leaveLine {G : bm_G} {f : Nat} {l1 : Int32} {s sz : rx_S} {r : Int32} {Q : rx_S → Prop} (h : D_M_leaveLine f l1 s = some (r, sz)) (hq : Q sz) : rx_Tv G me_M_leaveLine [.ref rx_o, .int (l1)] s Q := by
  refine rx_metv (by decide) rfl (Nat.le_of_ble_eq_true rfl) ?_
  generalize hQ : (fun (v : bm_R) (s2 : rx_S) => v = .inl none ∧ Q s2) = Q2
  replace hq : Q2 (.inl none) sz := by rw [← hQ]; exact ⟨rfl, hq⟩
  clear hQ
  unfold D_M_leaveLine at h
  refine rx_iconst (v := nI 0) d_M_leaveLine_0 (by decide) ?_
  refine rx_istore_n d_M_leaveLine_1 (by decide) ?_
  refine rx_iconst (v := nI 0) d_M_leaveLine_2 (by decide) ?_
  refine rx_istore_n d_M_leaveLine_3 (by decide) ?_
  refine E_M_leaveLine_4 (r := r) (sz := sz) hq ?_ _ _ _ _ h
  · intro v6 d1 d3 s7 h
    refine rx_aload_n d_M_leaveLine_43 rfl ?_
    refine rx_iload_n d_M_leaveLine_44 rfl ?_
    refine rx_psf p_M_leaveLine_45 (by decide) rfl rfl rfl ?_
    exact rx_vret d_M_leaveLine_48 rfl (ox_v hq h)
theorem E_M_giveBack_2 {G : bm_G} {f : Nat} {l1 : Int32} {r : Int32} {sz : rx_S} {Q : bm_R → rx_S → Prop} (hq : Q (.inl none) sz) : ∀ (n : Nat) (l2 : Int32) (s : rx_S), D_M_giveBack_2 f l1 n l2 s = some (r, sz) → rx G me_M_giveBack 2 [some (.ref rx_o), some (.int (l1)), some (.int (l2))] [] s Q := by
  intro n
  induction n with
  | zero =>
    intro l2 s h
    rw [D_M_giveBack_2] at h
    exact absurd h (by simp)
  | succ n ih =>
    intro l2 s h
    rw [D_M_giveBack_2] at h
    refine rx_iload_n d_M_giveBack_2 rfl ?_
    refine rx_iconst (v := nI 3) d_M_giveBack_3 (by decide) ?_
    refine rx_icmp_ge (tgt := 54) d_M_giveBack_4 (by decide) (fun hc4 => ?_) (fun hc4 => ?_)
    · rw [if_pos hc4] at h
      exact rx_vret d_M_giveBack_54 rfl (ox_v hq h)
    · rw [if_neg hc4] at h
      refine rx_aload_n d_M_giveBack_7 rfl ?_
      refine rx_gaf g_M_giveBack_8 (by decide) ?_
      refine rx_iconst (v := nI 3) d_M_giveBack_11 (by decide) ?_
      refine rx_iload_n d_M_giveBack_12 rfl ?_
      refine rx_imul d_M_giveBack_13 ?_
      refine rx_iload_n d_M_giveBack_14 rfl ?_
      refine rx_iadd d_M_giveBack_15 ?_
      obtain ⟨j1, hj1, ej1, h⟩ := og_inv (by decide) h
      refine rx_iald d_M_giveBack_16 rfl ej1 hj1 ?_
      refine rx_iconst (v := (-1)) d_M_giveBack_17 (by decide) ?_
      refine oj_step (P := fun J2 : rx_S → Option (Int32 × rx_S) => ∀ (s3 : rx_S), J2 s3 = some (r, sz) → rx G me_M_giveBack 37 [some (.ref rx_o), some (.int (l1)), some (.int (l2))] [] s3 Q) h ?_ ?_
      · intro s3 h
        refine rx_aload_n d_M_giveBack_37 rfl ?_
        refine rx_gaf g_M_giveBack_38 (by decide) ?_
        refine rx_iconst (v := nI 3) d_M_giveBack_41 (by decide) ?_
        refine rx_iload_n d_M_giveBack_42 rfl ?_
        refine rx_imul d_M_giveBack_43 ?_
        refine rx_iload_n d_M_giveBack_44 rfl ?_
        refine rx_iadd d_M_giveBack_45 ?_
        refine rx_iconst (v := (-1)) d_M_giveBack_46 (by decide) ?_
        refine rx_iast d_M_giveBack_47 rfl ej1 hj1 ?_
        refine rx_iincP d_M_giveBack_48 (by decide) rfl ?_
        refine rx_goto (tgt := 2) d_M_giveBack_51 (by decide) ?_
        exact ih _ _ h
      clear h
      intro J2 hJ1 h
      refine rx_icmp_eq (tgt := 37) d_M_giveBack_18 (by decide) (fun hc18 => ?_) (fun hc18 => ?_)
      · rw [if_pos hc18] at h
        exact hJ1 _ h
      · rw [if_neg hc18] at h
        refine rx_aload_n d_M_giveBack_21 rfl ?_
        refine rx_gaf g_M_giveBack_22 (by decide) ?_
        refine rx_aload_n d_M_giveBack_25 rfl ?_
        refine rx_gaf g_M_giveBack_26 (by decide) ?_
        refine rx_iconst (v := nI 3) d_M_giveBack_29 (by decide) ?_
        refine rx_iload_n d_M_giveBack_30 rfl ?_
        refine rx_imul d_M_giveBack_31 ?_
        refine rx_iload_n d_M_giveBack_32 rfl ?_
        refine rx_iadd d_M_giveBack_33 ?_
        refine rx_iald d_M_giveBack_34 rfl ej1 hj1 ?_
        refine rx_iconst (v := (-1)) d_M_giveBack_35 (by decide) ?_
        obtain ⟨j4, hj4, ej4, h⟩ := og_inv (by decide) h
        refine rx_iast d_M_giveBack_36 rfl ej4 hj4 ?_
        exact hJ1 _ h
theorem E_M_giveBack {G : bm_G} {f : Nat} {l1 : Int32} {s sz : rx_S} {r : Int32} {Q : rx_S → Prop} (h : D_M_giveBack f l1 s = some (r, sz)) (hq : Q sz) : rx_Tv G me_M_giveBack [.ref rx_o, .int (l1)] s Q := by
  refine rx_metv (by decide) rfl (Nat.le_of_ble_eq_true rfl) ?_
  generalize hQ : (fun (v : bm_R) (s2 : rx_S) => v = .inl none ∧ Q s2) = Q2
  replace hq : Q2 (.inl none) sz := by rw [← hQ]; exact ⟨rfl, hq⟩
  clear hQ
  unfold D_M_giveBack at h
  refine rx_iconst (v := nI 0) d_M_giveBack_0 (by decide) ?_
  refine rx_istore_n d_M_giveBack_1 (by decide) ?_
  refine E_M_giveBack_2 (r := r) (sz := sz) hq _ _ _ h
theorem E_M_close {G : bm_G} {f : Nat} {l1 : Int32} {l2 : Int32} {s sz : rx_S} {r : Int32} {Q : rx_S → Prop} (h : D_M_close f l1 l2 s = some (r, sz)) (hq : Q sz) : rx_Tv G me_M_close [.ref rx_o, .int (l1), .int (l2)] s Q := by
  refine rx_metv (by decide) rfl (Nat.le_of_ble_eq_true rfl) ?_
  generalize hQ : (fun (v : bm_R) (s2 : rx_S) => v = .inl none ∧ Q s2) = Q2
  replace hq : Q2 (.inl none) sz := by rw [← hQ]; exact ⟨rfl, hq⟩
  clear hQ
  unfold D_M_close at h
  refine rx_aload_n d_M_close_0 rfl ?_
  refine rx_iload_n d_M_close_1 rfl ?_
  obtain ⟨x1, s2, ex1, h⟩ := ob_inv h
  refine rx_callV1v c_M_close_2 (Nat.le_of_ble_eq_true rfl) (E_M_leaveLine ex1 ?_)
  refine rx_aload_n d_M_close_5 rfl ?_
  refine rx_gaf g_M_close_6 (by decide) ?_
  refine rx_iload_n d_M_close_9 rfl ?_
  refine rx_iload_n d_M_close_10 rfl ?_
  obtain ⟨j3, hj3, ej3, h⟩ := og_inv (by decide) h
  refine rx_iast d_M_close_11 rfl ej3 hj3 ?_
  refine rx_aload_n d_M_close_12 rfl ?_
  refine rx_gaf g_M_close_13 (by decide) ?_
  refine rx_iload_n d_M_close_16 rfl ?_
  refine rx_iconst (v := nI 0) d_M_close_17 (by decide) ?_
  refine rx_iast d_M_close_18 rfl ej3 hj3 ?_
  refine rx_aload_n d_M_close_19 rfl ?_
  refine rx_iload_n d_M_close_20 rfl ?_
  obtain ⟨x4, s5, ex4, h⟩ := ob_inv h
  refine rx_callV1v c_M_close_21 (Nat.le_of_ble_eq_true rfl) (E_M_giveBack ex4 ?_)
  refine rx_aload_n d_M_close_24 rfl ?_
  refine rx_iconst (v := nI 1) d_M_close_25 (by decide) ?_
  refine rx_psf p_M_close_26 (by decide) rfl rfl rfl ?_
  exact rx_vret d_M_close_29 rfl (ox_v hq h)
theorem E_M_newLot {G : bm_G} {f : Nat} {l1 : Int32} {l2 : Int32} {s sz : rx_S} {r : Int32} {Q : Int32 → rx_S → Prop} (h : D_M_newLot f l1 l2 s = some (r, sz)) (hq : Q r sz) : rx_Ti G me_M_newLot [.ref rx_o, .int (l1), .int (l2)] s Q := by
  refine rx_meti (by decide) rfl (Nat.le_of_ble_eq_true rfl) ?_
  generalize hQ : (fun (v : bm_R) (s2 : rx_S) => ∃ x, v = .inl (some (.int x)) ∧ Q x s2) = Q2
  replace hq : Q2 (.inl (some (.int (r)))) sz := by rw [← hQ]; exact ⟨_, rfl, hq⟩
  clear hQ
  unfold D_M_newLot at h
  refine rx_aload_n d_M_newLot_0 rfl ?_
  refine rx_gsf g_M_newLot_1 (by decide) rfl ?_
  refine rx_bipush (v := nI 100) d_M_newLot_4 (by decide) ?_
  refine rx_icmp_ne (tgt := 18) d_M_newLot_6 (by decide) (fun hc6 => ?_) (fun hc6 => ?_)
  · rw [if_neg hc6] at h
    refine rx_aload_n d_M_newLot_18 rfl ?_
    refine rx_gaf g_M_newLot_19 (by decide) ?_
    refine rx_aload_n d_M_newLot_22 rfl ?_
    refine rx_gsf g_M_newLot_23 (by decide) rfl ?_
    refine rx_iload_n d_M_newLot_26 rfl ?_
    obtain ⟨j3, hj3, ej3, h⟩ := og_inv (by decide) h
    refine rx_iast d_M_newLot_27 rfl ej3 hj3 ?_
    refine rx_aload_n d_M_newLot_28 rfl ?_
    refine rx_gaf g_M_newLot_29 (by decide) ?_
    refine rx_aload_n d_M_newLot_32 rfl ?_
    refine rx_gsf g_M_newLot_33 (by decide) rfl ?_
    refine rx_iload_n d_M_newLot_36 rfl ?_
    obtain ⟨j4, hj4, ej4, h⟩ := og_inv (by decide) h
    refine rx_iast d_M_newLot_37 rfl ej4 hj4 ?_
    refine rx_aload_n d_M_newLot_38 rfl ?_
    refine rx_dup d_M_newLot_39 rfl ?_
    refine rx_gsf g_M_newLot_40 (by decide) rfl ?_
    refine rx_iconst (v := nI 1) d_M_newLot_43 (by decide) ?_
    refine rx_iadd d_M_newLot_44 ?_
    refine rx_psf p_M_newLot_45 (by decide) rfl rfl rfl ?_
    refine rx_aload_n d_M_newLot_48 rfl ?_
    refine rx_gaf g_M_newLot_49 (by decide) ?_
    refine rx_aload_n d_M_newLot_52 rfl ?_
    refine rx_gsf g_M_newLot_53 (by decide) rfl ?_
    refine rx_aload_n d_M_newLot_56 rfl ?_
    refine rx_gsf g_M_newLot_57 (by decide) rfl ?_
    obtain ⟨j5, hj5, ej5, h⟩ := og_inv (by decide) h
    refine rx_iast d_M_newLot_60 rfl ej5 hj5 ?_
    refine rx_aload_n d_M_newLot_61 rfl ?_
    refine rx_gsf g_M_newLot_62 (by decide) rfl ?_
    refine rx_iconst (v := nI 1) d_M_newLot_65 (by decide) ?_
    refine rx_isub d_M_newLot_66 ?_
    exact rx_iret d_M_newLot_67 rfl (ox_i hq h)
  · rw [if_pos hc6] at h
    refine rx_aload_n d_M_newLot_9 rfl ?_
    refine rx_iload_n d_M_newLot_10 rfl ?_
    refine rx_bipush (v := nI 6) d_M_newLot_11 (by decide) ?_
    obtain ⟨x1, s2, ex1, h⟩ := ob_inv h
    refine rx_callV2v c_M_newLot_13 (Nat.le_of_ble_eq_true rfl) (E_M_close ex1 ?_)
    refine rx_iconst (v := (-1)) d_M_newLot_16 (by decide) ?_
    exact rx_iret d_M_newLot_17 rfl (ox_i hq h)
theorem E_M_react_34 {G : bm_G} {f : Nat} {l2 : Int32} {l4 : Int32} {l5 : Int32} {k103 : rx_S → Option (Int32 × rx_S)} {r : Int32} {sz : rx_S} {Q : bm_R → rx_S → Prop} (hq : Q (.inl none) sz) (hk103 : ∀ (d1 : Option Value) (d3 : Option Value) (d6 : Option Value) (s : rx_S), k103 s = some (r, sz) → rx G me_M_react 103 [some (.ref rx_o), d1, some (.int (l2)), d3, some (.int (l4)), some (.int (l5)), d6] [] s Q) : ∀ (n : Nat) (l6 : Int32) (d1 : Option Value) (d3 : Option Value) (s : rx_S), D_M_react_34 f l2 l4 l5 k103 n l6 s = some (r, sz) → rx G me_M_react 34 [some (.ref rx_o), d1, some (.int (l2)), d3, some (.int (l4)), some (.int (l5)), some (.int (l6))] [] s Q := by
  intro n
  induction n with
  | zero =>
    intro l6 d1 d3 s h
    rw [D_M_react_34] at h
    exact absurd h (by simp)
  | succ n ih =>
    intro l6 d1 d3 s h
    rw [D_M_react_34] at h
    refine rx_iload d_M_react_34 rfl ?_
    refine rx_aload_n d_M_react_36 rfl ?_
    refine rx_gaf g_M_react_37 (by decide) ?_
    refine rx_iload_n d_M_react_40 rfl ?_
    obtain ⟨j6, hj6, ej6, h⟩ := og_inv (by decide) h
    refine rx_iald d_M_react_41 rfl ej6 hj6 ?_
    refine rx_icmp_ge (tgt := 103) d_M_react_42 (by decide) (fun hc42 => ?_) (fun hc42 => ?_)
    · rw [if_pos hc42] at h
      exact hk103 _ _ _ _ h
    · rw [if_neg hc42] at h
      refine rx_aload_n d_M_react_45 rfl ?_
      refine rx_gaf g_M_react_46 (by decide) ?_
      refine rx_aload_n d_M_react_49 rfl ?_
      refine rx_gsf g_M_react_50 (by decide) rfl ?_
      refine rx_aload_n d_M_react_53 rfl ?_
      refine rx_gaf g_M_react_54 (by decide) ?_
      refine rx_bipush (v := nI 100) d_M_react_57 (by decide) ?_
      refine rx_iload_n d_M_react_59 rfl ?_
      refine rx_imul d_M_react_60 ?_
      refine rx_iload d_M_react_61 rfl ?_
      refine rx_iadd d_M_react_63 ?_
      obtain ⟨j7, hj7, ej7, h⟩ := og_inv (by decide) h
      refine rx_iald d_M_react_64 rfl ej7 hj7 ?_
      obtain ⟨j8, hj8, ej8, h⟩ := og_inv (by decide) h
      refine rx_iast d_M_react_65 rfl ej8 hj8 ?_
      refine rx_aload_n d_M_react_66 rfl ?_
      refine rx_gaf g_M_react_67 (by decide) ?_
      refine rx_aload_n d_M_react_70 rfl ?_
      refine rx_gsf g_M_react_71 (by decide) rfl ?_
      refine rx_aload_n d_M_react_74 rfl ?_
      refine rx_gaf g_M_react_75 (by decide) ?_
      refine rx_bipush (v := nI 100) d_M_react_78 (by decide) ?_
      refine rx_iload_n d_M_react_80 rfl ?_
      refine rx_imul d_M_react_81 ?_
      refine rx_iload d_M_react_82 rfl ?_
      refine rx_iadd d_M_react_84 ?_
      refine rx_iald d_M_react_85 rfl ej7 hj7 ?_
      obtain ⟨j9, hj9, ej9, h⟩ := og_inv (by decide) h
      refine rx_iast d_M_react_86 rfl ej9 hj9 ?_
      refine rx_aload_n d_M_react_87 rfl ?_
      refine rx_dup d_M_react_88 rfl ?_
      refine rx_gsf g_M_react_89 (by decide) rfl ?_
      refine rx_iconst (v := nI 1) d_M_react_92 (by decide) ?_
      refine rx_iadd d_M_react_93 ?_
      refine rx_psf p_M_react_94 (by decide) rfl rfl rfl ?_
      refine rx_iincP d_M_react_97 (by decide) rfl ?_
      refine rx_goto (tgt := 34) d_M_react_100 (by decide) ?_
      exact ih _ _ _ _ h
theorem E_M_react {G : bm_G} {f : Nat} {l1 : Int32} {l2 : Int32} {l3 : Int32} {s sz : rx_S} {r : Int32} {Q : rx_S → Prop} (h : D_M_react f l1 l2 l3 s = some (r, sz)) (hq : Q sz) : rx_Tv G me_M_react [.ref rx_o, .int (l1), .int (l2), .int (l3)] s Q := by
  refine rx_metv (by decide) rfl (Nat.le_of_ble_eq_true rfl) ?_
  generalize hQ : (fun (v : bm_R) (s2 : rx_S) => v = .inl none ∧ Q s2) = Q2
  replace hq : Q2 (.inl none) sz := by rw [← hQ]; exact ⟨rfl, hq⟩
  clear hQ
  unfold D_M_react at h
  refine rx_aload_n d_M_react_0 rfl ?_
  refine rx_iload_n d_M_react_1 rfl ?_
  obtain ⟨x1, s2, ex1, h⟩ := ob_inv h
  refine rx_callV1 c_M_react_2 (Nat.le_of_ble_eq_true rfl) (E_M_total ex1 ?_)
  refine rx_istore d_M_react_5 (by decide) ?_
  refine rx_iload d_M_react_7 rfl ?_
  refine oj_step (P := fun J3 : Int32 → rx_S → Option (Int32 × rx_S) => ∀ (x4 : Int32) (s5 : rx_S) (d1 : Option Value) (d3 : Option Value) (d5 : Option Value) (d6 : Option Value), J3 x4 s5 = some (r, sz) → rx G me_M_react 22 [some (.ref rx_o), d1, some (.int (l2)), d3, some (.int (x1)), d5, d6] [.int (x4)] s5 Q2) h ?_ ?_
  · intro x4 s5 d1 d3 d5 d6 h
    refine rx_istore d_M_react_22 (by decide) ?_
    refine rx_iload d_M_react_24 rfl ?_
    refine rx_iconst (v := (-1)) d_M_react_26 (by decide) ?_
    refine rx_icmp_ne (tgt := 31) d_M_react_27 (by decide) (fun hc27 => ?_) (fun hc27 => ?_)
    · rw [if_neg hc27] at h
      refine rx_iconst (v := nI 0) d_M_react_31 (by decide) ?_
      refine rx_istore d_M_react_32 (by decide) ?_
      refine E_M_react_34 (r := r) (sz := sz) hq ?_ _ _ _ _ _ h
      · intro d1 d3 d6 s10 h
        refine rx_aload_n d_M_react_103 rfl ?_
        refine rx_gaf g_M_react_104 (by decide) ?_
        refine rx_aload_n d_M_react_107 rfl ?_
        refine rx_gsf g_M_react_108 (by decide) rfl ?_
        refine rx_aload_n d_M_react_111 rfl ?_
        refine rx_gsf g_M_react_112 (by decide) rfl ?_
        obtain ⟨j11, hj11, ej11, h⟩ := og_inv (by decide) h
        refine rx_iast d_M_react_115 rfl ej11 hj11 ?_
        refine rx_aload_n d_M_react_116 rfl ?_
        refine rx_gaf g_M_react_117 (by decide) ?_
        refine rx_iload_n d_M_react_120 rfl ?_
        refine rx_iconst (v := nI 1) d_M_react_121 (by decide) ?_
        obtain ⟨j12, hj12, ej12, h⟩ := og_inv (by decide) h
        refine rx_iast d_M_react_122 rfl ej12 hj12 ?_
        refine rx_aload_n d_M_react_123 rfl ?_
        refine rx_gaf g_M_react_124 (by decide) ?_
        refine rx_bipush (v := nI 100) d_M_react_127 (by decide) ?_
        refine rx_iload_n d_M_react_129 rfl ?_
        refine rx_imul d_M_react_130 ?_
        refine rx_iload d_M_react_131 rfl ?_
        obtain ⟨j13, hj13, ej13, h⟩ := og_inv (by decide) h
        refine rx_iast d_M_react_133 rfl ej13 hj13 ?_
        refine rx_aload_n d_M_react_134 rfl ?_
        refine rx_gaf g_M_react_135 (by decide) ?_
        refine rx_bipush (v := nI 100) d_M_react_138 (by decide) ?_
        refine rx_iload_n d_M_react_140 rfl ?_
        refine rx_imul d_M_react_141 ?_
        refine rx_iload d_M_react_142 rfl ?_
        refine rx_iast d_M_react_144 rfl ej13 hj13 ?_
        exact rx_vret d_M_react_145 rfl (ox_v hq h)
    · rw [if_pos hc27] at h
      exact rx_vret d_M_react_30 rfl (ox_v hq h)
  clear h
  intro J3 hJ1 h
  refine rx_if_ne (tgt := 16) d_M_react_9 (by decide) (fun hc9 => ?_) (fun hc9 => ?_)
  · rw [if_neg hc9] at h
    refine rx_aload_n d_M_react_16 rfl ?_
    refine rx_iload_n d_M_react_17 rfl ?_
    refine rx_iload_n d_M_react_18 rfl ?_
    obtain ⟨x14, s15, ex14, h⟩ := ob_inv h
    refine rx_callV2 c_M_react_19 (Nat.le_of_ble_eq_true rfl) (E_M_newLot ex14 ?_)
    exact hJ1 _ _ _ _ _ _ h
  · rw [if_pos hc9] at h
    refine rx_iconst (v := (-1)) d_M_react_12 (by decide) ?_
    refine rx_goto (tgt := 22) d_M_react_13 (by decide) ?_
    exact hJ1 _ _ _ _ _ _ h
