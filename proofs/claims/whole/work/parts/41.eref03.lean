theorem E_M_leads {G : bm_G} {f : Nat} {l1 : Int32} {l2 : Int32} {s sz : rx_S} {r : Int32} {Q : Int32 → rx_S → Prop} (h : D_M_leads f l1 l2 s = some (r, sz)) (hq : Q r sz) : rx_Ti G me_M_leads [.ref rx_o, .int (l1), .int (l2)] s Q := by
  refine rx_meti (by decide) rfl (Nat.le_of_ble_eq_true rfl) ?_
  generalize hQ : (fun (v : bm_R) (s2 : rx_S) => ∃ x, v = .inl (some (.int x)) ∧ Q x s2) = Q2
  replace hq : Q2 (.inl (some (.int (r)))) sz := by rw [← hQ]; exact ⟨_, rfl, hq⟩
  clear hQ
  unfold D_M_leads at h
  refine rx_bipush (v := nI 12) d_M_leads_0 (by decide) ?_
  refine rx_iload_n d_M_leads_2 rfl ?_
  refine rx_imul d_M_leads_3 ?_
  refine rx_iload_n d_M_leads_4 rfl ?_
  refine rx_iadd d_M_leads_5 ?_
  refine rx_istore_n d_M_leads_6 (by decide) ?_
  refine rx_aload_n d_M_leads_7 rfl ?_
  refine rx_gaf g_M_leads_8 (by decide) ?_
  refine rx_iload_n d_M_leads_11 rfl ?_
  obtain ⟨j1, hj1, ej1, h⟩ := og_inv (by decide) h
  refine rx_iald d_M_leads_12 rfl ej1 hj1 ?_
  refine rx_istore d_M_leads_13 (by decide) ?_
  refine rx_iload d_M_leads_15 rfl ?_
  refine rx_bipush (v := nI 9) d_M_leads_17 (by decide) ?_
  refine rx_icmp_ne (tgt := 37) d_M_leads_19 (by decide) (fun hc19 => ?_) (fun hc19 => ?_)
  · rw [if_neg hc19] at h
    refine rx_iload d_M_leads_37 rfl ?_
    refine rx_iconst (v := nI 5) d_M_leads_39 (by decide) ?_
    refine rx_icmp_ne (tgt := 141) d_M_leads_40 (by decide) (fun hc40 => ?_) (fun hc40 => ?_)
    · rw [if_neg hc40] at h
      refine rx_aload_n d_M_leads_141 rfl ?_
      refine rx_iload_n d_M_leads_142 rfl ?_
      refine rx_aload_n d_M_leads_143 rfl ?_
      refine rx_gaf g_M_leads_144 (by decide) ?_
      refine rx_iload_n d_M_leads_147 rfl ?_
      refine rx_iald d_M_leads_148 rfl ej1 hj1 ?_
      refine rx_aload_n d_M_leads_149 rfl ?_
      refine rx_gaf g_M_leads_150 (by decide) ?_
      refine rx_iload_n d_M_leads_153 rfl ?_
      obtain ⟨j19, hj19, ej19, h⟩ := og_inv (by decide) h
      refine rx_iald d_M_leads_154 rfl ej19 hj19 ?_
      obtain ⟨x20, s21, ex20, h⟩ := ob_inv h
      refine rx_callV3 c_M_leads_155 (Nat.le_of_ble_eq_true rfl) (E_M_enters ex20 ?_)
      refine rx_istore d_M_leads_158 (by decide) ?_
      refine rx_iload d_M_leads_160 rfl ?_
      refine oj_step (P := fun J22 : Int32 → rx_S → Option (Int32 × rx_S) => ∀ (x23 : Int32) (s24 : rx_S) (d0 : Option Value) (d1 : Option Value) (d2 : Option Value) (d3 : Option Value) (d4 : Option Value) (d5 : Option Value), J22 x23 s24 = some (r, sz) → rx G me_M_leads 199 [d0, d1, d2, d3, d4, d5] [.int (x23)] s24 Q2) h ?_ ?_
      · intro x23 s24 d0 d1 d2 d3 d4 d5 h
        obtain ⟨hz, h⟩ := ozb_inv h
        exact rx_zret d_M_leads_199 rfl (ozb_nar hz) (ox_i hq h)
      clear h
      intro J22 hJ6 h
      refine oj_step (P := fun J25 : rx_S → Option (Int32 × rx_S) => ∀ (s26 : rx_S) (d0 : Option Value) (d1 : Option Value) (d2 : Option Value) (d3 : Option Value) (d4 : Option Value) (d5 : Option Value), J25 s26 = some (r, sz) → rx G me_M_leads 198 [d0, d1, d2, d3, d4, d5] [] s26 Q2) h ?_ ?_
      · intro s26 d0 d1 d2 d3 d4 d5 h
        refine rx_iconst (v := nI 0) d_M_leads_198 (by decide) ?_
        exact hJ6 _ _ _ _ _ _ _ _ h
      clear h
      intro J25 hJ7 h
      refine rx_if_eq (tgt := 198) d_M_leads_162 (by decide) (fun hc162 => ?_) (fun hc162 => ?_)
      · rw [if_pos hc162] at h
        exact hJ7 _ _ _ _ _ _ _ h
      · rw [if_neg hc162] at h
        refine rx_aload_n d_M_leads_165 rfl ?_
        refine rx_iload d_M_leads_166 rfl ?_
        obtain ⟨x27, s28, ex27, h⟩ := ob_inv h
        refine rx_callV1 c_M_leads_168 (Nat.le_of_ble_eq_true rfl) (E_M_hasOther ex27 ?_)
        refine oj_step (P := fun J29 : rx_S → Option (Int32 × rx_S) => ∀ (s30 : rx_S) (d0 : Option Value) (d1 : Option Value) (d2 : Option Value) (d3 : Option Value) (d4 : Option Value) (d5 : Option Value), J29 s30 = some (r, sz) → rx G me_M_leads 194 [d0, d1, d2, d3, d4, d5] [] s30 Q2) h ?_ ?_
        · intro s30 d0 d1 d2 d3 d4 d5 h
          refine rx_iconst (v := nI 1) d_M_leads_194 (by decide) ?_
          refine rx_goto (tgt := 199) d_M_leads_195 (by decide) ?_
          exact hJ6 _ _ _ _ _ _ _ _ h
        clear h
        intro J29 hJ8 h
        refine rx_if_eq (tgt := 194) d_M_leads_171 (by decide) (fun hc171 => ?_) (fun hc171 => ?_)
        · rw [if_pos hc171] at h
          exact hJ8 _ _ _ _ _ _ _ h
        · rw [if_neg hc171] at h
          refine rx_aload_n d_M_leads_174 rfl ?_
          refine rx_iload_n d_M_leads_175 rfl ?_
          refine rx_aload_n d_M_leads_176 rfl ?_
          refine rx_gaf g_M_leads_177 (by decide) ?_
          refine rx_iload_n d_M_leads_180 rfl ?_
          refine rx_iald d_M_leads_181 rfl ej1 hj1 ?_
          refine rx_aload_n d_M_leads_182 rfl ?_
          refine rx_gaf g_M_leads_183 (by decide) ?_
          refine rx_iload_n d_M_leads_186 rfl ?_
          refine rx_iald d_M_leads_187 rfl ej19 hj19 ?_
          obtain ⟨x31, s32, ex31, h⟩ := ob_inv h
          refine rx_callV3 c_M_leads_188 (Nat.le_of_ble_eq_true rfl) (E_M_enters ex31 ?_)
          refine rx_if_eq (tgt := 198) d_M_leads_191 (by decide) (fun hc191 => ?_) (fun hc191 => ?_)
          · rw [if_pos hc191] at h
            exact hJ7 _ _ _ _ _ _ _ h
          · rw [if_neg hc191] at h
            exact hJ8 _ _ _ _ _ _ _ h
    · rw [if_pos hc40] at h
      refine rx_aload_n d_M_leads_43 rfl ?_
      refine rx_gaf g_M_leads_44 (by decide) ?_
      refine rx_bipush (v := nI 12) d_M_leads_47 (by decide) ?_
      refine rx_iload_n d_M_leads_49 rfl ?_
      refine rx_imul d_M_leads_50 ?_
      refine rx_aload_n d_M_leads_51 rfl ?_
      refine rx_gaf g_M_leads_52 (by decide) ?_
      refine rx_iload_n d_M_leads_55 rfl ?_
      refine rx_iald d_M_leads_56 rfl ej1 hj1 ?_
      refine rx_iadd d_M_leads_57 ?_
      obtain ⟨j5, hj5, ej5, h⟩ := og_inv (by decide) h
      refine rx_iald d_M_leads_58 rfl ej5 hj5 ?_
      refine rx_bipush (v := nI 6) d_M_leads_59 (by decide) ?_
      refine oj_step (P := fun J6 : Int32 → Option (Int32 × rx_S) => ∀ (x7 : Int32) (d4 : Option Value) (d5 : Option Value), J6 x7 = some (r, sz) → rx G me_M_leads 90 [some (.ref rx_o), some (.int (l1)), some (.int (l2)), some (.int (((nI 12) * l1) + l2)), d4, d5] [.int (x7)] s Q2) h ?_ ?_
      · intro x7 d4 d5 h
        refine rx_istore d_M_leads_90 (by decide) ?_
        refine rx_iload d_M_leads_92 rfl ?_
        refine oj_step (P := fun J8 : Int32 → rx_S → Option (Int32 × rx_S) => ∀ (x9 : Int32) (s10 : rx_S) (d0 : Option Value) (d1 : Option Value) (d2 : Option Value) (d3 : Option Value) (d4 : Option Value) (d5 : Option Value), J8 x9 s10 = some (r, sz) → rx G me_M_leads 140 [d0, d1, d2, d3, d4, d5] [.int (x9)] s10 Q2) h ?_ ?_
        · intro x9 s10 d0 d1 d2 d3 d4 d5 h
          obtain ⟨hz, h⟩ := ozb_inv h
          exact rx_zret d_M_leads_140 rfl (ozb_nar hz) (ox_i hq h)
        clear h
        intro J8 hJ2 h
        refine oj_step (P := fun J11 : rx_S → Option (Int32 × rx_S) => ∀ (s12 : rx_S) (d0 : Option Value) (d1 : Option Value) (d2 : Option Value) (d3 : Option Value) (d4 : Option Value) (d5 : Option Value), J11 s12 = some (r, sz) → rx G me_M_leads 139 [d0, d1, d2, d3, d4, d5] [] s12 Q2) h ?_ ?_
        · intro s12 d0 d1 d2 d3 d4 d5 h
          refine rx_iconst (v := nI 0) d_M_leads_139 (by decide) ?_
          exact hJ2 _ _ _ _ _ _ _ _ h
        clear h
        intro J11 hJ3 h
        refine rx_if_eq (tgt := 139) d_M_leads_94 (by decide) (fun hc94 => ?_) (fun hc94 => ?_)
        · rw [if_pos hc94] at h
          exact hJ3 _ _ _ _ _ _ _ h
        · rw [if_neg hc94] at h
          refine rx_aload_n d_M_leads_97 rfl ?_
          refine rx_iload_n d_M_leads_98 rfl ?_
          refine rx_aload_n d_M_leads_99 rfl ?_
          refine rx_gaf g_M_leads_100 (by decide) ?_
          refine rx_iload_n d_M_leads_103 rfl ?_
          refine rx_iald d_M_leads_104 rfl ej1 hj1 ?_
          refine rx_iconst (v := nI 1) d_M_leads_105 (by decide) ?_
          refine rx_iconst (v := nI 2) d_M_leads_106 (by decide) ?_
          refine rx_iload_n d_M_leads_107 rfl ?_
          refine rx_imul d_M_leads_108 ?_
          refine rx_iadd d_M_leads_109 ?_
          obtain ⟨x13, s14, ex13, h⟩ := ob_inv h
          refine rx_callV3 c_M_leads_110 (Nat.le_of_ble_eq_true rfl) (E_M_enters ex13 ?_)
          refine rx_if_eq (tgt := 139) d_M_leads_113 (by decide) (fun hc113 => ?_) (fun hc113 => ?_)
          · rw [if_pos hc113] at h
            exact hJ3 _ _ _ _ _ _ _ h
          · rw [if_neg hc113] at h
            refine rx_aload_n d_M_leads_116 rfl ?_
            refine rx_iload_n d_M_leads_117 rfl ?_
            refine rx_aload_n d_M_leads_118 rfl ?_
            refine rx_gaf g_M_leads_119 (by decide) ?_
            refine rx_iload_n d_M_leads_122 rfl ?_
            refine rx_iald d_M_leads_123 rfl ej1 hj1 ?_
            refine rx_iconst (v := nI 2) d_M_leads_124 (by decide) ?_
            refine rx_iconst (v := nI 2) d_M_leads_125 (by decide) ?_
            refine rx_iload_n d_M_leads_126 rfl ?_
            refine rx_imul d_M_leads_127 ?_
            refine rx_iadd d_M_leads_128 ?_
            obtain ⟨x15, s16, ex15, h⟩ := ob_inv h
            refine rx_callV3 c_M_leads_129 (Nat.le_of_ble_eq_true rfl) (E_M_enters ex15 ?_)
            refine rx_if_eq (tgt := 139) d_M_leads_132 (by decide) (fun hc132 => ?_) (fun hc132 => ?_)
            · rw [if_pos hc132] at h
              exact hJ3 _ _ _ _ _ _ _ h
            · rw [if_neg hc132] at h
              refine rx_iconst (v := nI 1) d_M_leads_135 (by decide) ?_
              refine rx_goto (tgt := 140) d_M_leads_136 (by decide) ?_
              exact hJ2 _ _ _ _ _ _ _ _ h
      clear h
      intro J6 hJ4 h
      refine oj_step (P := fun J17 : Unit → Option (Int32 × rx_S) => ∀ (_u : Unit) (d4 : Option Value) (d5 : Option Value), J17 () = some (r, sz) → rx G me_M_leads 89 [some (.ref rx_o), some (.int (l1)), some (.int (l2)), some (.int (((nI 12) * l1) + l2)), d4, d5] [] s Q2) h ?_ ?_
      · intro _u d4 d5 h
        refine rx_iconst (v := nI 0) d_M_leads_89 (by decide) ?_
        exact hJ4 _ _ _ h
      clear h
      intro J17 hJ5 h
      refine rx_icmp_eq (tgt := 89) d_M_leads_61 (by decide) (fun hc61 => ?_) (fun hc61 => ?_)
      · rw [if_pos hc61] at h
        exact hJ5 () _ _ h
      · rw [if_neg hc61] at h
        refine rx_aload_n d_M_leads_64 rfl ?_
        refine rx_gaf g_M_leads_65 (by decide) ?_
        refine rx_bipush (v := nI 12) d_M_leads_68 (by decide) ?_
        refine rx_iload_n d_M_leads_70 rfl ?_
        refine rx_imul d_M_leads_71 ?_
        refine rx_aload_n d_M_leads_72 rfl ?_
        refine rx_gaf g_M_leads_73 (by decide) ?_
        refine rx_iload_n d_M_leads_76 rfl ?_
        refine rx_iald d_M_leads_77 rfl ej1 hj1 ?_
        refine rx_iadd d_M_leads_78 ?_
        obtain ⟨j18, hj18, ej18, h⟩ := og_inv (by decide) h
        refine rx_iald d_M_leads_79 rfl ej18 hj18 ?_
        refine rx_bipush (v := nI 6) d_M_leads_80 (by decide) ?_
        refine rx_icmp_eq (tgt := 89) d_M_leads_82 (by decide) (fun hc82 => ?_) (fun hc82 => ?_)
        · rw [if_pos hc82] at h
          exact hJ5 () _ _ h
        · rw [if_neg hc82] at h
          refine rx_iconst (v := nI 1) d_M_leads_85 (by decide) ?_
          refine rx_goto (tgt := 90) d_M_leads_86 (by decide) ?_
          exact hJ4 _ _ _ h
  · rw [if_pos hc19] at h
    refine rx_aload_n d_M_leads_22 rfl ?_
    refine rx_gaf g_M_leads_23 (by decide) ?_
    refine rx_iload_n d_M_leads_26 rfl ?_
    obtain ⟨j2, hj2, ej2, h⟩ := og_inv (by decide) h
    refine rx_iald d_M_leads_27 rfl ej2 hj2 ?_
    refine oj_step (P := fun J3 : Int32 → Option (Int32 × rx_S) => ∀ (x4 : Int32) (d0 : Option Value) (d1 : Option Value) (d2 : Option Value) (d3 : Option Value) (d4 : Option Value) (d5 : Option Value), J3 x4 = some (r, sz) → rx G me_M_leads 36 [d0, d1, d2, d3, d4, d5] [.int (x4)] s Q2) h ?_ ?_
    · intro x4 d0 d1 d2 d3 d4 d5 h
      obtain ⟨hz, h⟩ := ozb_inv h
      exact rx_zret d_M_leads_36 rfl (ozb_nar hz) (ox_i hq h)
    clear h
    intro J3 hJ1 h
    refine rx_if_ne (tgt := 35) d_M_leads_28 (by decide) (fun hc28 => ?_) (fun hc28 => ?_)
    · rw [if_neg hc28] at h
      refine rx_iconst (v := nI 0) d_M_leads_35 (by decide) ?_
      exact hJ1 _ _ _ _ _ _ _ h
    · rw [if_pos hc28] at h
      refine rx_iconst (v := nI 1) d_M_leads_31 (by decide) ?_
      refine rx_goto (tgt := 36) d_M_leads_32 (by decide) ?_
      exact hJ1 _ _ _ _ _ _ _ h
theorem E_M_branches_2 {G : bm_G} {f : Nat} {l1 : Int32} {k35 : rx_S → Option (Int32 × rx_S)} {r : Int32} {sz : rx_S} {Q : bm_R → rx_S → Prop} (hq : Q (.inl (some (.int (r)))) sz) (hk35 : ∀ (d2 : Option Value) (d3 : Option Value) (d4 : Option Value) (s : rx_S), k35 s = some (r, sz) → rx G me_M_branches 35 [some (.ref rx_o), some (.int (l1)), d2, d3, d4] [] s Q) : ∀ (n : Nat) (l2 : Int32) (d3 : Option Value) (d4 : Option Value) (s : rx_S), D_M_branches_2 f l1 k35 n l2 s = some (r, sz) → rx G me_M_branches 2 [some (.ref rx_o), some (.int (l1)), some (.int (l2)), d3, d4] [] s Q := by
  intro n
  induction n with
  | zero =>
    intro l2 d3 d4 s h
    rw [D_M_branches_2] at h
    exact absurd h (by simp)
  | succ n ih =>
    intro l2 d3 d4 s h
    rw [D_M_branches_2] at h
    refine rx_iload_n d_M_branches_2 rfl ?_
    refine rx_bipush (v := nI 12) d_M_branches_3 (by decide) ?_
    refine rx_icmp_ge (tgt := 35) d_M_branches_5 (by decide) (fun hc5 => ?_) (fun hc5 => ?_)
    · rw [if_pos hc5] at h
      exact hk35 _ _ _ _ h
    · rw [if_neg hc5] at h
      refine rx_aload_n d_M_branches_8 rfl ?_
      refine rx_gaf g_M_branches_9 (by decide) ?_
      refine rx_iload_n d_M_branches_12 rfl ?_
      refine rx_iconst (v := (-1)) d_M_branches_13 (by decide) ?_
      obtain ⟨j1, hj1, ej1, h⟩ := og_inv (by decide) h
      refine rx_iast d_M_branches_14 rfl ej1 hj1 ?_
      refine rx_aload_n d_M_branches_15 rfl ?_
      refine rx_gaf g_M_branches_16 (by decide) ?_
      refine rx_iload_n d_M_branches_19 rfl ?_
      refine rx_iconst (v := (-1)) d_M_branches_20 (by decide) ?_
      refine rx_iast d_M_branches_21 rfl ej1 hj1 ?_
      refine rx_aload_n d_M_branches_22 rfl ?_
      refine rx_gaf g_M_branches_23 (by decide) ?_
      refine rx_iload_n d_M_branches_26 rfl ?_
      refine rx_iconst (v := (-1)) d_M_branches_27 (by decide) ?_
      refine rx_iast d_M_branches_28 rfl ej1 hj1 ?_
      refine rx_iincP d_M_branches_29 (by decide) rfl ?_
      refine rx_goto (tgt := 2) d_M_branches_32 (by decide) ?_
      exact ih _ _ _ _ h
theorem E_M_branches_81 {G : bm_G} {f : Nat} {l1 : Int32} {l3 : Int32} {k129 : Int32 → rx_S → Option (Int32 × rx_S)} {r : Int32} {sz : rx_S} {Q : bm_R → rx_S → Prop} (hq : Q (.inl (some (.int (r)))) sz) (hk129 : ∀ (q2 : Int32) (d4 : Option Value) (s : rx_S), k129 q2 s = some (r, sz) → rx G me_M_branches 129 [some (.ref rx_o), some (.int (l1)), some (.int (q2)), some (.int (l3)), d4] [] s Q) : ∀ (n : Nat) (l2 : Int32) (l4 : Int32) (s : rx_S), D_M_branches_81 f l1 l3 k129 n l2 l4 s = some (r, sz) → rx G me_M_branches 81 [some (.ref rx_o), some (.int (l1)), some (.int (l2)), some (.int (l3)), some (.int (l4))] [] s Q := by
  intro n
  induction n with
  | zero =>
    intro l2 l4 s h
    rw [D_M_branches_81] at h
    exact absurd h (by simp)
  | succ n ih =>
    intro l2 l4 s h
    rw [D_M_branches_81] at h
    refine rx_iload d_M_branches_81 rfl ?_
    refine rx_aload_n d_M_branches_83 rfl ?_
    refine rx_gaf g_M_branches_84 (by decide) ?_
    refine rx_iload_n d_M_branches_87 rfl ?_
    obtain ⟨j8, hj8, ej8, h⟩ := og_inv (by decide) h
    refine rx_iald d_M_branches_88 rfl ej8 hj8 ?_
    refine rx_icmp_ge (tgt := 129) d_M_branches_89 (by decide) (fun hc89 => ?_) (fun hc89 => ?_)
    · rw [if_pos hc89] at h
      exact hk129 _ _ _ h
    · rw [if_neg hc89] at h
      refine rx_iload_n d_M_branches_92 rfl ?_
      refine rx_if_eq (tgt := 129) d_M_branches_93 (by decide) (fun hc93 => ?_) (fun hc93 => ?_)
      · rw [if_pos hc93] at h
        exact hk129 _ _ _ h
      · rw [if_neg hc93] at h
        refine rx_aload_n d_M_branches_96 rfl ?_
        refine rx_gaf g_M_branches_97 (by decide) ?_
        refine rx_iload d_M_branches_100 rfl ?_
        obtain ⟨j9, hj9, ej9, h⟩ := og_inv (by decide) h
        refine rx_iald d_M_branches_102 rfl ej9 hj9 ?_
        refine rx_iconst (v := (-1)) d_M_branches_103 (by decide) ?_
        refine oj_step (P := fun J10 : Int32 → rx_S → Option (Int32 × rx_S) => ∀ (x11 : Int32) (s12 : rx_S) (d2 : Option Value), J10 x11 s12 = some (r, sz) → rx G me_M_branches 122 [some (.ref rx_o), some (.int (l1)), d2, some (.int (l3)), some (.int (l4))] [.int (x11)] s12 Q) h ?_ ?_
        · intro x11 s12 d2 h
          refine rx_istore_n d_M_branches_122 (by decide) ?_
          refine rx_iincP d_M_branches_123 (by decide) rfl ?_
          refine rx_goto (tgt := 81) d_M_branches_126 (by decide) ?_
          exact ih _ _ _ h
        clear h
        intro J10 hJ1 h
        refine oj_step (P := fun J13 : rx_S → Option (Int32 × rx_S) => ∀ (s14 : rx_S) (d2 : Option Value), J13 s14 = some (r, sz) → rx G me_M_branches 117 [some (.ref rx_o), some (.int (l1)), d2, some (.int (l3)), some (.int (l4))] [] s14 Q) h ?_ ?_
        · intro s14 d2 h
          refine rx_iconst (v := nI 1) d_M_branches_117 (by decide) ?_
          refine rx_goto (tgt := 122) d_M_branches_118 (by decide) ?_
          exact hJ1 _ _ _ h
        clear h
        intro J13 hJ2 h
        refine rx_icmp_eq (tgt := 117) d_M_branches_104 (by decide) (fun hc104 => ?_) (fun hc104 => ?_)
        · rw [if_pos hc104] at h
          exact hJ2 _ _ h
        · rw [if_neg hc104] at h
          refine rx_aload_n d_M_branches_107 rfl ?_
          refine rx_iload_n d_M_branches_108 rfl ?_
          refine rx_iload d_M_branches_109 rfl ?_
          obtain ⟨x15, s16, ex15, h⟩ := ob_inv h
          refine rx_callV2 c_M_branches_111 (Nat.le_of_ble_eq_true rfl) (E_M_leads ex15 ?_)
          refine rx_if_eq (tgt := 121) d_M_branches_114 (by decide) (fun hc114 => ?_) (fun hc114 => ?_)
          · rw [if_pos hc114] at h
            refine rx_iconst (v := nI 0) d_M_branches_121 (by decide) ?_
            exact hJ1 _ _ _ h
          · rw [if_neg hc114] at h
            exact hJ2 _ _ h
theorem E_M_branches_64 {G : bm_G} {f : Nat} {l1 : Int32} {k135 : Int32 → rx_S → Option (Int32 × rx_S)} {r : Int32} {sz : rx_S} {Q : bm_R → rx_S → Prop} (hq : Q (.inl (some (.int (r)))) sz) (hk135 : ∀ (q2 : Int32) (d3 : Option Value) (d4 : Option Value) (s : rx_S), k135 q2 s = some (r, sz) → rx G me_M_branches 135 [some (.ref rx_o), some (.int (l1)), some (.int (q2)), d3, d4] [] s Q) : ∀ (n : Nat) (l2 : Int32) (l3 : Int32) (d4 : Option Value) (s : rx_S), D_M_branches_64 f l1 k135 n l2 l3 s = some (r, sz) → rx G me_M_branches 64 [some (.ref rx_o), some (.int (l1)), some (.int (l2)), some (.int (l3)), d4] [] s Q := by
  intro n
  induction n with
  | zero =>
    intro l2 l3 d4 s h
    rw [D_M_branches_64] at h
    exact absurd h (by simp)
  | succ n ih =>
    intro l2 l3 d4 s h
    rw [D_M_branches_64] at h
    refine rx_iload_n d_M_branches_64 rfl ?_
    refine rx_aload_n d_M_branches_65 rfl ?_
    refine rx_gaf g_M_branches_66 (by decide) ?_
    refine rx_iload_n d_M_branches_69 rfl ?_
    obtain ⟨j7, hj7, ej7, h⟩ := og_inv (by decide) h
    refine rx_iald d_M_branches_70 rfl ej7 hj7 ?_
    refine rx_icmp_gt (tgt := 135) d_M_branches_71 (by decide) (fun hc71 => ?_) (fun hc71 => ?_)
    · rw [if_pos hc71] at h
      exact hk135 _ _ _ _ h
    · rw [if_neg hc71] at h
      refine rx_iload_n d_M_branches_74 rfl ?_
      refine rx_if_eq (tgt := 135) d_M_branches_75 (by decide) (fun hc75 => ?_) (fun hc75 => ?_)
      · rw [if_pos hc75] at h
        exact hk135 _ _ _ _ h
      · rw [if_neg hc75] at h
        refine rx_iconst (v := nI 0) d_M_branches_78 (by decide) ?_
        refine rx_istore d_M_branches_79 (by decide) ?_
        refine E_M_branches_81 (r := r) (sz := sz) hq ?_ _ _ _ _ h
        · intro v17 d4 s18 h
          refine rx_iincP d_M_branches_129 (by decide) rfl ?_
          refine rx_goto (tgt := 64) d_M_branches_132 (by decide) ?_
          exact ih _ _ _ _ h
theorem E_M_branches_196 {G : bm_G} {f : Nat} {l1 : Int32} {l3 : Int32} {k263 : Int32 → rx_S → Option (Int32 × rx_S)} {r : Int32} {sz : rx_S} {Q : bm_R → rx_S → Prop} (hq : Q (.inl (some (.int (r)))) sz) (hk263 : ∀ (q2 : Int32) (d4 : Option Value) (s : rx_S), k263 q2 s = some (r, sz) → rx G me_M_branches 263 [some (.ref rx_o), some (.int (l1)), some (.int (q2)), some (.int (l3)), d4] [] s Q) : ∀ (n : Nat) (l2 : Int32) (l4 : Int32) (s : rx_S), D_M_branches_196 f l1 l3 k263 n l2 l4 s = some (r, sz) → rx G me_M_branches 196 [some (.ref rx_o), some (.int (l1)), some (.int (l2)), some (.int (l3)), some (.int (l4))] [] s Q := by
  intro n
  induction n with
  | zero =>
    intro l2 l4 s h
    rw [D_M_branches_196] at h
    exact absurd h (by simp)
  | succ n ih =>
    intro l2 l4 s h
    rw [D_M_branches_196] at h
    refine rx_iload d_M_branches_196 rfl ?_
    refine rx_iload_n d_M_branches_198 rfl ?_
    refine rx_icmp_ge (tgt := 263) d_M_branches_199 (by decide) (fun hc199 => ?_) (fun hc199 => ?_)
    · rw [if_pos hc199] at h
      exact hk263 _ _ _ h
    · rw [if_neg hc199] at h
      refine rx_iload_n d_M_branches_202 rfl ?_
      refine oj_step (P := fun J24 : Int32 → Option (Int32 × rx_S) => ∀ (x25 : Int32) (d2 : Option Value), J24 x25 = some (r, sz) → rx G me_M_branches 256 [some (.ref rx_o), some (.int (l1)), d2, some (.int (l3)), some (.int (l4))] [.int (x25)] s Q) h ?_ ?_
      · intro x25 d2 h
        refine rx_istore_n d_M_branches_256 (by decide) ?_
        refine rx_iincP d_M_branches_257 (by decide) rfl ?_
        refine rx_goto (tgt := 196) d_M_branches_260 (by decide) ?_
        exact ih _ _ _ h
      clear h
      intro J24 hJ3 h
      refine oj_step (P := fun J26 : Unit → Option (Int32 × rx_S) => ∀ (_u : Unit) (d2 : Option Value), J26 () = some (r, sz) → rx G me_M_branches 255 [some (.ref rx_o), some (.int (l1)), d2, some (.int (l3)), some (.int (l4))] [] s Q) h ?_ ?_
      · intro _u d2 h
        refine rx_iconst (v := nI 0) d_M_branches_255 (by decide) ?_
        exact hJ3 _ _ h
      clear h
      intro J26 hJ4 h
      refine rx_if_eq (tgt := 255) d_M_branches_203 (by decide) (fun hc203 => ?_) (fun hc203 => ?_)
      · rw [if_pos hc203] at h
        exact hJ4 () _ h
      · rw [if_neg hc203] at h
        refine rx_aload_n d_M_branches_206 rfl ?_
        refine rx_gaf g_M_branches_207 (by decide) ?_
        refine rx_iload_n d_M_branches_210 rfl ?_
        obtain ⟨j27, hj27, ej27, h⟩ := og_inv (by decide) h
        refine rx_iald d_M_branches_211 rfl ej27 hj27 ?_
        refine rx_iconst (v := (-1)) d_M_branches_212 (by decide) ?_
        refine oj_step (P := fun J28 : Unit → Option (Int32 × rx_S) => ∀ (_u : Unit) (d2 : Option Value), J28 () = some (r, sz) → rx G me_M_branches 251 [some (.ref rx_o), some (.int (l1)), d2, some (.int (l3)), some (.int (l4))] [] s Q) h ?_ ?_
        · intro _u d2 h
          refine rx_iconst (v := nI 1) d_M_branches_251 (by decide) ?_
          refine rx_goto (tgt := 256) d_M_branches_252 (by decide) ?_
          exact hJ3 _ _ h
        clear h
        intro J28 hJ5 h
        refine rx_icmp_eq (tgt := 251) d_M_branches_213 (by decide) (fun hc213 => ?_) (fun hc213 => ?_)
        · rw [if_pos hc213] at h
          exact hJ5 () _ h
        · rw [if_neg hc213] at h
          refine rx_aload_n d_M_branches_216 rfl ?_
          refine rx_gaf g_M_branches_217 (by decide) ?_
          refine rx_iload d_M_branches_220 rfl ?_
          obtain ⟨j29, hj29, ej29, h⟩ := og_inv (by decide) h
          refine rx_iald d_M_branches_222 rfl ej29 hj29 ?_
          refine rx_iconst (v := (-1)) d_M_branches_223 (by decide) ?_
          refine rx_icmp_eq (tgt := 251) d_M_branches_224 (by decide) (fun hc224 => ?_) (fun hc224 => ?_)
          · rw [if_pos hc224] at h
            exact hJ5 () _ h
          · rw [if_neg hc224] at h
            refine rx_aload_n d_M_branches_227 rfl ?_
            refine rx_gaf g_M_branches_228 (by decide) ?_
            refine rx_iload_n d_M_branches_231 rfl ?_
            refine rx_iald d_M_branches_232 rfl ej27 hj27 ?_
            refine rx_iconst (v := nI 1) d_M_branches_233 (by decide) ?_
            refine rx_isub d_M_branches_234 ?_
            refine rx_iconst (v := nI 2) d_M_branches_235 (by decide) ?_
            obtain ⟨hy236, h⟩ := od_inv h
            refine rx_idiv d_M_branches_236 hy236 ?_
            refine rx_aload_n d_M_branches_237 rfl ?_
            refine rx_gaf g_M_branches_238 (by decide) ?_
            refine rx_iload d_M_branches_241 rfl ?_
            refine rx_iald d_M_branches_243 rfl ej29 hj29 ?_
            refine rx_iconst (v := nI 1) d_M_branches_244 (by decide) ?_
            refine rx_isub d_M_branches_245 ?_
            refine rx_iconst (v := nI 2) d_M_branches_246 (by decide) ?_
            obtain ⟨hy247, h⟩ := od_inv h
            refine rx_idiv d_M_branches_247 hy247 ?_
            refine rx_icmp_eq (tgt := 255) d_M_branches_248 (by decide) (fun hc248 => ?_) (fun hc248 => ?_)
            · rw [if_pos hc248] at h
              exact hJ4 () _ h
            · rw [if_neg hc248] at h
              exact hJ5 () _ h
theorem E_M_branches_137 {G : bm_G} {f : Nat} {l1 : Int32} {r : Int32} {sz : rx_S} {Q : bm_R → rx_S → Prop} (hq : Q (.inl (some (.int (r)))) sz) : ∀ (n : Nat) (l2 : Int32) (l3 : Int32) (d4 : Option Value) (s : rx_S), D_M_branches_137 f l1 n l2 l3 s = some (r, sz) → rx G me_M_branches 137 [some (.ref rx_o), some (.int (l1)), some (.int (l2)), some (.int (l3)), d4] [] s Q := by
  intro n
  induction n with
  | zero =>
    intro l2 l3 d4 s h
    rw [D_M_branches_137] at h
    exact absurd h (by simp)
  | succ n ih =>
    intro l2 l3 d4 s h
    rw [D_M_branches_137] at h
    refine rx_iload_n d_M_branches_137 rfl ?_
    refine rx_aload_n d_M_branches_138 rfl ?_
    refine rx_gaf g_M_branches_139 (by decide) ?_
    refine rx_iload_n d_M_branches_142 rfl ?_
    obtain ⟨j21, hj21, ej21, h⟩ := og_inv (by decide) h
    refine rx_iald d_M_branches_143 rfl ej21 hj21 ?_
    refine rx_icmp_ge (tgt := 269) d_M_branches_144 (by decide) (fun hc144 => ?_) (fun hc144 => ?_)
    · rw [if_pos hc144] at h
      refine rx_iload_n d_M_branches_269 rfl ?_
      obtain ⟨hz, h⟩ := ozb_inv h
      exact rx_zret d_M_branches_270 rfl (ozb_nar hz) (ox_i hq h)
    · rw [if_neg hc144] at h
      refine rx_iload_n d_M_branches_147 rfl ?_
      refine oj_step (P := fun J22 : Int32 → Option (Int32 × rx_S) => ∀ (x23 : Int32) (d2 : Option Value) (d4 : Option Value), J22 x23 = some (r, sz) → rx G me_M_branches 192 [some (.ref rx_o), some (.int (l1)), d2, some (.int (l3)), d4] [.int (x23)] s Q) h ?_ ?_
      · intro x23 d2 d4 h
        refine rx_istore_n d_M_branches_192 (by decide) ?_
        refine rx_iconst (v := nI 0) d_M_branches_193 (by decide) ?_
        refine rx_istore d_M_branches_194 (by decide) ?_
        refine E_M_branches_196 (r := r) (sz := sz) hq ?_ _ _ _ _ h
        · intro v30 d4 s31 h
          refine rx_iincP d_M_branches_263 (by decide) rfl ?_
          refine rx_goto (tgt := 137) d_M_branches_266 (by decide) ?_
          exact ih _ _ _ _ h
      clear h
      intro J22 hJ6 h
      refine oj_step (P := fun J32 : Unit → Option (Int32 × rx_S) => ∀ (_u : Unit) (d2 : Option Value) (d4 : Option Value), J32 () = some (r, sz) → rx G me_M_branches 191 [some (.ref rx_o), some (.int (l1)), d2, some (.int (l3)), d4] [] s Q) h ?_ ?_
      · intro _u d2 d4 h
        refine rx_iconst (v := nI 0) d_M_branches_191 (by decide) ?_
        exact hJ6 _ _ _ h
      clear h
      intro J32 hJ7 h
      refine rx_if_eq (tgt := 191) d_M_branches_148 (by decide) (fun hc148 => ?_) (fun hc148 => ?_)
      · rw [if_pos hc148] at h
        exact hJ7 () _ _ h
      · rw [if_neg hc148] at h
        refine rx_aload_n d_M_branches_151 rfl ?_
        refine rx_gaf g_M_branches_152 (by decide) ?_
        refine rx_iload_n d_M_branches_155 rfl ?_
        obtain ⟨j33, hj33, ej33, h⟩ := og_inv (by decide) h
        refine rx_iald d_M_branches_156 rfl ej33 hj33 ?_
        refine rx_iconst (v := (-1)) d_M_branches_157 (by decide) ?_
        refine rx_icmp_eq (tgt := 191) d_M_branches_158 (by decide) (fun hc158 => ?_) (fun hc158 => ?_)
        · rw [if_pos hc158] at h
          exact hJ7 () _ _ h
        · rw [if_neg hc158] at h
          refine rx_aload_n d_M_branches_161 rfl ?_
          refine rx_gaf g_M_branches_162 (by decide) ?_
          refine rx_bipush (v := nI 12) d_M_branches_165 (by decide) ?_
          refine rx_iload_n d_M_branches_167 rfl ?_
          refine rx_imul d_M_branches_168 ?_
          refine rx_iload_n d_M_branches_169 rfl ?_
          refine rx_iadd d_M_branches_170 ?_
          obtain ⟨j34, hj34, ej34, h⟩ := og_inv (by decide) h
          refine rx_iald d_M_branches_171 rfl ej34 hj34 ?_
          refine rx_bipush (v := nI 6) d_M_branches_172 (by decide) ?_
          refine oj_step (P := fun J35 : Unit → Option (Int32 × rx_S) => ∀ (_u : Unit) (d2 : Option Value) (d4 : Option Value), J35 () = some (r, sz) → rx G me_M_branches 187 [some (.ref rx_o), some (.int (l1)), d2, some (.int (l3)), d4] [] s Q) h ?_ ?_
          · intro _u d2 d4 h
            refine rx_iconst (v := nI 1) d_M_branches_187 (by decide) ?_
            refine rx_goto (tgt := 192) d_M_branches_188 (by decide) ?_
            exact hJ6 _ _ _ h
          clear h
          intro J35 hJ8 h
          refine rx_icmp_ne (tgt := 187) d_M_branches_174 (by decide) (fun hc174 => ?_) (fun hc174 => ?_)
          · rw [if_neg hc174] at h
            exact hJ8 () _ _ h
          · rw [if_pos hc174] at h
            refine rx_aload_n d_M_branches_177 rfl ?_
            refine rx_gaf g_M_branches_178 (by decide) ?_
            refine rx_iload_n d_M_branches_181 rfl ?_
            refine rx_iald d_M_branches_182 rfl ej33 hj33 ?_
            refine rx_iconst (v := (-1)) d_M_branches_183 (by decide) ?_
            refine rx_icmp_eq (tgt := 191) d_M_branches_184 (by decide) (fun hc184 => ?_) (fun hc184 => ?_)
            · rw [if_pos hc184] at h
              exact hJ7 () _ _ h
            · rw [if_neg hc184] at h
              exact hJ8 () _ _ h
theorem E_M_branches {G : bm_G} {f : Nat} {l1 : Int32} {s sz : rx_S} {r : Int32} {Q : Int32 → rx_S → Prop} (h : D_M_branches f l1 s = some (r, sz)) (hq : Q r sz) : rx_Ti G me_M_branches [.ref rx_o, .int (l1)] s Q := by
  refine rx_meti (by decide) rfl (Nat.le_of_ble_eq_true rfl) ?_
  generalize hQ : (fun (v : bm_R) (s2 : rx_S) => ∃ x, v = .inl (some (.int x)) ∧ Q x s2) = Q2
  replace hq : Q2 (.inl (some (.int (r)))) sz := by rw [← hQ]; exact ⟨_, rfl, hq⟩
  clear hQ
  unfold D_M_branches at h
  refine rx_iconst (v := nI 0) d_M_branches_0 (by decide) ?_
  refine rx_istore_n d_M_branches_1 (by decide) ?_
  refine E_M_branches_2 (r := r) (sz := sz) hq ?_ _ _ _ _ _ h
  · intro d2 d3 d4 s2 h
    refine rx_aload_n d_M_branches_35 rfl ?_
    refine rx_gaf g_M_branches_36 (by decide) ?_
    refine rx_iconst (v := nI 0) d_M_branches_39 (by decide) ?_
    refine rx_iconst (v := nI 0) d_M_branches_40 (by decide) ?_
    obtain ⟨j3, hj3, ej3, h⟩ := og_inv (by decide) h
    refine rx_iast d_M_branches_41 rfl ej3 hj3 ?_
    refine rx_aload_n d_M_branches_42 rfl ?_
    refine rx_gaf g_M_branches_43 (by decide) ?_
    refine rx_bipush (v := nI 12) d_M_branches_46 (by decide) ?_
    refine rx_iload_n d_M_branches_48 rfl ?_
    refine rx_imul d_M_branches_49 ?_
    obtain ⟨j4, hj4, ej4, h⟩ := og_inv (by decide) h
    refine rx_iald d_M_branches_50 rfl ej4 hj4 ?_
    refine rx_bipush (v := nI 6) d_M_branches_51 (by decide) ?_
    refine oj_step (P := fun J5 : Int32 → Option (Int32 × rx_S) => ∀ (x6 : Int32) (d2 : Option Value) (d3 : Option Value) (d4 : Option Value), J5 x6 = some (r, sz) → rx G me_M_branches 61 [some (.ref rx_o), some (.int (l1)), d2, d3, d4] [.int (x6)] (rx_up s2 41 j3 (nI 0)) Q2) h ?_ ?_
    · intro x6 d2 d3 d4 h
      refine rx_istore_n d_M_branches_61 (by decide) ?_
      refine rx_iconst (v := nI 0) d_M_branches_62 (by decide) ?_
      refine rx_istore_n d_M_branches_63 (by decide) ?_
      refine E_M_branches_64 (r := r) (sz := sz) hq ?_ _ _ _ _ _ h
      · intro v19 d3 d4 s20 h
        refine rx_iconst (v := nI 0) d_M_branches_135 (by decide) ?_
        refine rx_istore_n d_M_branches_136 (by decide) ?_
        refine E_M_branches_137 (r := r) (sz := sz) hq _ _ _ _ _ h
    clear h
    intro J5 hJ9 h
    refine rx_icmp_eq (tgt := 60) d_M_branches_53 (by decide) (fun hc53 => ?_) (fun hc53 => ?_)
    · rw [if_pos hc53] at h
      refine rx_iconst (v := nI 0) d_M_branches_60 (by decide) ?_
      exact hJ9 _ _ _ _ h
    · rw [if_neg hc53] at h
      refine rx_iconst (v := nI 1) d_M_branches_56 (by decide) ?_
      refine rx_goto (tgt := 61) d_M_branches_57 (by decide) ?_
      exact hJ9 _ _ _ _ h
