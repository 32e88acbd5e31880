theorem E_M_mark_2 {G : bm_G} {f : Nat} {l1 : Int32} {l2 : Int32} {k32 : rx_S → Option (Int32 × rx_S)} {r : Int32} {sz : rx_S} {Q : bm_R → rx_S → Prop} (hq : Q (.inl none) sz) (hk32 : ∀ (d1 : Option Value) (d3 : Option Value) (d4 : Option Value) (d5 : Option Value) (d6 : Option Value) (d7 : Option Value) (s : rx_S), k32 s = some (r, sz) → rx G me_M_mark 32 [some (.ref rx_o), d1, some (.int (l2)), d3, d4, d5, d6, d7] [] s Q) : ∀ (n : Nat) (l3 : Int32) (d4 : Option Value) (d5 : Option Value) (d6 : Option Value) (d7 : Option Value) (s : rx_S), D_M_mark_2 f l1 l2 k32 n l3 s = some (r, sz) → rx G me_M_mark 2 [some (.ref rx_o), some (.int (l1)), some (.int (l2)), some (.int (l3)), d4, d5, d6, d7] [] s Q := by
  intro n
  induction n with
  | zero =>
    intro l3 d4 d5 d6 d7 s h
    rw [D_M_mark_2] at h
    exact absurd h (by simp)
  | succ n ih =>
    intro l3 d4 d5 d6 d7 s h
    rw [D_M_mark_2] at h
    refine rx_iload_n d_M_mark_2 rfl ?_
    refine rx_aload_n d_M_mark_3 rfl ?_
    refine rx_gsf g_M_mark_4 (by decide) rfl ?_
    refine rx_icmp_ge (tgt := 32) d_M_mark_7 (by decide) (fun hc7 => ?_) (fun hc7 => ?_)
    · rw [if_pos hc7] at h
      exact hk32 _ _ _ _ _ _ _ h
    · rw [if_neg hc7] at h
      refine rx_aload_n d_M_mark_10 rfl ?_
      refine rx_gaf g_M_mark_11 (by decide) ?_
      refine rx_iload_n d_M_mark_14 rfl ?_
      refine rx_iload_n d_M_mark_15 rfl ?_
      refine rx_iload_n d_M_mark_16 rfl ?_
      refine oj_step (P := fun J1 : Int32 → Option (Int32 × rx_S) => ∀ (x2 : Int32) (d4 : Option Value) (d5 : Option Value) (d6 : Option Value) (d7 : Option Value), J1 x2 = some (r, sz) → rx G me_M_mark 25 [some (.ref rx_o), some (.int (l1)), some (.int (l2)), some (.int (l3)), d4, d5, d6, d7] [.int (x2), .int (l3), .ref (rx_a 40)] s Q) h ?_ ?_
      · intro x2 d4 d5 d6 d7 h
        obtain ⟨j3, hj3, ej3, h⟩ := og_inv (by decide) h
        obtain ⟨hz25, h⟩ := ozb_inv h
        refine rx_zast d_M_mark_25 rfl ej3 hj3 (ozb_vn hz25) ?_
        refine rx_iincP d_M_mark_26 (by decide) rfl ?_
        refine rx_goto (tgt := 2) d_M_mark_29 (by decide) ?_
        exact ih _ _ _ _ _ _ h
      clear h
      intro J1 hJ1 h
      refine rx_icmp_ne (tgt := 24) d_M_mark_17 (by decide) (fun hc17 => ?_) (fun hc17 => ?_)
      · rw [if_neg hc17] at h
        refine rx_iconst (v := nI 0) d_M_mark_24 (by decide) ?_
        exact hJ1 _ _ _ _ _ h
      · rw [if_pos hc17] at h
        refine rx_iconst (v := nI 1) d_M_mark_20 (by decide) ?_
        refine rx_goto (tgt := 25) d_M_mark_21 (by decide) ?_
        exact hJ1 _ _ _ _ _ h
theorem E_M_mark_61 {G : bm_G} {f : Nat} {l2 : Int32} {l4 : Int32} {k179 : Int32 → rx_S → Option (Int32 × rx_S)} {r : Int32} {sz : rx_S} {Q : bm_R → rx_S → Prop} (hq : Q (.inl none) sz) (hk179 : ∀ (q3 : Int32) (d1 : Option Value) (d5 : Option Value) (d6 : Option Value) (d7 : Option Value) (s : rx_S), k179 q3 s = some (r, sz) → rx G me_M_mark 179 [some (.ref rx_o), d1, some (.int (l2)), some (.int (q3)), some (.int (l4)), d5, d6, d7] [] s Q) : ∀ (n : Nat) (l3 : Int32) (l5 : Int32) (d1 : Option Value) (d6 : Option Value) (d7 : Option Value) (s : rx_S), D_M_mark_61 f l2 l4 k179 n l3 l5 s = some (r, sz) → rx G me_M_mark 61 [some (.ref rx_o), d1, some (.int (l2)), some (.int (l3)), some (.int (l4)), some (.int (l5)), d6, d7] [] s Q := by
  intro n
  induction n with
  | zero =>
    intro l3 l5 d1 d6 d7 s h
    rw [D_M_mark_61] at h
    exact absurd h (by simp)
  | succ n ih =>
    intro l3 l5 d1 d6 d7 s h
    rw [D_M_mark_61] at h
    refine rx_iload d_M_mark_61 rfl ?_
    refine rx_aload_n d_M_mark_63 rfl ?_
    refine rx_gaf g_M_mark_64 (by decide) ?_
    refine rx_iload d_M_mark_67 rfl ?_
    refine rx_iconst (v := nI 1) d_M_mark_69 (by decide) ?_
    refine rx_iadd d_M_mark_70 ?_
    obtain ⟨j6, hj6, ej6, h⟩ := og_inv (by decide) h
    refine rx_iald d_M_mark_71 rfl ej6 hj6 ?_
    refine rx_icmp_ge (tgt := 179) d_M_mark_72 (by decide) (fun hc72 => ?_) (fun hc72 => ?_)
    · rw [if_pos hc72] at h
      exact hk179 _ _ _ _ _ _ h
    · rw [if_neg hc72] at h
      refine rx_iload_n d_M_mark_75 rfl ?_
      refine oj_step (P := fun J7 : Int32 → Option (Int32 × rx_S) => ∀ (x8 : Int32) (d1 : Option Value) (d6 : Option Value) (d7 : Option Value), J7 x8 = some (r, sz) → rx G me_M_mark 91 [some (.ref rx_o), d1, some (.int (l2)), some (.int (l3)), some (.int (l4)), some (.int (l5)), d6, d7] [.int (x8)] s Q) h ?_ ?_
      · intro x8 d1 d6 d7 h
        refine rx_istore d_M_mark_91 (by decide) ?_
        refine rx_iload_n d_M_mark_93 rfl ?_
        refine oj_step (P := fun J9 : Int32 → Option (Int32 × rx_S) => ∀ (x10 : Int32) (d1 : Option Value) (d7 : Option Value), J9 x10 = some (r, sz) → rx G me_M_mark 109 [some (.ref rx_o), d1, some (.int (l2)), some (.int (l3)), some (.int (l4)), some (.int (l5)), some (.int (x8)), d7] [.int (x10)] s Q) h ?_ ?_
        · intro x10 d1 d7 h
          refine rx_istore d_M_mark_109 (by decide) ?_
          refine rx_iload_n d_M_mark_111 rfl ?_
          refine oj_step (P := fun J11 : Int32 → Option (Int32 × rx_S) => ∀ (x12 : Int32) (d1 : Option Value) (d3 : Option Value), J11 x12 = some (r, sz) → rx G me_M_mark 140 [some (.ref rx_o), d1, some (.int (l2)), d3, some (.int (l4)), some (.int (l5)), some (.int (x8)), some (.int (x10))] [.int (x12)] s Q) h ?_ ?_
          · intro x12 d1 d3 h
            refine rx_istore_n d_M_mark_140 (by decide) ?_
            refine rx_aload_n d_M_mark_141 rfl ?_
            refine rx_gaf g_M_mark_142 (by decide) ?_
            refine rx_iload d_M_mark_145 rfl ?_
            refine rx_aload_n d_M_mark_147 rfl ?_
            refine rx_gaf g_M_mark_148 (by decide) ?_
            refine rx_iload d_M_mark_151 rfl ?_
            obtain ⟨j13, hj13, ej13, h⟩ := og_inv (by decide) h
            refine rx_zald d_M_mark_153 rfl ej13 hj13 ?_
            refine oj_step (P := fun J14 : Int32 → Option (Int32 × rx_S) => ∀ (x15 : Int32) (d1 : Option Value) (d6 : Option Value) (d7 : Option Value), J14 x15 = some (r, sz) → rx G me_M_mark 172 [some (.ref rx_o), d1, some (.int (l2)), some (.int (x12)), some (.int (l4)), some (.int (l5)), d6, d7] [.int (x15), .int (x10), .ref (rx_a 40)] s Q) h ?_ ?_
            · intro x15 d1 d6 d7 h
              obtain ⟨hz172, h⟩ := ozb_inv h
              refine rx_zast d_M_mark_172 rfl ej13 hj13 (ozb_vn hz172) ?_
              refine rx_iincP d_M_mark_173 (by decide) rfl ?_
              refine rx_goto (tgt := 61) d_M_mark_176 (by decide) ?_
              exact ih _ _ _ _ _ _ h
            clear h
            intro J14 hJ2 h
            refine oj_step (P := fun J16 : Unit → Option (Int32 × rx_S) => ∀ (_u : Unit) (d1 : Option Value) (d6 : Option Value) (d7 : Option Value), J16 () = some (r, sz) → rx G me_M_mark 167 [some (.ref rx_o), d1, some (.int (l2)), some (.int (x12)), some (.int (l4)), some (.int (l5)), d6, d7] [.int (x10), .ref (rx_a 40)] s Q) h ?_ ?_
            · intro _u d1 d6 d7 h
              refine rx_iconst (v := nI 1) d_M_mark_167 (by decide) ?_
              refine rx_goto (tgt := 172) d_M_mark_168 (by decide) ?_
              exact hJ2 _ _ _ _ h
            clear h
            intro J16 hJ3 h
            refine rx_if_ne (tgt := 167) d_M_mark_154 (by decide) (fun hc154 => ?_) (fun hc154 => ?_)
            · rw [if_neg hc154] at h
              exact hJ3 () _ _ _ h
            · rw [if_pos hc154] at h
              refine rx_aload_n d_M_mark_157 rfl ?_
              refine rx_gaf g_M_mark_158 (by decide) ?_
              refine rx_iload d_M_mark_161 rfl ?_
              obtain ⟨j17, hj17, ej17, h⟩ := og_inv (by decide) h
              refine rx_zald d_M_mark_163 rfl ej17 hj17 ?_
              refine rx_if_eq (tgt := 171) d_M_mark_164 (by decide) (fun hc164 => ?_) (fun hc164 => ?_)
              · rw [if_pos hc164] at h
                refine rx_iconst (v := nI 0) d_M_mark_171 (by decide) ?_
                exact hJ2 _ _ _ _ h
              · rw [if_neg hc164] at h
                exact hJ3 () _ _ _ h
          clear h
          intro J11 hJ4 h
          refine oj_step (P := fun J18 : Unit → Option (Int32 × rx_S) => ∀ (_u : Unit) (d1 : Option Value) (d3 : Option Value), J18 () = some (r, sz) → rx G me_M_mark 135 [some (.ref rx_o), d1, some (.int (l2)), d3, some (.int (l4)), some (.int (l5)), some (.int (x8)), some (.int (x10))] [] s Q) h ?_ ?_
          · intro _u d1 d3 h
            refine rx_iconst (v := nI 1) d_M_mark_135 (by decide) ?_
            refine rx_goto (tgt := 140) d_M_mark_136 (by decide) ?_
            exact hJ4 _ _ _ h
          clear h
          intro J18 hJ5 h
          refine rx_if_ne (tgt := 135) d_M_mark_112 (by decide) (fun hc112 => ?_) (fun hc112 => ?_)
          · rw [if_neg hc112] at h
            exact hJ5 () _ _ h
          · rw [if_pos hc112] at h
            refine rx_aload_n d_M_mark_115 rfl ?_
            refine rx_gaf g_M_mark_116 (by decide) ?_
            refine rx_iload d_M_mark_119 rfl ?_
            obtain ⟨j19, hj19, ej19, h⟩ := og_inv (by decide) h
            refine rx_zald d_M_mark_121 rfl ej19 hj19 ?_
            refine oj_step (P := fun J20 : Unit → Option (Int32 × rx_S) => ∀ (_u : Unit) (d1 : Option Value) (d3 : Option Value), J20 () = some (r, sz) → rx G me_M_mark 139 [some (.ref rx_o), d1, some (.int (l2)), d3, some (.int (l4)), some (.int (l5)), some (.int (x8)), some (.int (x10))] [] s Q) h ?_ ?_
            · intro _u d1 d3 h
              refine rx_iconst (v := nI 0) d_M_mark_139 (by decide) ?_
              exact hJ4 _ _ _ h
            clear h
            intro J20 hJ6 h
            refine rx_if_eq (tgt := 139) d_M_mark_122 (by decide) (fun hc122 => ?_) (fun hc122 => ?_)
            · rw [if_pos hc122] at h
              exact hJ6 () _ _ h
            · rw [if_neg hc122] at h
              refine rx_aload_n d_M_mark_125 rfl ?_
              refine rx_gaf g_M_mark_126 (by decide) ?_
              refine rx_iload d_M_mark_129 rfl ?_
              obtain ⟨j21, hj21, ej21, h⟩ := og_inv (by decide) h
              refine rx_zald d_M_mark_131 rfl ej21 hj21 ?_
              refine rx_if_ne (tgt := 139) d_M_mark_132 (by decide) (fun hc132 => ?_) (fun hc132 => ?_)
              · rw [if_neg hc132] at h
                exact hJ6 () _ _ h
              · rw [if_pos hc132] at h
                exact hJ5 () _ _ h
        clear h
        intro J9 hJ7 h
        refine rx_if_eq (tgt := 102) d_M_mark_94 (by decide) (fun hc94 => ?_) (fun hc94 => ?_)
        · rw [if_pos hc94] at h
          refine rx_aload_n d_M_mark_102 rfl ?_
          refine rx_gaf g_M_mark_103 (by decide) ?_
          refine rx_iload d_M_mark_106 rfl ?_
          obtain ⟨j22, hj22, ej22, h⟩ := og_inv (by decide) h
          refine rx_iald d_M_mark_108 rfl ej22 hj22 ?_
          exact hJ7 _ _ _ h
        · rw [if_neg hc94] at h
          refine rx_iload d_M_mark_97 rfl ?_
          refine rx_goto (tgt := 109) d_M_mark_99 (by decide) ?_
          exact hJ7 _ _ _ h
      clear h
      intro J7 hJ8 h
      refine rx_if_eq (tgt := 89) d_M_mark_76 (by decide) (fun hc76 => ?_) (fun hc76 => ?_)
      · rw [if_pos hc76] at h
        refine rx_iload d_M_mark_89 rfl ?_
        exact hJ8 _ _ _ _ h
      · rw [if_neg hc76] at h
        refine rx_aload_n d_M_mark_79 rfl ?_
        refine rx_gaf g_M_mark_80 (by decide) ?_
        refine rx_iload d_M_mark_83 rfl ?_
        obtain ⟨j23, hj23, ej23, h⟩ := og_inv (by decide) h
        refine rx_iald d_M_mark_85 rfl ej23 hj23 ?_
        refine rx_goto (tgt := 91) d_M_mark_86 (by decide) ?_
        exact hJ8 _ _ _ _ h
theorem E_M_mark_43 {G : bm_G} {f : Nat} {l2 : Int32} {k185 : Int32 → rx_S → Option (Int32 × rx_S)} {r : Int32} {sz : rx_S} {Q : bm_R → rx_S → Prop} (hq : Q (.inl none) sz) (hk185 : ∀ (q3 : Int32) (d1 : Option Value) (d4 : Option Value) (d5 : Option Value) (d6 : Option Value) (d7 : Option Value) (s : rx_S), k185 q3 s = some (r, sz) → rx G me_M_mark 185 [some (.ref rx_o), d1, some (.int (l2)), some (.int (q3)), d4, d5, d6, d7] [] s Q) : ∀ (n : Nat) (l3 : Int32) (l4 : Int32) (d1 : Option Value) (d5 : Option Value) (d6 : Option Value) (d7 : Option Value) (s : rx_S), D_M_mark_43 f l2 k185 n l3 l4 s = some (r, sz) → rx G me_M_mark 43 [some (.ref rx_o), d1, some (.int (l2)), some (.int (l3)), some (.int (l4)), d5, d6, d7] [] s Q := by
  intro n
  induction n with
  | zero =>
    intro l3 l4 d1 d5 d6 d7 s h
    rw [D_M_mark_43] at h
    exact absurd h (by simp)
  | succ n ih =>
    intro l3 l4 d1 d5 d6 d7 s h
    rw [D_M_mark_43] at h
    refine rx_iload d_M_mark_43 rfl ?_
    refine rx_aload_n d_M_mark_45 rfl ?_
    refine rx_gsf g_M_mark_46 (by decide) rfl ?_
    refine rx_icmp_ge (tgt := 185) d_M_mark_49 (by decide) (fun hc49 => ?_) (fun hc49 => ?_)
    · rw [if_pos hc49] at h
      exact hk185 _ _ _ _ _ _ _ h
    · rw [if_neg hc49] at h
      refine rx_aload_n d_M_mark_52 rfl ?_
      refine rx_gaf g_M_mark_53 (by decide) ?_
      refine rx_iload d_M_mark_56 rfl ?_
      obtain ⟨j5, hj5, ej5, h⟩ := og_inv (by decide) h
      refine rx_iald d_M_mark_58 rfl ej5 hj5 ?_
      refine rx_istore d_M_mark_59 (by decide) ?_
      refine E_M_mark_61 (r := r) (sz := sz) hq ?_ _ _ _ _ _ _ _ h
      · intro v24 d1 d5 d6 d7 s25 h
        refine rx_iincP d_M_mark_179 (by decide) rfl ?_
        refine rx_goto (tgt := 43) d_M_mark_182 (by decide) ?_
        exact ih _ _ _ _ _ _ _ h
theorem E_M_mark_34 {G : bm_G} {f : Nat} {l2 : Int32} {r : Int32} {sz : rx_S} {Q : bm_R → rx_S → Prop} (hq : Q (.inl none) sz) : ∀ (n : Nat) (l3 : Int32) (d1 : Option Value) (d4 : Option Value) (d5 : Option Value) (d6 : Option Value) (d7 : Option Value) (s : rx_S), D_M_mark_34 f l2 n l3 s = some (r, sz) → rx G me_M_mark 34 [some (.ref rx_o), d1, some (.int (l2)), some (.int (l3)), d4, d5, d6, d7] [] s Q := by
  intro n
  induction n with
  | zero =>
    intro l3 d1 d4 d5 d6 d7 s h
    rw [D_M_mark_34] at h
    exact absurd h (by simp)
  | succ n ih =>
    intro l3 d1 d4 d5 d6 d7 s h
    rw [D_M_mark_34] at h
    refine rx_iload_n d_M_mark_34 rfl ?_
    refine rx_if_eq (tgt := 188) d_M_mark_35 (by decide) (fun hc35 => ?_) (fun hc35 => ?_)
    · rw [if_pos hc35] at h
      exact rx_vret d_M_mark_188 rfl (ox_v hq h)
    · rw [if_neg hc35] at h
      refine rx_iconst (v := nI 0) d_M_mark_38 (by decide) ?_
      refine rx_istore_n d_M_mark_39 (by decide) ?_
      refine rx_iconst (v := nI 0) d_M_mark_40 (by decide) ?_
      refine rx_istore d_M_mark_41 (by decide) ?_
      refine E_M_mark_43 (r := r) (sz := sz) hq ?_ _ _ _ _ _ _ _ _ h
      · intro v26 d1 d4 d5 d6 d7 s27 h
        refine rx_goto (tgt := 34) d_M_mark_185 (by decide) ?_
        exact ih _ _ _ _ _ _ _ h
theorem E_M_mark {G : bm_G} {f : Nat} {l1 : Int32} {l2 : Int32} {s sz : rx_S} {r : Int32} {Q : rx_S → Prop} (h : D_M_mark f l1 l2 s = some (r, sz)) (hq : Q sz) : rx_Tv G me_M_mark [.ref rx_o, .int (l1), .int (l2)] s Q := by
  refine rx_metv (by decide) rfl (Nat.le_of_ble_eq_true rfl) ?_
  generalize hQ : (fun (v : bm_R) (s2 : rx_S) => v = .inl none ∧ Q s2) = Q2
  replace hq : Q2 (.inl none) sz := by rw [← hQ]; exact ⟨rfl, hq⟩
  clear hQ
  unfold D_M_mark at h
  refine rx_iconst (v := nI 0) d_M_mark_0 (by decide) ?_
  refine rx_istore_n d_M_mark_1 (by decide) ?_
  refine E_M_mark_2 (r := r) (sz := sz) hq ?_ _ _ _ _ _ _ _ h
  · intro d1 d3 d4 d5 d6 d7 s4 h
    refine rx_iconst (v := nI 1) d_M_mark_32 (by decide) ?_
    refine rx_istore_n d_M_mark_33 (by decide) ?_
    refine E_M_mark_34 (r := r) (sz := sz) hq _ _ _ _ _ _ _ _ h
theorem E_M_trace_33 {G : bm_G} {f : Nat} {l1 : Int32} {l3 : Int32} {r : Int32} {sz : rx_S} {Q : bm_R → rx_S → Prop} (hq : Q (.inl (some (.int (r)))) sz) : ∀ (n : Nat) (l4 : Int32) (l5 : Int32) (d2 : Option Value) (s : rx_S), D_M_trace_33 f l1 l3 n l4 l5 s = some (r, sz) → rx G me_M_trace 33 [some (.ref rx_o), some (.int (l1)), d2, some (.int (l3)), some (.int (l4)), some (.int (l5))] [] s Q := by
  intro n
  induction n with
  | zero =>
    intro l4 l5 d2 s h
    rw [D_M_trace_33] at h
    exact absurd h (by simp)
  | succ n ih =>
    intro l4 l5 d2 s h
    rw [D_M_trace_33] at h
    refine rx_iload d_M_trace_33 rfl ?_
    refine rx_aload_n d_M_trace_35 rfl ?_
    refine rx_gsf g_M_trace_36 (by decide) rfl ?_
    refine rx_icmp_ge (tgt := 76) d_M_trace_39 (by decide) (fun hc39 => ?_) (fun hc39 => ?_)
    · rw [if_pos hc39] at h
      refine rx_iconst (v := (-1)) d_M_trace_76 (by decide) ?_
      exact rx_iret d_M_trace_77 rfl (ox_i hq h)
    · rw [if_neg hc39] at h
      refine rx_iload d_M_trace_42 rfl ?_
      refine rx_iload_n d_M_trace_44 rfl ?_
      refine oj_step (P := fun J5 : Int32 → Option (Int32 × rx_S) => ∀ (v6 : Int32) (d2 : Option Value), J5 v6 = some (r, sz) → rx G me_M_trace 70 [some (.ref rx_o), some (.int (l1)), d2, some (.int (l3)), some (.int (v6)), some (.int (l5))] [] s Q) h ?_ ?_
      · intro v6 d2 h
        refine rx_iincP d_M_trace_70 (by decide) rfl ?_
        refine rx_goto (tgt := 33) d_M_trace_73 (by decide) ?_
        exact ih _ _ _ _ h
      clear h
      intro J5 hJ1 h
      refine rx_icmp_eq (tgt := 70) d_M_trace_45 (by decide) (fun hc45 => ?_) (fun hc45 => ?_)
      · rw [if_pos hc45] at h
        exact hJ1 _ _ h
      · rw [if_neg hc45] at h
        refine rx_aload_n d_M_trace_48 rfl ?_
        refine rx_gaf g_M_trace_49 (by decide) ?_
        refine rx_iload d_M_trace_52 rfl ?_
        obtain ⟨j7, hj7, ej7, h⟩ := og_inv (by decide) h
        refine rx_zald d_M_trace_54 rfl ej7 hj7 ?_
        refine rx_if_eq (tgt := 70) d_M_trace_55 (by decide) (fun hc55 => ?_) (fun hc55 => ?_)
        · rw [if_pos hc55] at h
          exact hJ1 _ _ h
        · rw [if_neg hc55] at h
          refine rx_iload d_M_trace_58 rfl ?_
          refine rx_iload_n d_M_trace_60 rfl ?_
          refine rx_icmp_ne (tgt := 67) d_M_trace_61 (by decide) (fun hc61 => ?_) (fun hc61 => ?_)
          · rw [if_neg hc61] at h
            refine rx_iincP d_M_trace_67 (by decide) rfl ?_
            exact hJ1 _ _ h
          · rw [if_pos hc61] at h
            refine rx_iload d_M_trace_64 rfl ?_
            exact rx_iret d_M_trace_66 rfl (ox_i hq h)
theorem E_M_trace {G : bm_G} {f : Nat} {l1 : Int32} {l2 : Int32} {l3 : Int32} {s sz : rx_S} {r : Int32} {Q : Int32 → rx_S → Prop} (h : D_M_trace f l1 l2 l3 s = some (r, sz)) (hq : Q r sz) : rx_Ti G me_M_trace [.ref rx_o, .int (l1), .int (l2), .int (l3)] s Q := by
  refine rx_meti (by decide) rfl (Nat.le_of_ble_eq_true rfl) ?_
  generalize hQ : (fun (v : bm_R) (s2 : rx_S) => ∃ x, v = .inl (some (.int x)) ∧ Q x s2) = Q2
  replace hq : Q2 (.inl (some (.int (r)))) sz := by rw [← hQ]; exact ⟨_, rfl, hq⟩
  clear hQ
  unfold D_M_trace at h
  refine rx_aload_n d_M_trace_0 rfl ?_
  refine rx_iconst (v := nI 0) d_M_trace_1 (by decide) ?_
  refine rx_psf p_M_trace_2 (by decide) rfl rfl rfl ?_
  refine rx_iload_n d_M_trace_5 rfl ?_
  refine rx_iconst (v := nI 0) d_M_trace_6 (by decide) ?_
  refine rx_aload_n d_M_trace_7 rfl ?_
  refine rx_gsf g_M_trace_8 (by decide) rfl ?_
  refine rx_iconst (v := nI 1) d_M_trace_11 (by decide) ?_
  refine rx_isub d_M_trace_12 ?_
  obtain ⟨x1, s2, ex1, h⟩ := ob_inv h
  refine rx_callS3 c_M_trace_13 (Nat.le_of_ble_eq_true rfl) (E_M_in ex1 ?_)
  refine rx_if_ne (tgt := 21) d_M_trace_16 (by decide) (fun hc16 => ?_) (fun hc16 => ?_)
  · rw [if_neg hc16] at h
    refine rx_aload_n d_M_trace_21 rfl ?_
    refine rx_iload_n d_M_trace_22 rfl ?_
    refine rx_iload_n d_M_trace_23 rfl ?_
    obtain ⟨x3, s4, ex3, h⟩ := ob_inv h
    refine rx_callV2v c_M_trace_24 (Nat.le_of_ble_eq_true rfl) (E_M_mark ex3 ?_)
    refine rx_iconst (v := nI 0) d_M_trace_27 (by decide) ?_
    refine rx_istore d_M_trace_28 (by decide) ?_
    refine rx_iconst (v := nI 0) d_M_trace_30 (by decide) ?_
    refine rx_istore d_M_trace_31 (by decide) ?_
    refine E_M_trace_33 (r := r) (sz := sz) hq _ _ _ _ _ h
  · rw [if_pos hc16] at h
    refine rx_iconst (v := (-1)) d_M_trace_19 (by decide) ?_
    exact rx_iret d_M_trace_20 rfl (ox_i hq h)
theorem E_M_lots {G : bm_G} {f : Nat} {s sz : rx_S} {r : Int32} {Q : Int32 → rx_S → Prop} (h : D_M_lots f s = some (r, sz)) (hq : Q r sz) : rx_Ti G me_M_lots [.ref rx_o] s Q := by
  refine rx_meti (by decide) rfl (Nat.le_of_ble_eq_true rfl) ?_
  generalize hQ : (fun (v : bm_R) (s2 : rx_S) => ∃ x, v = .inl (some (.int x)) ∧ Q x s2) = Q2
  replace hq : Q2 (.inl (some (.int (r)))) sz := by rw [← hQ]; exact ⟨_, rfl, hq⟩
  clear hQ
  unfold D_M_lots at h
  refine rx_aload_n d_M_lots_0 rfl ?_
  refine rx_iconst (v := nI 0) d_M_lots_1 (by decide) ?_
  refine rx_psf p_M_lots_2 (by decide) rfl rfl rfl ?_
  refine rx_aload_n d_M_lots_5 rfl ?_
  refine rx_gsf g_M_lots_6 (by decide) rfl ?_
  exact rx_iret d_M_lots_9 rfl (ox_i hq h)
