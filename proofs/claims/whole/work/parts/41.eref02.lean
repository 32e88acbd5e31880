theorem E_M_isWhole_2 {G : bm_G} {f : Nat} {l1 : Int32} {k29 : rx_S → Option (Int32 × rx_S)} {r : Int32} {sz : rx_S} {Q : bm_R → rx_S → Prop} (hq : Q (.inl (some (.int (r)))) sz) (hk29 : ∀ (d2 : Option Value) (d3 : Option Value) (d4 : Option Value) (s : rx_S), k29 s = some (r, sz) → rx G me_M_isWhole 29 [some (.ref rx_o), some (.int (l1)), d2, d3, d4] [] s Q) : ∀ (n : Nat) (l2 : Int32) (d3 : Option Value) (d4 : Option Value) (s : rx_S), D_M_isWhole_2 f l1 k29 n l2 s = some (r, sz) → rx G me_M_isWhole 2 [some (.ref rx_o), some (.int (l1)), some (.int (l2)), d3, d4] [] s Q := by
  intro n
  induction n with
  | zero =>
    intro l2 d3 d4 s h
    rw [D_M_isWhole_2] at h
    exact absurd h (by simp)
  | succ n ih =>
    intro l2 d3 d4 s h
    rw [D_M_isWhole_2] at h
    refine rx_iload_n d_M_isWhole_2 rfl ?_
    refine rx_bipush (v := nI 12) d_M_isWhole_3 (by decide) ?_
    refine rx_icmp_ge (tgt := 29) d_M_isWhole_5 (by decide) (fun hc5 => ?_) (fun hc5 => ?_)
    · rw [if_pos hc5] at h
      exact hk29 _ _ _ _ h
    · rw [if_neg hc5] at h
      refine rx_aload_n d_M_isWhole_8 rfl ?_
      refine rx_gaf g_M_isWhole_9 (by decide) ?_
      refine rx_iload_n d_M_isWhole_12 rfl ?_
      refine rx_iload_n d_M_isWhole_13 rfl ?_
      refine oj_step (P := fun J1 : Int32 → Option (Int32 × rx_S) => ∀ (x2 : Int32) (d3 : Option Value) (d4 : Option Value), J1 x2 = some (r, sz) → rx G me_M_isWhole 22 [some (.ref rx_o), some (.int (l1)), some (.int (l2)), d3, d4] [.int (x2), .int (l2), .ref (rx_a 47)] s Q) h ?_ ?_
      · intro x2 d3 d4 h
        obtain ⟨j3, hj3, ej3, h⟩ := og_inv (by decide) h
        obtain ⟨hz22, h⟩ := ozb_inv h
        refine rx_zast d_M_isWhole_22 rfl ej3 hj3 (ozb_vn hz22) ?_
        refine rx_iincP d_M_isWhole_23 (by decide) rfl ?_
        refine rx_goto (tgt := 2) d_M_isWhole_26 (by decide) ?_
        exact ih _ _ _ _ h
      clear h
      intro J1 hJ1 h
      refine rx_if_ne (tgt := 21) d_M_isWhole_14 (by decide) (fun hc14 => ?_) (fun hc14 => ?_)
      · rw [if_neg hc14] at h
        refine rx_iconst (v := nI 0) d_M_isWhole_21 (by decide) ?_
        exact hJ1 _ _ _ h
      · rw [if_pos hc14] at h
        refine rx_iconst (v := nI 1) d_M_isWhole_17 (by decide) ?_
        refine rx_goto (tgt := 22) d_M_isWhole_18 (by decide) ?_
        exact hJ1 _ _ _ h
theorem E_M_isWhole_43 {G : bm_G} {f : Nat} {l1 : Int32} {l2 : Int32} {k137 : rx_S → Option (Int32 × rx_S)} {r : Int32} {sz : rx_S} {Q : bm_R → rx_S → Prop} (hq : Q (.inl (some (.int (r)))) sz) (hk137 : ∀ (d3 : Option Value) (d4 : Option Value) (s : rx_S), k137 s = some (r, sz) → rx G me_M_isWhole 137 [some (.ref rx_o), some (.int (l1)), some (.int (l2)), d3, d4] [] s Q) : ∀ (n : Nat) (l3 : Int32) (d4 : Option Value) (s : rx_S), D_M_isWhole_43 f l1 l2 k137 n l3 s = some (r, sz) → rx G me_M_isWhole 43 [some (.ref rx_o), some (.int (l1)), some (.int (l2)), some (.int (l3)), d4] [] s Q := by
  intro n
  induction n with
  | zero =>
    intro l3 d4 s h
    rw [D_M_isWhole_43] at h
    exact absurd h (by simp)
  | succ n ih =>
    intro l3 d4 s h
    rw [D_M_isWhole_43] at h
    refine rx_iload_n d_M_isWhole_43 rfl ?_
    refine rx_aload_n d_M_isWhole_44 rfl ?_
    refine rx_gaf g_M_isWhole_45 (by decide) ?_
    refine rx_iload_n d_M_isWhole_48 rfl ?_
    obtain ⟨j6, hj6, ej6, h⟩ := og_inv (by decide) h
    refine rx_iald d_M_isWhole_49 rfl ej6 hj6 ?_
    refine rx_icmp_ge (tgt := 137) d_M_isWhole_50 (by decide) (fun hc50 => ?_) (fun hc50 => ?_)
    · rw [if_pos hc50] at h
      exact hk137 _ _ _ h
    · rw [if_neg hc50] at h
      refine rx_bipush (v := nI 12) d_M_isWhole_53 (by decide) ?_
      refine rx_iload_n d_M_isWhole_55 rfl ?_
      refine rx_imul d_M_isWhole_56 ?_
      refine rx_iload_n d_M_isWhole_57 rfl ?_
      refine rx_iadd d_M_isWhole_58 ?_
      refine rx_istore d_M_isWhole_59 (by decide) ?_
      refine rx_aload_n d_M_isWhole_61 rfl ?_
      refine rx_gaf g_M_isWhole_62 (by decide) ?_
      refine rx_iload_n d_M_isWhole_65 rfl ?_
      obtain ⟨j7, hj7, ej7, h⟩ := og_inv (by decide) h
      refine rx_zald d_M_isWhole_66 rfl ej7 hj7 ?_
      refine oj_step (P := fun J8 : rx_S → Option (Int32 × rx_S) => ∀ (s9 : rx_S), J8 s9 = some (r, sz) → rx G me_M_isWhole 95 [some (.ref rx_o), some (.int (l1)), some (.int (l2)), some (.int (l3)), some (.int (((nI 12) * l1) + l3))] [] s9 Q) h ?_ ?_
      · intro s9 h
        refine rx_aload_n d_M_isWhole_95 rfl ?_
        refine rx_gaf g_M_isWhole_96 (by decide) ?_
        refine rx_iload_n d_M_isWhole_99 rfl ?_
        refine rx_zald d_M_isWhole_100 rfl ej7 hj7 ?_
        refine oj_step (P := fun J10 : rx_S → Option (Int32 × rx_S) => ∀ (s11 : rx_S) (d4 : Option Value), J10 s11 = some (r, sz) → rx G me_M_isWhole 131 [some (.ref rx_o), some (.int (l1)), some (.int (l2)), some (.int (l3)), d4] [] s11 Q) h ?_ ?_
        · intro s11 d4 h
          refine rx_iincP d_M_isWhole_131 (by decide) rfl ?_
          refine rx_goto (tgt := 43) d_M_isWhole_134 (by decide) ?_
          exact ih _ _ _ h
        clear h
        intro J10 hJ2 h
        refine rx_if_eq (tgt := 131) d_M_isWhole_101 (by decide) (fun hc101 => ?_) (fun hc101 => ?_)
        · rw [if_pos hc101] at h
          exact hJ2 _ _ h
        · rw [if_neg hc101] at h
          refine rx_aload_n d_M_isWhole_104 rfl ?_
          refine rx_aload_n d_M_isWhole_105 rfl ?_
          refine rx_gaf g_M_isWhole_106 (by decide) ?_
          refine rx_iload d_M_isWhole_109 rfl ?_
          obtain ⟨j12, hj12, ej12, h⟩ := og_inv (by decide) h
          refine rx_iald d_M_isWhole_111 rfl ej12 hj12 ?_
          obtain ⟨x13, s14, ex13, h⟩ := ob_inv h
          refine rx_callV1 c_M_isWhole_112 (Nat.le_of_ble_eq_true rfl) (E_M_hasOther ex13 ?_)
          refine rx_if_eq (tgt := 131) d_M_isWhole_115 (by decide) (fun hc115 => ?_) (fun hc115 => ?_)
          · rw [if_pos hc115] at h
            exact hJ2 _ _ h
          · rw [if_neg hc115] at h
            refine rx_aload_n d_M_isWhole_118 rfl ?_
            refine rx_gaf g_M_isWhole_119 (by decide) ?_
            refine rx_aload_n d_M_isWhole_122 rfl ?_
            refine rx_gaf g_M_isWhole_123 (by decide) ?_
            refine rx_iload d_M_isWhole_126 rfl ?_
            refine rx_iald d_M_isWhole_128 rfl ej12 hj12 ?_
            refine rx_iconst (v := nI 1) d_M_isWhole_129 (by decide) ?_
            obtain ⟨j15, hj15, ej15, h⟩ := og_inv (by decide) h
            refine rx_zast d_M_isWhole_130 rfl ej15 hj15 (by decide) ?_
            exact hJ2 _ _ h
      clear h
      intro J8 hJ3 h
      refine rx_if_eq (tgt := 95) d_M_isWhole_67 (by decide) (fun hc67 => ?_) (fun hc67 => ?_)
      · rw [if_pos hc67] at h
        exact hJ3 _ h
      · rw [if_neg hc67] at h
        refine rx_aload_n d_M_isWhole_70 rfl ?_
        refine rx_gaf g_M_isWhole_71 (by decide) ?_
        refine rx_iload d_M_isWhole_74 rfl ?_
        obtain ⟨j16, hj16, ej16, h⟩ := og_inv (by decide) h
        refine rx_iald d_M_isWhole_76 rfl ej16 hj16 ?_
        refine rx_bipush (v := nI 9) d_M_isWhole_77 (by decide) ?_
        refine rx_icmp_eq (tgt := 95) d_M_isWhole_79 (by decide) (fun hc79 => ?_) (fun hc79 => ?_)
        · rw [if_pos hc79] at h
          exact hJ3 _ h
        · rw [if_neg hc79] at h
          refine rx_aload_n d_M_isWhole_82 rfl ?_
          refine rx_gaf g_M_isWhole_83 (by decide) ?_
          refine rx_aload_n d_M_isWhole_86 rfl ?_
          refine rx_gaf g_M_isWhole_87 (by decide) ?_
          refine rx_iload d_M_isWhole_90 rfl ?_
          refine rx_iald d_M_isWhole_92 rfl ej16 hj16 ?_
          refine rx_iconst (v := nI 1) d_M_isWhole_93 (by decide) ?_
          obtain ⟨j17, hj17, ej17, h⟩ := og_inv (by decide) h
          refine rx_zast d_M_isWhole_94 rfl ej17 hj17 (by decide) ?_
          exact hJ3 _ h
theorem E_M_isWhole_31 {G : bm_G} {f : Nat} {l1 : Int32} {k143 : rx_S → Option (Int32 × rx_S)} {r : Int32} {sz : rx_S} {Q : bm_R → rx_S → Prop} (hq : Q (.inl (some (.int (r)))) sz) (hk143 : ∀ (d2 : Option Value) (d3 : Option Value) (d4 : Option Value) (s : rx_S), k143 s = some (r, sz) → rx G me_M_isWhole 143 [some (.ref rx_o), some (.int (l1)), d2, d3, d4] [] s Q) : ∀ (n : Nat) (l2 : Int32) (d3 : Option Value) (d4 : Option Value) (s : rx_S), D_M_isWhole_31 f l1 k143 n l2 s = some (r, sz) → rx G me_M_isWhole 31 [some (.ref rx_o), some (.int (l1)), some (.int (l2)), d3, d4] [] s Q := by
  intro n
  induction n with
  | zero =>
    intro l2 d3 d4 s h
    rw [D_M_isWhole_31] at h
    exact absurd h (by simp)
  | succ n ih =>
    intro l2 d3 d4 s h
    rw [D_M_isWhole_31] at h
    refine rx_iload_n d_M_isWhole_31 rfl ?_
    refine rx_aload_n d_M_isWhole_32 rfl ?_
    refine rx_gaf g_M_isWhole_33 (by decide) ?_
    refine rx_iload_n d_M_isWhole_36 rfl ?_
    obtain ⟨j5, hj5, ej5, h⟩ := og_inv (by decide) h
    refine rx_iald d_M_isWhole_37 rfl ej5 hj5 ?_
    refine rx_icmp_ge (tgt := 143) d_M_isWhole_38 (by decide) (fun hc38 => ?_) (fun hc38 => ?_)
    · rw [if_pos hc38] at h
      exact hk143 _ _ _ _ h
    · rw [if_neg hc38] at h
      refine rx_iconst (v := nI 0) d_M_isWhole_41 (by decide) ?_
      refine rx_istore_n d_M_isWhole_42 (by decide) ?_
      refine E_M_isWhole_43 (r := r) (sz := sz) hq ?_ _ _ _ _ h
      · intro d3 d4 s18 h
        refine rx_iincP d_M_isWhole_137 (by decide) rfl ?_
        refine rx_goto (tgt := 31) d_M_isWhole_140 (by decide) ?_
        exact ih _ _ _ _ h
theorem E_M_isWhole_147 {G : bm_G} {f : Nat} {l1 : Int32} {r : Int32} {sz : rx_S} {Q : bm_R → rx_S → Prop} (hq : Q (.inl (some (.int (r)))) sz) : ∀ (n : Nat) (l2 : Int32) (l3 : Int32) (d4 : Option Value) (s : rx_S), D_M_isWhole_147 f l1 n l2 l3 s = some (r, sz) → rx G me_M_isWhole 147 [some (.ref rx_o), some (.int (l1)), some (.int (l2)), some (.int (l3)), d4] [] s Q := by
  intro n
  induction n with
  | zero =>
    intro l2 l3 d4 s h
    rw [D_M_isWhole_147] at h
    exact absurd h (by simp)
  | succ n ih =>
    intro l2 l3 d4 s h
    rw [D_M_isWhole_147] at h
    refine rx_iload_n d_M_isWhole_147 rfl ?_
    refine rx_aload_n d_M_isWhole_148 rfl ?_
    refine rx_gaf g_M_isWhole_149 (by decide) ?_
    refine rx_iload_n d_M_isWhole_152 rfl ?_
    obtain ⟨j20, hj20, ej20, h⟩ := og_inv (by decide) h
    refine rx_iald d_M_isWhole_153 rfl ej20 hj20 ?_
    refine rx_icmp_ge (tgt := 182) d_M_isWhole_154 (by decide) (fun hc154 => ?_) (fun hc154 => ?_)
    · rw [if_pos hc154] at h
      refine rx_iload_n d_M_isWhole_182 rfl ?_
      obtain ⟨hz, h⟩ := ozb_inv h
      exact rx_zret d_M_isWhole_183 rfl (ozb_nar hz) (ox_i hq h)
    · rw [if_neg hc154] at h
      refine rx_iload_n d_M_isWhole_157 rfl ?_
      refine oj_step (P := fun J21 : Int32 → Option (Int32 × rx_S) => ∀ (x22 : Int32) (d2 : Option Value) (d4 : Option Value), J21 x22 = some (r, sz) → rx G me_M_isWhole 175 [some (.ref rx_o), some (.int (l1)), d2, some (.int (l3)), d4] [.int (x22)] s Q) h ?_ ?_
      · intro x22 d2 d4 h
        refine rx_istore_n d_M_isWhole_175 (by decide) ?_
        refine rx_iincP d_M_isWhole_176 (by decide) rfl ?_
        refine rx_goto (tgt := 147) d_M_isWhole_179 (by decide) ?_
        exact ih _ _ _ _ h
      clear h
      intro J21 hJ4 h
      refine oj_step (P := fun J23 : Unit → Option (Int32 × rx_S) => ∀ (_u : Unit) (d2 : Option Value) (d4 : Option Value), J23 () = some (r, sz) → rx G me_M_isWhole 174 [some (.ref rx_o), some (.int (l1)), d2, some (.int (l3)), d4] [] s Q) h ?_ ?_
      · intro _u d2 d4 h
        refine rx_iconst (v := nI 0) d_M_isWhole_174 (by decide) ?_
        exact hJ4 _ _ _ h
      clear h
      intro J23 hJ5 h
      refine rx_if_eq (tgt := 174) d_M_isWhole_158 (by decide) (fun hc158 => ?_) (fun hc158 => ?_)
      · rw [if_pos hc158] at h
        exact hJ5 () _ _ h
      · rw [if_neg hc158] at h
        refine rx_aload_n d_M_isWhole_161 rfl ?_
        refine rx_gaf g_M_isWhole_162 (by decide) ?_
        refine rx_iload_n d_M_isWhole_165 rfl ?_
        obtain ⟨j24, hj24, ej24, h⟩ := og_inv (by decide) h
        refine rx_zald d_M_isWhole_166 rfl ej24 hj24 ?_
        refine rx_if_eq (tgt := 174) d_M_isWhole_167 (by decide) (fun hc167 => ?_) (fun hc167 => ?_)
        · rw [if_pos hc167] at h
          exact hJ5 () _ _ h
        · rw [if_neg hc167] at h
          refine rx_iconst (v := nI 1) d_M_isWhole_170 (by decide) ?_
          refine rx_goto (tgt := 175) d_M_isWhole_171 (by decide) ?_
          exact hJ4 _ _ _ h
theorem E_M_isWhole {G : bm_G} {f : Nat} {l1 : Int32} {s sz : rx_S} {r : Int32} {Q : Int32 → rx_S → Prop} (h : D_M_isWhole f l1 s = some (r, sz)) (hq : Q r sz) : rx_Ti G me_M_isWhole [.ref rx_o, .int (l1)] s Q := by
  refine rx_meti (by decide) rfl (Nat.le_of_ble_eq_true rfl) ?_
  generalize hQ : (fun (v : bm_R) (s2 : rx_S) => ∃ x, v = .inl (some (.int x)) ∧ Q x s2) = Q2
  replace hq : Q2 (.inl (some (.int (r)))) sz := by rw [← hQ]; exact ⟨_, rfl, hq⟩
  clear hQ
  unfold D_M_isWhole at h
  refine rx_iconst (v := nI 0) d_M_isWhole_0 (by decide) ?_
  refine rx_istore_n d_M_isWhole_1 (by decide) ?_
  refine E_M_isWhole_2 (r := r) (sz := sz) hq ?_ _ _ _ _ _ h
  · intro d2 d3 d4 s4 h
    refine rx_iconst (v := nI 0) d_M_isWhole_29 (by decide) ?_
    refine rx_istore_n d_M_isWhole_30 (by decide) ?_
    refine E_M_isWhole_31 (r := r) (sz := sz) hq ?_ _ _ _ _ _ h
    · intro d2 d3 d4 s19 h
      refine rx_iconst (v := nI 1) d_M_isWhole_143 (by decide) ?_
      refine rx_istore_n d_M_isWhole_144 (by decide) ?_
      refine rx_iconst (v := nI 0) d_M_isWhole_145 (by decide) ?_
      refine rx_istore_n d_M_isWhole_146 (by decide) ?_
      refine E_M_isWhole_147 (r := r) (sz := sz) hq _ _ _ _ _ h
theorem E_M_enters {G : bm_G} {f : Nat} {l1 : Int32} {l2 : Int32} {l3 : Int32} {s sz : rx_S} {r : Int32} {Q : Int32 → rx_S → Prop} (h : D_M_enters f l1 l2 l3 s = some (r, sz)) (hq : Q r sz) : rx_Ti G me_M_enters [.ref rx_o, .int (l1), .int (l2), .int (l3)] s Q := by
  refine rx_meti (by decide) rfl (Nat.le_of_ble_eq_true rfl) ?_
  generalize hQ : (fun (v : bm_R) (s2 : rx_S) => ∃ x, v = .inl (some (.int x)) ∧ Q x s2) = Q2
  replace hq : Q2 (.inl (some (.int (r)))) sz := by rw [← hQ]; exact ⟨_, rfl, hq⟩
  clear hQ
  unfold D_M_enters at h
  refine rx_aload_n d_M_enters_0 rfl ?_
  refine rx_gaf g_M_enters_1 (by decide) ?_
  refine rx_bipush (v := nI 12) d_M_enters_4 (by decide) ?_
  refine rx_iload_n d_M_enters_6 rfl ?_
  refine rx_imul d_M_enters_7 ?_
  refine rx_iload_n d_M_enters_8 rfl ?_
  refine rx_iadd d_M_enters_9 ?_
  obtain ⟨j1, hj1, ej1, h⟩ := og_inv (by decide) h
  refine rx_iald d_M_enters_10 rfl ej1 hj1 ?_
  refine rx_bipush (v := nI 6) d_M_enters_11 (by decide) ?_
  refine rx_icmp_eq (tgt := 53) d_M_enters_13 (by decide) (fun hc13 => ?_) (fun hc13 => ?_)
  · rw [if_pos hc13] at h
    refine rx_iload_n d_M_enters_53 rfl ?_
    refine oj_step (P := fun J2 : Unit → Option (Int32 × rx_S) => ∀ (_u : Unit) (d0 : Option Value) (d1 : Option Value) (d2 : Option Value) (d4 : Option Value), J2 () = some (r, sz) → rx G me_M_enters 77 [d0, d1, d2, some (.int (l3)), d4] [] s Q2) h ?_ ?_
    · intro _u d0 d1 d2 d4 h
      refine rx_iload_n d_M_enters_77 rfl ?_
      refine oj_step (P := fun J3 : Int32 → Option (Int32 × rx_S) => ∀ (x4 : Int32) (d0 : Option Value) (d1 : Option Value) (d2 : Option Value) (d3 : Option Value) (d4 : Option Value), J3 x4 = some (r, sz) → rx G me_M_enters 86 [d0, d1, d2, d3, d4] [.int (x4)] s Q2) h ?_ ?_
      · intro x4 d0 d1 d2 d3 d4 h
        obtain ⟨hz, h⟩ := ozb_inv h
        exact rx_zret d_M_enters_86 rfl (ozb_nar hz) (ox_i hq h)
      clear h
      intro J3 hJ1 h
      refine rx_if_eq (tgt := 85) d_M_enters_78 (by decide) (fun hc78 => ?_) (fun hc78 => ?_)
      · rw [if_pos hc78] at h
        refine rx_iconst (v := nI 0) d_M_enters_85 (by decide) ?_
        exact hJ1 _ _ _ _ _ _ h
      · rw [if_neg hc78] at h
        refine rx_iconst (v := nI 1) d_M_enters_81 (by decide) ?_
        refine rx_goto (tgt := 86) d_M_enters_82 (by decide) ?_
        exact hJ1 _ _ _ _ _ _ h
    clear h
    intro J2 hJ2 h
    refine rx_if_eq (tgt := 77) d_M_enters_54 (by decide) (fun hc54 => ?_) (fun hc54 => ?_)
    · rw [if_pos hc54] at h
      exact hJ2 () _ _ _ _ h
    · rw [if_neg hc54] at h
      refine rx_aload_n d_M_enters_57 rfl ?_
      refine rx_gaf g_M_enters_58 (by decide) ?_
      refine rx_iload_n d_M_enters_61 rfl ?_
      obtain ⟨j5, hj5, ej5, h⟩ := og_inv (by decide) h
      refine rx_iald d_M_enters_62 rfl ej5 hj5 ?_
      refine rx_iload_n d_M_enters_63 rfl ?_
      refine rx_icmp_eq (tgt := 77) d_M_enters_64 (by decide) (fun hc64 => ?_) (fun hc64 => ?_)
      · rw [if_pos hc64] at h
        exact hJ2 () _ _ _ _ h
      · rw [if_neg hc64] at h
        refine rx_aload_n d_M_enters_67 rfl ?_
        refine rx_gaf g_M_enters_68 (by decide) ?_
        refine rx_iload_n d_M_enters_71 rfl ?_
        refine rx_iald d_M_enters_72 rfl ej5 hj5 ?_
        refine rx_iload_n d_M_enters_73 rfl ?_
        refine rx_icmp_ne (tgt := 87) d_M_enters_74 (by decide) (fun hc74 => ?_) (fun hc74 => ?_)
        · rw [if_neg hc74] at h
          refine rx_aload_n d_M_enters_87 rfl ?_
          refine rx_gaf g_M_enters_88 (by decide) ?_
          refine rx_iload_n d_M_enters_91 rfl ?_
          refine rx_iald d_M_enters_92 rfl ej5 hj5 ?_
          refine rx_iconst (v := (-1)) d_M_enters_93 (by decide) ?_
          refine rx_icmp_ne (tgt := 106) d_M_enters_94 (by decide) (fun hc94 => ?_) (fun hc94 => ?_)
          · rw [if_neg hc94] at h
            refine rx_aload_n d_M_enters_106 rfl ?_
            refine rx_gaf g_M_enters_107 (by decide) ?_
            refine rx_iload_n d_M_enters_110 rfl ?_
            refine rx_iald d_M_enters_111 rfl ej5 hj5 ?_
            refine rx_iconst (v := (-1)) d_M_enters_112 (by decide) ?_
            refine oj_step (P := fun J6 : Int32 → Option (Int32 × rx_S) => ∀ (x7 : Int32) (d1 : Option Value) (d4 : Option Value), J6 x7 = some (r, sz) → rx G me_M_enters 139 [some (.ref rx_o), d1, some (.int (l2)), some (.int (l3)), d4] [.int (x7)] s Q2) h ?_ ?_
            · intro x7 d1 d4 h
              refine rx_istore d_M_enters_139 (by decide) ?_
              refine rx_aload_n d_M_enters_141 rfl ?_
              refine rx_gaf g_M_enters_142 (by decide) ?_
              refine rx_iload_n d_M_enters_145 rfl ?_
              refine rx_iload_n d_M_enters_146 rfl ?_
              refine rx_iast d_M_enters_147 rfl ej5 hj5 ?_
              refine rx_aload_n d_M_enters_148 rfl ?_
              refine rx_gaf g_M_enters_149 (by decide) ?_
              refine rx_iload_n d_M_enters_152 rfl ?_
              refine rx_aload_n d_M_enters_153 rfl ?_
              refine rx_gaf g_M_enters_154 (by decide) ?_
              refine rx_iload_n d_M_enters_157 rfl ?_
              refine rx_iconst (v := nI 1) d_M_enters_158 (by decide) ?_
              refine rx_isub d_M_enters_159 ?_
              refine rx_iconst (v := nI 2) d_M_enters_160 (by decide) ?_
              obtain ⟨hy161, h⟩ := od_inv h
              refine rx_idiv d_M_enters_161 hy161 ?_
              obtain ⟨j8, hj8, ej8, h⟩ := og_inv (by decide) h
              refine rx_iald d_M_enters_162 rfl ej8 hj8 ?_
              refine rx_iast d_M_enters_163 rfl ej5 hj5 ?_
              refine rx_iload d_M_enters_164 rfl ?_
              obtain ⟨hz, h⟩ := ozb_inv h
              exact rx_zret d_M_enters_166 rfl (ozb_nar hz) (ox_i hq h)
            clear h
            intro J6 hJ3 h
            refine oj_step (P := fun J9 : Unit → Option (Int32 × rx_S) => ∀ (_u : Unit) (d1 : Option Value) (d4 : Option Value), J9 () = some (r, sz) → rx G me_M_enters 138 [some (.ref rx_o), d1, some (.int (l2)), some (.int (l3)), d4] [] s Q2) h ?_ ?_
            · intro _u d1 d4 h
              refine rx_iconst (v := nI 0) d_M_enters_138 (by decide) ?_
              exact hJ3 _ _ _ h
            clear h
            intro J9 hJ4 h
            refine rx_icmp_ne (tgt := 138) d_M_enters_113 (by decide) (fun hc113 => ?_) (fun hc113 => ?_)
            · rw [if_neg hc113] at h
              exact hJ4 () _ _ h
            · rw [if_pos hc113] at h
              refine rx_aload_n d_M_enters_116 rfl ?_
              refine rx_gaf g_M_enters_117 (by decide) ?_
              refine rx_iload_n d_M_enters_120 rfl ?_
              refine rx_iald d_M_enters_121 rfl ej5 hj5 ?_
              refine rx_iconst (v := nI 1) d_M_enters_122 (by decide) ?_
              refine rx_isub d_M_enters_123 ?_
              refine rx_iconst (v := nI 2) d_M_enters_124 (by decide) ?_
              obtain ⟨hy125, h⟩ := od_inv h
              refine rx_idiv d_M_enters_125 hy125 ?_
              refine rx_iload_n d_M_enters_126 rfl ?_
              refine rx_iconst (v := nI 1) d_M_enters_127 (by decide) ?_
              refine rx_isub d_M_enters_128 ?_
              refine rx_iconst (v := nI 2) d_M_enters_129 (by decide) ?_
              obtain ⟨hy130, h⟩ := od_inv h
              refine rx_idiv d_M_enters_130 hy130 ?_
              refine rx_icmp_ne (tgt := 138) d_M_enters_131 (by decide) (fun hc131 => ?_) (fun hc131 => ?_)
              · rw [if_neg hc131] at h
                exact hJ4 () _ _ h
              · rw [if_pos hc131] at h
                refine rx_iconst (v := nI 1) d_M_enters_134 (by decide) ?_
                refine rx_goto (tgt := 139) d_M_enters_135 (by decide) ?_
                exact hJ3 _ _ _ h
          · rw [if_pos hc94] at h
            refine rx_aload_n d_M_enters_97 rfl ?_
            refine rx_gaf g_M_enters_98 (by decide) ?_
            refine rx_iload_n d_M_enters_101 rfl ?_
            refine rx_iload_n d_M_enters_102 rfl ?_
            refine rx_iast d_M_enters_103 rfl ej5 hj5 ?_
            refine rx_iconst (v := nI 1) d_M_enters_104 (by decide) ?_
            exact rx_zret d_M_enters_105 rfl (by decide) (ox_i hq h)
        · rw [if_pos hc74] at h
          exact hJ2 () _ _ _ _ h
  · rw [if_neg hc13] at h
    refine rx_aload_n d_M_enters_16 rfl ?_
    refine rx_gaf g_M_enters_17 (by decide) ?_
    refine rx_iload_n d_M_enters_20 rfl ?_
    obtain ⟨j10, hj10, ej10, h⟩ := og_inv (by decide) h
    refine rx_iald d_M_enters_21 rfl ej10 hj10 ?_
    refine rx_iconst (v := (-1)) d_M_enters_22 (by decide) ?_
    refine oj_step (P := fun J11 : Int32 → Option (Int32 × rx_S) => ∀ (x12 : Int32) (d1 : Option Value) (d4 : Option Value), J11 x12 = some (r, sz) → rx G me_M_enters 41 [some (.ref rx_o), d1, some (.int (l2)), some (.int (l3)), d4] [.int (x12)] s Q2) h ?_ ?_
    · intro x12 d1 d4 h
      refine rx_istore d_M_enters_41 (by decide) ?_
      refine rx_aload_n d_M_enters_43 rfl ?_
      refine rx_gaf g_M_enters_44 (by decide) ?_
      refine rx_iload_n d_M_enters_47 rfl ?_
      refine rx_iload_n d_M_enters_48 rfl ?_
      refine rx_iast d_M_enters_49 rfl ej10 hj10 ?_
      refine rx_iload d_M_enters_50 rfl ?_
      obtain ⟨hz, h⟩ := ozb_inv h
      exact rx_zret d_M_enters_52 rfl (ozb_nar hz) (ox_i hq h)
    clear h
    intro J11 hJ5 h
    refine oj_step (P := fun J13 : Unit → Option (Int32 × rx_S) => ∀ (_u : Unit) (d1 : Option Value) (d4 : Option Value), J13 () = some (r, sz) → rx G me_M_enters 36 [some (.ref rx_o), d1, some (.int (l2)), some (.int (l3)), d4] [] s Q2) h ?_ ?_
    · intro _u d1 d4 h
      refine rx_iconst (v := nI 1) d_M_enters_36 (by decide) ?_
      refine rx_goto (tgt := 41) d_M_enters_37 (by decide) ?_
      exact hJ5 _ _ _ h
    clear h
    intro J13 hJ6 h
    refine rx_icmp_eq (tgt := 36) d_M_enters_23 (by decide) (fun hc23 => ?_) (fun hc23 => ?_)
    · rw [if_pos hc23] at h
      exact hJ6 () _ _ h
    · rw [if_neg hc23] at h
      refine rx_aload_n d_M_enters_26 rfl ?_
      refine rx_gaf g_M_enters_27 (by decide) ?_
      refine rx_iload_n d_M_enters_30 rfl ?_
      refine rx_iald d_M_enters_31 rfl ej10 hj10 ?_
      refine rx_iload_n d_M_enters_32 rfl ?_
      refine rx_icmp_ne (tgt := 40) d_M_enters_33 (by decide) (fun hc33 => ?_) (fun hc33 => ?_)
      · rw [if_neg hc33] at h
        refine rx_iconst (v := nI 0) d_M_enters_40 (by decide) ?_
        exact hJ5 _ _ _ h
      · rw [if_pos hc33] at h
        exact hJ6 () _ _ h
