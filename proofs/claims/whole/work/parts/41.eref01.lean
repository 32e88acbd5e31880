theorem E_M_isNumbered {G : bm_G} {f : Nat} {l1 : Int32} {s sz : rx_S} {r : Int32} {Q : Int32 → rx_S → Prop} (h : D_M_isNumbered f l1 s = some (r, sz)) (hq : Q r sz) : rx_Ti G me_M_isNumbered [.ref rx_o, .int (l1)] s Q := by
  refine rx_meti (by decide) rfl (Nat.le_of_ble_eq_true rfl) ?_
  generalize hQ : (fun (v : bm_R) (s2 : rx_S) => ∃ x, v = .inl (some (.int x)) ∧ Q x s2) = Q2
  replace hq : Q2 (.inl (some (.int (r)))) sz := by rw [← hQ]; exact ⟨_, rfl, hq⟩
  clear hQ
  unfold D_M_isNumbered at h
  refine rx_aload_n d_M_isNumbered_0 rfl ?_
  refine rx_gaf g_M_isNumbered_1 (by decide) ?_
  refine rx_iload_n d_M_isNumbered_4 rfl ?_
  obtain ⟨j1, hj1, ej1, h⟩ := og_inv (by decide) h
  refine rx_iald d_M_isNumbered_5 rfl ej1 hj1 ?_
  by_cases e6_0 : (s 9 j1) = nI 0
  · rw [if_pos e6_0] at h
    refine rx_tab (tgt := 56) d_M_isNumbered_6 0 e6_0 (by decide) (by decide) (by rfl) (by decide) ?_
    refine rx_aload_n d_M_isNumbered_56 rfl ?_
    refine rx_gaf g_M_isNumbered_57 (by decide) ?_
    refine rx_iload_n d_M_isNumbered_60 rfl ?_
    refine rx_iald d_M_isNumbered_61 rfl ej1 hj1 ?_
    refine rx_iconst (v := nI 0) d_M_isNumbered_62 (by decide) ?_
    refine rx_sipush (v := nI 500) d_M_isNumbered_63 (by decide) ?_
    obtain ⟨x2, s3, ex2, h⟩ := ob_inv h
    refine rx_callS3 c_M_isNumbered_66 (Nat.le_of_ble_eq_true rfl) (E_M_in ex2 ?_)
    refine oj_step (P := fun J4 : Int32 → rx_S → Option (Int32 × rx_S) => ∀ (x5 : Int32) (s6 : rx_S) (d0 : Option Value) (d1 : Option Value), J4 x5 s6 = some (r, sz) → rx G me_M_isNumbered 93 [d0, d1] [.int (x5)] s6 Q2) h ?_ ?_
    · intro x5 s6 d0 d1 h
      obtain ⟨hz, h⟩ := ozb_inv h
      exact rx_zret d_M_isNumbered_93 rfl (ozb_nar hz) (ox_i hq h)
    clear h
    intro J4 hJ1 h
    refine oj_step (P := fun J7 : rx_S → Option (Int32 × rx_S) => ∀ (s8 : rx_S) (d0 : Option Value) (d1 : Option Value), J7 s8 = some (r, sz) → rx G me_M_isNumbered 92 [d0, d1] [] s8 Q2) h ?_ ?_
    · intro s8 d0 d1 h
      refine rx_iconst (v := nI 0) d_M_isNumbered_92 (by decide) ?_
      exact hJ1 _ _ _ _ h
    clear h
    intro J7 hJ2 h
    refine rx_if_eq (tgt := 92) d_M_isNumbered_69 (by decide) (fun hc69 => ?_) (fun hc69 => ?_)
    · rw [if_pos hc69] at h
      exact hJ2 _ _ _ h
    · rw [if_neg hc69] at h
      refine rx_aload_n d_M_isNumbered_72 rfl ?_
      refine rx_gaf g_M_isNumbered_73 (by decide) ?_
      refine rx_iload_n d_M_isNumbered_76 rfl ?_
      refine rx_iald d_M_isNumbered_77 rfl ej1 hj1 ?_
      refine rx_iconst (v := nI 0) d_M_isNumbered_78 (by decide) ?_
      refine rx_sipush (v := nI 500) d_M_isNumbered_79 (by decide) ?_
      obtain ⟨x9, s10, ex9, h⟩ := ob_inv h
      refine rx_callS3 c_M_isNumbered_82 (Nat.le_of_ble_eq_true rfl) (E_M_in ex9 ?_)
      refine rx_if_eq (tgt := 92) d_M_isNumbered_85 (by decide) (fun hc85 => ?_) (fun hc85 => ?_)
      · rw [if_pos hc85] at h
        exact hJ2 _ _ _ h
      · rw [if_neg hc85] at h
        refine rx_iconst (v := nI 1) d_M_isNumbered_88 (by decide) ?_
        refine rx_goto (tgt := 93) d_M_isNumbered_89 (by decide) ?_
        exact hJ1 _ _ _ _ h
  rw [if_neg e6_0] at h
  by_cases e6_1 : (s 9 j1) = nI 1
  · rw [if_pos e6_1] at h
    refine rx_tab (tgt := 94) d_M_isNumbered_6 1 e6_1 (by decide) (by decide) (by rfl) (by decide) ?_
    refine rx_aload_n d_M_isNumbered_94 rfl ?_
    refine rx_gaf g_M_isNumbered_95 (by decide) ?_
    refine rx_iload_n d_M_isNumbered_98 rfl ?_
    refine rx_iald d_M_isNumbered_99 rfl ej1 hj1 ?_
    refine rx_iconst (v := nI 1) d_M_isNumbered_100 (by decide) ?_
    refine rx_bipush (v := nI 20) d_M_isNumbered_101 (by decide) ?_
    obtain ⟨x11, s12, ex11, h⟩ := ob_inv h
    refine rx_callS3 c_M_isNumbered_103 (Nat.le_of_ble_eq_true rfl) (E_M_in ex11 ?_)
    obtain ⟨hz, h⟩ := ozb_inv h
    exact rx_zret d_M_isNumbered_106 rfl (ozb_nar hz) (ox_i hq h)
  rw [if_neg e6_1] at h
  by_cases e6_2 : (s 9 j1) = nI 2
  · rw [if_pos e6_2] at h
    refine rx_tab (tgt := 107) d_M_isNumbered_6 2 e6_2 (by decide) (by decide) (by rfl) (by decide) ?_
    refine rx_aload_n d_M_isNumbered_107 rfl ?_
    refine rx_gaf g_M_isNumbered_108 (by decide) ?_
    refine rx_iload_n d_M_isNumbered_111 rfl ?_
    refine rx_iald d_M_isNumbered_112 rfl ej1 hj1 ?_
    refine rx_aload_n d_M_isNumbered_113 rfl ?_
    refine rx_gaf g_M_isNumbered_114 (by decide) ?_
    refine rx_iload_n d_M_isNumbered_117 rfl ?_
    refine rx_iald d_M_isNumbered_118 rfl ej1 hj1 ?_
    refine oj_step (P := fun J13 : Int32 → rx_S → Option (Int32 × rx_S) => ∀ (x14 : Int32) (s15 : rx_S) (d0 : Option Value) (d1 : Option Value), J13 x14 s15 = some (r, sz) → rx G me_M_isNumbered 142 [d0, d1] [.int (x14)] s15 Q2) h ?_ ?_
    · intro x14 s15 d0 d1 h
      obtain ⟨hz, h⟩ := ozb_inv h
      exact rx_zret d_M_isNumbered_142 rfl (ozb_nar hz) (ox_i hq h)
    clear h
    intro J13 hJ3 h
    refine oj_step (P := fun J16 : rx_S → Option (Int32 × rx_S) => ∀ (s17 : rx_S) (d0 : Option Value) (d1 : Option Value), J16 s17 = some (r, sz) → rx G me_M_isNumbered 141 [d0, d1] [] s17 Q2) h ?_ ?_
    · intro s17 d0 d1 h
      refine rx_iconst (v := nI 0) d_M_isNumbered_141 (by decide) ?_
      exact hJ3 _ _ _ _ h
    clear h
    intro J16 hJ4 h
    refine rx_icmp_eq (tgt := 141) d_M_isNumbered_119 (by decide) (fun hc119 => ?_) (fun hc119 => ?_)
    · rw [if_pos hc119] at h
      exact hJ4 _ _ _ h
    · rw [if_neg hc119] at h
      refine rx_aload_n d_M_isNumbered_122 rfl ?_
      refine rx_gaf g_M_isNumbered_123 (by decide) ?_
      refine rx_iload_n d_M_isNumbered_126 rfl ?_
      refine rx_iald d_M_isNumbered_127 rfl ej1 hj1 ?_
      refine rx_iconst (v := nI 1) d_M_isNumbered_128 (by decide) ?_
      refine rx_bipush (v := nI 100) d_M_isNumbered_129 (by decide) ?_
      obtain ⟨x18, s19, ex18, h⟩ := ob_inv h
      refine rx_callS3 c_M_isNumbered_131 (Nat.le_of_ble_eq_true rfl) (E_M_in ex18 ?_)
      refine rx_if_eq (tgt := 141) d_M_isNumbered_134 (by decide) (fun hc134 => ?_) (fun hc134 => ?_)
      · rw [if_pos hc134] at h
        exact hJ4 _ _ _ h
      · rw [if_neg hc134] at h
        refine rx_iconst (v := nI 1) d_M_isNumbered_137 (by decide) ?_
        refine rx_goto (tgt := 142) d_M_isNumbered_138 (by decide) ?_
        exact hJ3 _ _ _ _ h
  rw [if_neg e6_2] at h
  by_cases e6_3 : (s 9 j1) = nI 3
  · rw [if_pos e6_3] at h
    refine rx_tab (tgt := 94) d_M_isNumbered_6 3 e6_3 (by decide) (by decide) (by rfl) (by decide) ?_
    refine rx_aload_n d_M_isNumbered_94 rfl ?_
    refine rx_gaf g_M_isNumbered_95 (by decide) ?_
    refine rx_iload_n d_M_isNumbered_98 rfl ?_
    refine rx_iald d_M_isNumbered_99 rfl ej1 hj1 ?_
    refine rx_iconst (v := nI 1) d_M_isNumbered_100 (by decide) ?_
    refine rx_bipush (v := nI 20) d_M_isNumbered_101 (by decide) ?_
    obtain ⟨x20, s21, ex20, h⟩ := ob_inv h
    refine rx_callS3 c_M_isNumbered_103 (Nat.le_of_ble_eq_true rfl) (E_M_in ex20 ?_)
    obtain ⟨hz, h⟩ := ozb_inv h
    exact rx_zret d_M_isNumbered_106 rfl (ozb_nar hz) (ox_i hq h)
  rw [if_neg e6_3] at h
  by_cases e6_4 : (s 9 j1) = nI 4
  · rw [if_pos e6_4] at h
    refine rx_tab (tgt := 143) d_M_isNumbered_6 4 e6_4 (by decide) (by decide) (by rfl) (by decide) ?_
    refine rx_aload_n d_M_isNumbered_143 rfl ?_
    refine rx_gaf g_M_isNumbered_144 (by decide) ?_
    refine rx_iload_n d_M_isNumbered_147 rfl ?_
    refine rx_iald d_M_isNumbered_148 rfl ej1 hj1 ?_
    refine rx_iconst (v := nI 0) d_M_isNumbered_149 (by decide) ?_
    refine rx_iconst (v := nI 3) d_M_isNumbered_150 (by decide) ?_
    obtain ⟨x22, s23, ex22, h⟩ := ob_inv h
    refine rx_callS3 c_M_isNumbered_151 (Nat.le_of_ble_eq_true rfl) (E_M_in ex22 ?_)
    obtain ⟨hz, h⟩ := ozb_inv h
    exact rx_zret d_M_isNumbered_154 rfl (ozb_nar hz) (ox_i hq h)
  rw [if_neg e6_4] at h
  by_cases e6_5 : (s 9 j1) = nI 5
  · rw [if_pos e6_5] at h
    refine rx_tab (tgt := 179) d_M_isNumbered_6 5 e6_5 (by decide) (by decide) (by rfl) (by decide) ?_
    refine rx_iconst (v := nI 1) d_M_isNumbered_179 (by decide) ?_
    exact rx_zret d_M_isNumbered_180 rfl (by decide) (ox_i hq h)
  rw [if_neg e6_5] at h
  by_cases e6_6 : (s 9 j1) = nI 6
  · rw [if_pos e6_6] at h
    refine rx_tab (tgt := 179) d_M_isNumbered_6 6 e6_6 (by decide) (by decide) (by rfl) (by decide) ?_
    refine rx_iconst (v := nI 1) d_M_isNumbered_179 (by decide) ?_
    exact rx_zret d_M_isNumbered_180 rfl (by decide) (ox_i hq h)
  rw [if_neg e6_6] at h
  by_cases e6_7 : (s 9 j1) = nI 7
  · rw [if_pos e6_7] at h
    refine rx_tab (tgt := 155) d_M_isNumbered_6 7 e6_7 (by decide) (by decide) (by rfl) (by decide) ?_
    refine rx_aload_n d_M_isNumbered_155 rfl ?_
    refine rx_gaf g_M_isNumbered_156 (by decide) ?_
    refine rx_iload_n d_M_isNumbered_159 rfl ?_
    refine rx_iald d_M_isNumbered_160 rfl ej1 hj1 ?_
    refine rx_iconst (v := nI 0) d_M_isNumbered_161 (by decide) ?_
    refine rx_iconst (v := nI 3) d_M_isNumbered_162 (by decide) ?_
    obtain ⟨x24, s25, ex24, h⟩ := ob_inv h
    refine rx_callS3 c_M_isNumbered_163 (Nat.le_of_ble_eq_true rfl) (E_M_in ex24 ?_)
    obtain ⟨hz, h⟩ := ozb_inv h
    exact rx_zret d_M_isNumbered_166 rfl (ozb_nar hz) (ox_i hq h)
  rw [if_neg e6_7] at h
  by_cases e6_8 : (s 9 j1) = nI 8
  · rw [if_pos e6_8] at h
    refine rx_tab (tgt := 167) d_M_isNumbered_6 8 e6_8 (by decide) (by decide) (by rfl) (by decide) ?_
    refine rx_aload_n d_M_isNumbered_167 rfl ?_
    refine rx_gaf g_M_isNumbered_168 (by decide) ?_
    refine rx_iload_n d_M_isNumbered_171 rfl ?_
    refine rx_iald d_M_isNumbered_172 rfl ej1 hj1 ?_
    refine rx_iconst (v := nI 1) d_M_isNumbered_173 (by decide) ?_
    refine rx_iconst (v := nI 5) d_M_isNumbered_174 (by decide) ?_
    obtain ⟨x26, s27, ex26, h⟩ := ob_inv h
    refine rx_callS3 c_M_isNumbered_175 (Nat.le_of_ble_eq_true rfl) (E_M_in ex26 ?_)
    obtain ⟨hz, h⟩ := ozb_inv h
    exact rx_zret d_M_isNumbered_178 rfl (ozb_nar hz) (ox_i hq h)
  rw [if_neg e6_8] at h
  have hsw : ∀ j, j ≤ 8 → ¬ (s 9 j1) = nI j := by
    intro j hj
    have hj2 : j = 0 ∨ j = 1 ∨ j = 2 ∨ j = 3 ∨ j = 4 ∨ j = 5 ∨ j = 6 ∨ j = 7 ∨ j = 8 := by omega
    rcases hj2 with rfl | rfl | rfl | rfl | rfl | rfl | rfl | rfl | rfl <;> assumption
  refine rx_tableOut (tgt := 179) d_M_isNumbered_6 (sw_out 8 (by decide) hsw) (by decide) ?_
  refine rx_iconst (v := nI 1) d_M_isNumbered_179 (by decide) ?_
  exact rx_zret d_M_isNumbered_180 rfl (by decide) (ox_i hq h)
theorem E_M_isSound {G : bm_G} {f : Nat} {l1 : Int32} {l2 : Int32} {s sz : rx_S} {r : Int32} {Q : Int32 → rx_S → Prop} (h : D_M_isSound f l1 l2 s = some (r, sz)) (hq : Q r sz) : rx_Ti G me_M_isSound [.ref rx_o, .int (l1), .int (l2)] s Q := by
  refine rx_meti (by decide) rfl (Nat.le_of_ble_eq_true rfl) ?_
  generalize hQ : (fun (v : bm_R) (s2 : rx_S) => ∃ x, v = .inl (some (.int x)) ∧ Q x s2) = Q2
  replace hq : Q2 (.inl (some (.int (r)))) sz := by rw [← hQ]; exact ⟨_, rfl, hq⟩
  clear hQ
  unfold D_M_isSound at h
  refine rx_bipush (v := nI 12) d_M_isSound_0 (by decide) ?_
  refine rx_iload_n d_M_isSound_2 rfl ?_
  refine rx_imul d_M_isSound_3 ?_
  refine rx_iload_n d_M_isSound_4 rfl ?_
  refine rx_iadd d_M_isSound_5 ?_
  refine rx_istore_n d_M_isSound_6 (by decide) ?_
  refine rx_aload_n d_M_isSound_7 rfl ?_
  refine rx_gaf g_M_isSound_8 (by decide) ?_
  refine rx_iload_n d_M_isSound_11 rfl ?_
  obtain ⟨j1, hj1, ej1, h⟩ := og_inv (by decide) h
  refine rx_iald d_M_isSound_12 rfl ej1 hj1 ?_
  refine rx_istore d_M_isSound_13 (by decide) ?_
  refine rx_aload_n d_M_isSound_15 rfl ?_
  refine rx_gaf g_M_isSound_16 (by decide) ?_
  refine rx_iload_n d_M_isSound_19 rfl ?_
  obtain ⟨j2, hj2, ej2, h⟩ := og_inv (by decide) h
  refine rx_iald d_M_isSound_20 rfl ej2 hj2 ?_
  refine rx_iconst (v := nI 1) d_M_isSound_21 (by decide) ?_
  refine rx_isub d_M_isSound_22 ?_
  refine rx_istore d_M_isSound_23 (by decide) ?_
  refine rx_iload d_M_isSound_25 rfl ?_
  refine rx_iconst (v := nI 4) d_M_isSound_27 (by decide) ?_
  refine oj_step (P := fun J3 : Int32 → rx_S → Option (Int32 × rx_S) => ∀ (x4 : Int32) (s5 : rx_S) (d1 : Option Value) (d6 : Option Value) (d7 : Option Value) (d8 : Option Value), J3 x4 s5 = some (r, sz) → rx G me_M_isSound 70 [some (.ref rx_o), d1, some (.int (l2)), some (.int (((nI 12) * l1) + l2)), some (.int (s 9 j1)), some (.int ((s 7 j2) - (nI 1))), d6, d7, d8] [.int (x4)] s5 Q2) h ?_ ?_
  · intro x4 s5 d1 d6 d7 d8 h
    refine rx_istore d_M_isSound_70 (by decide) ?_
    refine rx_iload d_M_isSound_72 rfl ?_
    refine rx_bipush (v := nI 9) d_M_isSound_74 (by decide) ?_
    refine oj_step (P := fun J6 : Int32 → rx_S → Option (Int32 × rx_S) => ∀ (x7 : Int32) (s8 : rx_S) (d1 : Option Value) (d7 : Option Value) (d8 : Option Value), J6 x7 s8 = some (r, sz) → rx G me_M_isSound 101 [some (.ref rx_o), d1, some (.int (l2)), some (.int (((nI 12) * l1) + l2)), some (.int (s 9 j1)), some (.int ((s 7 j2) - (nI 1))), some (.int (x4)), d7, d8] [.int (x7)] s8 Q2) h ?_ ?_
    · intro x7 s8 d1 d7 d8 h
      refine rx_istore d_M_isSound_101 (by decide) ?_
      refine rx_iload d_M_isSound_103 rfl ?_
      refine rx_bipush (v := nI 8) d_M_isSound_105 (by decide) ?_
      refine oj_step (P := fun J9 : Int32 → rx_S → Option (Int32 × rx_S) => ∀ (x10 : Int32) (s11 : rx_S) (d1 : Option Value) (d2 : Option Value) (d4 : Option Value) (d5 : Option Value) (d8 : Option Value), J9 x10 s11 = some (r, sz) → rx G me_M_isSound 157 [some (.ref rx_o), d1, d2, some (.int (((nI 12) * l1) + l2)), d4, d5, some (.int (x4)), some (.int (x7)), d8] [.int (x10)] s11 Q2) h ?_ ?_
      · intro x10 s11 d1 d2 d4 d5 d8 h
        refine rx_istore d_M_isSound_157 (by decide) ?_
        refine rx_aload_n d_M_isSound_159 rfl ?_
        refine rx_iload_n d_M_isSound_160 rfl ?_
        obtain ⟨x12, s13, ex12, h⟩ := ob_inv h
        refine rx_callV1 c_M_isSound_161 (Nat.le_of_ble_eq_true rfl) (E_M_isNumbered ex12 ?_)
        refine oj_step (P := fun J14 : Int32 → Option (Int32 × rx_S) => ∀ (x15 : Int32) (d0 : Option Value) (d1 : Option Value) (d2 : Option Value) (d3 : Option Value) (d4 : Option Value) (d5 : Option Value) (d6 : Option Value) (d7 : Option Value) (d8 : Option Value), J14 x15 = some (r, sz) → rx G me_M_isSound 187 [d0, d1, d2, d3, d4, d5, d6, d7, d8] [.int (x15)] s13 Q2) h ?_ ?_
        · intro x15 d0 d1 d2 d3 d4 d5 d6 d7 d8 h
          obtain ⟨hz, h⟩ := ozb_inv h
          exact rx_zret d_M_isSound_187 rfl (ozb_nar hz) (ox_i hq h)
        clear h
        intro J14 hJ1 h
        refine oj_step (P := fun J16 : Unit → Option (Int32 × rx_S) => ∀ (_u : Unit) (d0 : Option Value) (d1 : Option Value) (d2 : Option Value) (d3 : Option Value) (d4 : Option Value) (d5 : Option Value) (d6 : Option Value) (d7 : Option Value) (d8 : Option Value), J16 () = some (r, sz) → rx G me_M_isSound 186 [d0, d1, d2, d3, d4, d5, d6, d7, d8] [] s13 Q2) h ?_ ?_
        · intro _u d0 d1 d2 d3 d4 d5 d6 d7 d8 h
          refine rx_iconst (v := nI 0) d_M_isSound_186 (by decide) ?_
          exact hJ1 _ _ _ _ _ _ _ _ _ _ h
        clear h
        intro J16 hJ2 h
        refine rx_if_eq (tgt := 186) d_M_isSound_164 (by decide) (fun hc164 => ?_) (fun hc164 => ?_)
        · rw [if_pos hc164] at h
          exact hJ2 () _ _ _ _ _ _ _ _ _ h
        · rw [if_neg hc164] at h
          refine rx_iload d_M_isSound_167 rfl ?_
          refine rx_if_eq (tgt := 186) d_M_isSound_169 (by decide) (fun hc169 => ?_) (fun hc169 => ?_)
          · rw [if_pos hc169] at h
            exact hJ2 () _ _ _ _ _ _ _ _ _ h
          · rw [if_neg hc169] at h
            refine rx_iload d_M_isSound_172 rfl ?_
            refine rx_if_eq (tgt := 186) d_M_isSound_174 (by decide) (fun hc174 => ?_) (fun hc174 => ?_)
            · rw [if_pos hc174] at h
              exact hJ2 () _ _ _ _ _ _ _ _ _ h
            · rw [if_neg hc174] at h
              refine rx_iload d_M_isSound_177 rfl ?_
              refine rx_if_eq (tgt := 186) d_M_isSound_179 (by decide) (fun hc179 => ?_) (fun hc179 => ?_)
              · rw [if_pos hc179] at h
                exact hJ2 () _ _ _ _ _ _ _ _ _ h
              · rw [if_neg hc179] at h
                refine rx_iconst (v := nI 1) d_M_isSound_182 (by decide) ?_
                refine rx_goto (tgt := 187) d_M_isSound_183 (by decide) ?_
                exact hJ1 _ _ _ _ _ _ _ _ _ _ h
      clear h
      intro J9 hJ3 h
      refine rx_icmp_ne (tgt := 126) d_M_isSound_107 (by decide) (fun hc107 => ?_) (fun hc107 => ?_)
      · rw [if_neg hc107] at h
        refine rx_aload_n d_M_isSound_126 rfl ?_
        refine rx_iload d_M_isSound_127 rfl ?_
        obtain ⟨x19, s20, ex19, h⟩ := ob_inv h
        refine rx_callV1 c_M_isSound_129 (Nat.le_of_ble_eq_true rfl) (E_M_hasOther ex19 ?_)
        refine oj_step (P := fun J21 : rx_S → Option (Int32 × rx_S) => ∀ (s22 : rx_S) (d1 : Option Value) (d2 : Option Value) (d4 : Option Value) (d5 : Option Value) (d8 : Option Value), J21 s22 = some (r, sz) → rx G me_M_isSound 152 [some (.ref rx_o), d1, d2, some (.int (((nI 12) * l1) + l2)), d4, d5, some (.int (x4)), some (.int (x7)), d8] [] s22 Q2) h ?_ ?_
        · intro s22 d1 d2 d4 d5 d8 h
          refine rx_iconst (v := nI 1) d_M_isSound_152 (by decide) ?_
          refine rx_goto (tgt := 157) d_M_isSound_153 (by decide) ?_
          exact hJ3 _ _ _ _ _ _ _ h
        clear h
        intro J21 hJ4 h
        refine rx_if_eq (tgt := 152) d_M_isSound_132 (by decide) (fun hc132 => ?_) (fun hc132 => ?_)
        · rw [if_pos hc132] at h
          exact hJ4 _ _ _ _ _ _ h
        · rw [if_neg hc132] at h
          refine rx_aload_n d_M_isSound_135 rfl ?_
          refine rx_gaf g_M_isSound_136 (by decide) ?_
          refine rx_iload_n d_M_isSound_139 rfl ?_
          refine rx_iald d_M_isSound_140 rfl ej1 hj1 ?_
          refine rx_iload_n d_M_isSound_141 rfl ?_
          refine rx_iconst (v := nI 1) d_M_isSound_142 (by decide) ?_
          refine rx_iadd d_M_isSound_143 ?_
          refine rx_iload d_M_isSound_144 rfl ?_
          obtain ⟨x23, s24, ex23, h⟩ := ob_inv h
          refine rx_callS3 c_M_isSound_146 (Nat.le_of_ble_eq_true rfl) (E_M_in ex23 ?_)
          refine rx_if_eq (tgt := 156) d_M_isSound_149 (by decide) (fun hc149 => ?_) (fun hc149 => ?_)
          · rw [if_pos hc149] at h
            refine rx_iconst (v := nI 0) d_M_isSound_156 (by decide) ?_
            exact hJ3 _ _ _ _ _ _ _ h
          · rw [if_neg hc149] at h
            exact hJ4 _ _ _ _ _ _ h
      · rw [if_pos hc107] at h
        refine rx_aload_n d_M_isSound_110 rfl ?_
        refine rx_gaf g_M_isSound_111 (by decide) ?_
        refine rx_iload_n d_M_isSound_114 rfl ?_
        refine rx_iald d_M_isSound_115 rfl ej1 hj1 ?_
        refine rx_iconst (v := nI 0) d_M_isSound_116 (by decide) ?_
        refine rx_iload_n d_M_isSound_117 rfl ?_
        refine rx_iconst (v := nI 1) d_M_isSound_118 (by decide) ?_
        refine rx_isub d_M_isSound_119 ?_
        obtain ⟨x17, s18, ex17, h⟩ := ob_inv h
        refine rx_callS3 c_M_isSound_120 (Nat.le_of_ble_eq_true rfl) (E_M_in ex17 ?_)
        refine rx_goto (tgt := 157) d_M_isSound_123 (by decide) ?_
        exact hJ3 _ _ _ _ _ _ _ h
    clear h
    intro J6 hJ5 h
    refine oj_step (P := fun J25 : rx_S → Option (Int32 × rx_S) => ∀ (s26 : rx_S) (d1 : Option Value) (d7 : Option Value) (d8 : Option Value), J25 s26 = some (r, sz) → rx G me_M_isSound 96 [some (.ref rx_o), d1, some (.int (l2)), some (.int (((nI 12) * l1) + l2)), some (.int (s 9 j1)), some (.int ((s 7 j2) - (nI 1))), some (.int (x4)), d7, d8] [] s26 Q2) h ?_ ?_
    · intro s26 d1 d7 d8 h
      refine rx_iconst (v := nI 1) d_M_isSound_96 (by decide) ?_
      refine rx_goto (tgt := 101) d_M_isSound_97 (by decide) ?_
      exact hJ5 _ _ _ _ _ h
    clear h
    intro J25 hJ6 h
    refine rx_icmp_eq (tgt := 96) d_M_isSound_76 (by decide) (fun hc76 => ?_) (fun hc76 => ?_)
    · rw [if_pos hc76] at h
      exact hJ6 _ _ _ _ h
    · rw [if_neg hc76] at h
      refine rx_aload_n d_M_isSound_79 rfl ?_
      refine rx_gaf g_M_isSound_80 (by decide) ?_
      refine rx_iload_n d_M_isSound_83 rfl ?_
      refine rx_iald d_M_isSound_84 rfl ej1 hj1 ?_
      refine rx_iload_n d_M_isSound_85 rfl ?_
      refine rx_iconst (v := nI 1) d_M_isSound_86 (by decide) ?_
      refine rx_iadd d_M_isSound_87 ?_
      refine rx_iload d_M_isSound_88 rfl ?_
      obtain ⟨x27, s28, ex27, h⟩ := ob_inv h
      refine rx_callS3 c_M_isSound_90 (Nat.le_of_ble_eq_true rfl) (E_M_in ex27 ?_)
      refine rx_if_eq (tgt := 100) d_M_isSound_93 (by decide) (fun hc93 => ?_) (fun hc93 => ?_)
      · rw [if_pos hc93] at h
        refine rx_iconst (v := nI 0) d_M_isSound_100 (by decide) ?_
        exact hJ5 _ _ _ _ _ h
      · rw [if_neg hc93] at h
        exact hJ6 _ _ _ _ h
  clear h
  intro J3 hJ7 h
  refine oj_step (P := fun J29 : rx_S → Option (Int32 × rx_S) => ∀ (s30 : rx_S) (d1 : Option Value) (d6 : Option Value) (d7 : Option Value) (d8 : Option Value), J29 s30 = some (r, sz) → rx G me_M_isSound 65 [some (.ref rx_o), d1, some (.int (l2)), some (.int (((nI 12) * l1) + l2)), some (.int (s 9 j1)), some (.int ((s 7 j2) - (nI 1))), d6, d7, d8] [] s30 Q2) h ?_ ?_
  · intro s30 d1 d6 d7 d8 h
    refine rx_iconst (v := nI 1) d_M_isSound_65 (by decide) ?_
    refine rx_goto (tgt := 70) d_M_isSound_66 (by decide) ?_
    exact hJ7 _ _ _ _ _ _ h
  clear h
  intro J29 hJ8 h
  refine rx_icmp_gt (tgt := 65) d_M_isSound_28 (by decide) (fun hc28 => ?_) (fun hc28 => ?_)
  · rw [if_pos hc28] at h
    exact hJ8 _ _ _ _ _ h
  · rw [if_neg hc28] at h
    refine rx_aload_n d_M_isSound_31 rfl ?_
    refine rx_iload_n d_M_isSound_32 rfl ?_
    refine rx_aload_n d_M_isSound_33 rfl ?_
    refine rx_gaf g_M_isSound_34 (by decide) ?_
    refine rx_iload_n d_M_isSound_37 rfl ?_
    refine rx_iald d_M_isSound_38 rfl ej1 hj1 ?_
    obtain ⟨x31, s32, ex31, h⟩ := ob_inv h
    refine rx_callV2 c_M_isSound_39 (Nat.le_of_ble_eq_true rfl) (E_M_hasClass ex31 ?_)
    refine oj_step (P := fun J33 : rx_S → Option (Int32 × rx_S) => ∀ (s34 : rx_S) (d1 : Option Value) (d6 : Option Value) (d7 : Option Value) (d8 : Option Value), J33 s34 = some (r, sz) → rx G me_M_isSound 69 [some (.ref rx_o), d1, some (.int (l2)), some (.int (((nI 12) * l1) + l2)), some (.int (s 9 j1)), some (.int ((s 7 j2) - (nI 1))), d6, d7, d8] [] s34 Q2) h ?_ ?_
    · intro s34 d1 d6 d7 d8 h
      refine rx_iconst (v := nI 0) d_M_isSound_69 (by decide) ?_
      exact hJ7 _ _ _ _ _ _ h
    clear h
    intro J33 hJ9 h
    refine rx_if_eq (tgt := 69) d_M_isSound_42 (by decide) (fun hc42 => ?_) (fun hc42 => ?_)
    · rw [if_pos hc42] at h
      exact hJ9 _ _ _ _ _ h
    · rw [if_neg hc42] at h
      refine rx_iload d_M_isSound_45 rfl ?_
      refine rx_iconst (v := nI 2) d_M_isSound_47 (by decide) ?_
      refine rx_icmp_ne (tgt := 65) d_M_isSound_48 (by decide) (fun hc48 => ?_) (fun hc48 => ?_)
      · rw [if_neg hc48] at h
        exact hJ8 _ _ _ _ _ h
      · rw [if_pos hc48] at h
        refine rx_aload_n d_M_isSound_51 rfl ?_
        refine rx_iload_n d_M_isSound_52 rfl ?_
        refine rx_aload_n d_M_isSound_53 rfl ?_
        refine rx_gaf g_M_isSound_54 (by decide) ?_
        refine rx_iload_n d_M_isSound_57 rfl ?_
        refine rx_iald d_M_isSound_58 rfl ej1 hj1 ?_
        obtain ⟨x35, s36, ex35, h⟩ := ob_inv h
        refine rx_callV2 c_M_isSound_59 (Nat.le_of_ble_eq_true rfl) (E_M_hasClass ex35 ?_)
        refine rx_if_eq (tgt := 69) d_M_isSound_62 (by decide) (fun hc62 => ?_) (fun hc62 => ?_)
        · rw [if_pos hc62] at h
          exact hJ9 _ _ _ _ _ h
        · rw [if_neg hc62] at h
          exact hJ8 _ _ _ _ _ h
