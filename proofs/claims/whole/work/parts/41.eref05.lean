theorem E_M_release_55 {G : bm_G} {f : Nat} {l1 : Int32} {k90 : Int32 → rx_S → Option (Int32 × rx_S)} {r : Int32} {sz : rx_S} {Q : bm_R → rx_S → Prop} (hq : Q (.inl (some (.int (r)))) sz) (hk90 : ∀ (q2 : Int32) (d3 : Option Value) (s : rx_S), k90 q2 s = some (r, sz) → rx G me_M_release 90 [some (.ref rx_o), some (.int (l1)), some (.int (q2)), d3] [] s Q) : ∀ (n : Nat) (l2 : Int32) (l3 : Int32) (s : rx_S), D_M_release_55 f l1 k90 n l2 l3 s = some (r, sz) → rx G me_M_release 55 [some (.ref rx_o), some (.int (l1)), some (.int (l2)), some (.int (l3))] [] s Q := by
  intro n
  induction n with
  | zero =>
    intro l2 l3 s h
    rw [D_M_release_55] at h
    exact absurd h (by simp)
  | succ n ih =>
    intro l2 l3 s h
    rw [D_M_release_55] at h
    refine rx_iload_n d_M_release_55 rfl ?_
    refine rx_aload_n d_M_release_56 rfl ?_
    refine rx_gaf g_M_release_57 (by decide) ?_
    refine rx_iload_n d_M_release_60 rfl ?_
    obtain ⟨j12, hj12, ej12, h⟩ := og_inv (by decide) h
    refine rx_iald d_M_release_61 rfl ej12 hj12 ?_
    refine rx_icmp_ge (tgt := 90) d_M_release_62 (by decide) (fun hc62 => ?_) (fun hc62 => ?_)
    · rw [if_pos hc62] at h
      exact hk90 _ _ _ h
    · rw [if_neg hc62] at h
      refine rx_iload_n d_M_release_65 rfl ?_
      refine oj_step (P := fun J13 : Int32 → rx_S → Option (Int32 × rx_S) => ∀ (x14 : Int32) (s15 : rx_S) (d2 : Option Value), J13 x14 s15 = some (r, sz) → rx G me_M_release 83 [some (.ref rx_o), some (.int (l1)), d2, some (.int (l3))] [.int (x14)] s15 Q) h ?_ ?_
      · intro x14 s15 d2 h
        refine rx_istore_n d_M_release_83 (by decide) ?_
        refine rx_iincP d_M_release_84 (by decide) rfl ?_
        refine rx_goto (tgt := 55) d_M_release_87 (by decide) ?_
        exact ih _ _ _ h
      clear h
      intro J13 hJ1 h
      refine oj_step (P := fun J16 : rx_S → Option (Int32 × rx_S) => ∀ (s17 : rx_S) (d2 : Option Value), J16 s17 = some (r, sz) → rx G me_M_release 82 [some (.ref rx_o), some (.int (l1)), d2, some (.int (l3))] [] s17 Q) h ?_ ?_
      · intro s17 d2 h
        refine rx_iconst (v := nI 0) d_M_release_82 (by decide) ?_
        exact hJ1 _ _ _ h
      clear h
      intro J16 hJ2 h
      refine rx_if_eq (tgt := 82) d_M_release_66 (by decide) (fun hc66 => ?_) (fun hc66 => ?_)
      · rw [if_pos hc66] at h
        exact hJ2 _ _ h
      · rw [if_neg hc66] at h
        refine rx_aload_n d_M_release_69 rfl ?_
        refine rx_iload_n d_M_release_70 rfl ?_
        refine rx_iload_n d_M_release_71 rfl ?_
        obtain ⟨x18, s19, ex18, h⟩ := ob_inv h
        refine rx_callV2 c_M_release_72 (Nat.le_of_ble_eq_true rfl) (E_M_isSound ex18 ?_)
        refine rx_if_eq (tgt := 82) d_M_release_75 (by decide) (fun hc75 => ?_) (fun hc75 => ?_)
        · rw [if_pos hc75] at h
          exact hJ2 _ _ h
        · rw [if_neg hc75] at h
          refine rx_iconst (v := nI 1) d_M_release_78 (by decide) ?_
          refine rx_goto (tgt := 83) d_M_release_79 (by decide) ?_
          exact hJ1 _ _ _ h
theorem E_M_release {G : bm_G} {f : Nat} {l1 : Int32} {s sz : rx_S} {r : Int32} {Q : Int32 → rx_S → Prop} (h : D_M_release f l1 s = some (r, sz)) (hq : Q r sz) : rx_Ti G me_M_release [.ref rx_o, .int (l1)] s Q := by
  refine rx_meti (by decide) rfl (Nat.le_of_ble_eq_true rfl) ?_
  generalize hQ : (fun (v : bm_R) (s2 : rx_S) => ∃ x, v = .inl (some (.int x)) ∧ Q x s2) = Q2
  replace hq : Q2 (.inl (some (.int (r)))) sz := by rw [← hQ]; exact ⟨_, rfl, hq⟩
  clear hQ
  unfold D_M_release at h
  refine rx_aload_n d_M_release_0 rfl ?_
  refine rx_iload_n d_M_release_1 rfl ?_
  refine rx_iconst (v := nI 0) d_M_release_2 (by decide) ?_
  refine rx_iconst (v := nI 3) d_M_release_3 (by decide) ?_
  obtain ⟨x1, s2, ex1, h⟩ := ob_inv h
  refine rx_callS3 c_M_release_4 (Nat.le_of_ble_eq_true rfl) (E_M_in ex1 ?_)
  refine rx_iload_n d_M_release_7 rfl ?_
  refine rx_iconst (v := nI 0) d_M_release_8 (by decide) ?_
  refine rx_iconst (v := nI 3) d_M_release_9 (by decide) ?_
  obtain ⟨x3, s4, ex3, h⟩ := ob_inv h
  refine rx_callS3 c_M_release_10 (Nat.le_of_ble_eq_true rfl) (E_M_in ex3 ?_)
  refine oj_step (P := fun J5 : Int32 → Option (Int32 × rx_S) => ∀ (x6 : Int32) (d2 : Option Value) (d3 : Option Value), J5 x6 = some (r, sz) → rx G me_M_release 30 [some (.ref rx_o), some (.int (l1)), d2, d3] [.int (x6), .int (x1), .ref rx_o] s4 Q2) h ?_ ?_
  · intro x6 d2 d3 h
    obtain ⟨x7, s8, ex7, h⟩ := ob_inv h
    refine rx_callV2 c_M_release_30 (Nat.le_of_ble_eq_true rfl) (E_M_goes ex7 ?_)
    refine rx_if_ne (tgt := 38) d_M_release_33 (by decide) (fun hc33 => ?_) (fun hc33 => ?_)
    · rw [if_neg hc33] at h
      refine rx_aload_n d_M_release_38 rfl ?_
      refine rx_gaf g_M_release_39 (by decide) ?_
      refine rx_iload_n d_M_release_42 rfl ?_
      obtain ⟨j9, hj9, ej9, h⟩ := og_inv (by decide) h
      refine rx_iald d_M_release_43 rfl ej9 hj9 ?_
      refine oj_step (P := fun J10 : Int32 → Option (Int32 × rx_S) => ∀ (x11 : Int32) (d2 : Option Value) (d3 : Option Value), J10 x11 = some (r, sz) → rx G me_M_release 52 [some (.ref rx_o), some (.int (l1)), d2, d3] [.int (x11)] s8 Q2) h ?_ ?_
      · intro x11 d2 d3 h
        refine rx_istore_n d_M_release_52 (by decide) ?_
        refine rx_iconst (v := nI 0) d_M_release_53 (by decide) ?_
        refine rx_istore_n d_M_release_54 (by decide) ?_
        refine E_M_release_55 (r := r) (sz := sz) hq ?_ _ _ _ _ h
        · intro v20 d3 s21 h
          refine rx_iload_n d_M_release_90 rfl ?_
          refine oj_step (P := fun J22 : Int32 → rx_S → Option (Int32 × rx_S) => ∀ (x23 : Int32) (s24 : rx_S) (d2 : Option Value) (d3 : Option Value), J22 x23 s24 = some (r, sz) → rx G me_M_release 147 [some (.ref rx_o), some (.int (l1)), d2, d3] [.int (x23)] s24 Q2) h ?_ ?_
          · intro x23 s24 d2 d3 h
            refine rx_istore_n d_M_release_147 (by decide) ?_
            refine rx_aload_n d_M_release_148 rfl ?_
            refine rx_gaf g_M_release_149 (by decide) ?_
            refine rx_iload_n d_M_release_152 rfl ?_
            refine rx_iload_n d_M_release_153 rfl ?_
            refine oj_step (P := fun J25 : Int32 → Option (Int32 × rx_S) => ∀ (x26 : Int32) (d0 : Option Value) (d1 : Option Value) (d2 : Option Value), J25 x26 = some (r, sz) → rx G me_M_release 162 [d0, d1, d2, some (.int (x23))] [.int (x26), .int (l1), .ref (rx_a 8)] s24 Q2) h ?_ ?_
            · intro x26 d0 d1 d2 h
              obtain ⟨hz162, h⟩ := ozb_inv h
              refine rx_zast d_M_release_162 rfl ej9 hj9 (ozb_vn hz162) ?_
              refine rx_iload_n d_M_release_163 rfl ?_
              exact rx_iret d_M_release_164 rfl (ox_i hq h)
            clear h
            intro J25 hJ3 h
            refine rx_if_ne (tgt := 161) d_M_release_154 (by decide) (fun hc154 => ?_) (fun hc154 => ?_)
            · rw [if_neg hc154] at h
              refine rx_iconst (v := nI 0) d_M_release_161 (by decide) ?_
              exact hJ3 _ _ _ _ h
            · rw [if_pos hc154] at h
              refine rx_iconst (v := nI 1) d_M_release_157 (by decide) ?_
              refine rx_goto (tgt := 162) d_M_release_158 (by decide) ?_
              exact hJ3 _ _ _ _ h
          clear h
          intro J22 hJ4 h
          refine rx_if_ne (tgt := 98) d_M_release_91 (by decide) (fun hc91 => ?_) (fun hc91 => ?_)
          · rw [if_neg hc91] at h
            refine rx_aload_n d_M_release_98 rfl ?_
            refine rx_iload_n d_M_release_99 rfl ?_
            obtain ⟨x27, s28, ex27, h⟩ := ob_inv h
            refine rx_callV1 c_M_release_100 (Nat.le_of_ble_eq_true rfl) (E_M_isWhole ex27 ?_)
            refine rx_if_ne (tgt := 110) d_M_release_103 (by decide) (fun hc103 => ?_) (fun hc103 => ?_)
            · rw [if_neg hc103] at h
              refine rx_aload_n d_M_release_110 rfl ?_
              refine rx_iload_n d_M_release_111 rfl ?_
              obtain ⟨x29, s30, ex29, h⟩ := ob_inv h
              refine rx_callV1 c_M_release_112 (Nat.le_of_ble_eq_true rfl) (E_M_branches ex29 ?_)
              refine rx_if_ne (tgt := 122) d_M_release_115 (by decide) (fun hc115 => ?_) (fun hc115 => ?_)
              · rw [if_neg hc115] at h
                refine rx_aload_n d_M_release_122 rfl ?_
                refine rx_iload_n d_M_release_123 rfl ?_
                obtain ⟨x31, s32, ex31, h⟩ := ob_inv h
                refine rx_callV1 c_M_release_124 (Nat.le_of_ble_eq_true rfl) (E_M_measures ex31 ?_)
                refine rx_if_ne (tgt := 134) d_M_release_127 (by decide) (fun hc127 => ?_) (fun hc127 => ?_)
                · rw [if_neg hc127] at h
                  refine rx_aload_n d_M_release_134 rfl ?_
                  refine rx_iload_n d_M_release_135 rfl ?_
                  obtain ⟨x33, s34, ex33, h⟩ := ob_inv h
                  refine rx_callV1 c_M_release_136 (Nat.le_of_ble_eq_true rfl) (E_M_hasUnits ex33 ?_)
                  refine rx_if_ne (tgt := 146) d_M_release_139 (by decide) (fun hc139 => ?_) (fun hc139 => ?_)
                  · rw [if_neg hc139] at h
                    refine rx_iconst (v := nI 0) d_M_release_146 (by decide) ?_
                    exact hJ4 _ _ _ _ h
                  · rw [if_pos hc139] at h
                    refine rx_iconst (v := nI 5) d_M_release_142 (by decide) ?_
                    refine rx_goto (tgt := 147) d_M_release_143 (by decide) ?_
                    exact hJ4 _ _ _ _ h
                · rw [if_pos hc127] at h
                  refine rx_iconst (v := nI 4) d_M_release_130 (by decide) ?_
                  refine rx_goto (tgt := 147) d_M_release_131 (by decide) ?_
                  exact hJ4 _ _ _ _ h
              · rw [if_pos hc115] at h
                refine rx_iconst (v := nI 3) d_M_release_118 (by decide) ?_
                refine rx_goto (tgt := 147) d_M_release_119 (by decide) ?_
                exact hJ4 _ _ _ _ h
            · rw [if_pos hc103] at h
              refine rx_iconst (v := nI 2) d_M_release_106 (by decide) ?_
              refine rx_goto (tgt := 147) d_M_release_107 (by decide) ?_
              exact hJ4 _ _ _ _ h
          · rw [if_pos hc91] at h
            refine rx_iconst (v := nI 1) d_M_release_94 (by decide) ?_
            refine rx_goto (tgt := 147) d_M_release_95 (by decide) ?_
            exact hJ4 _ _ _ _ h
      clear h
      intro J10 hJ5 h
      refine rx_if_le (tgt := 51) d_M_release_44 (by decide) (fun hc44 => ?_) (fun hc44 => ?_)
      · rw [if_pos hc44] at h
        refine rx_iconst (v := nI 0) d_M_release_51 (by decide) ?_
        exact hJ5 _ _ _ h
      · rw [if_neg hc44] at h
        refine rx_iconst (v := nI 1) d_M_release_47 (by decide) ?_
        refine rx_goto (tgt := 52) d_M_release_48 (by decide) ?_
        exact hJ5 _ _ _ h
    · rw [if_pos hc33] at h
      refine rx_iconst (v := nI 0) d_M_release_36 (by decide) ?_
      exact rx_iret d_M_release_37 rfl (ox_i hq h)
  clear h
  intro J5 hJ6 h
  refine oj_step (P := fun J35 : Unit → Option (Int32 × rx_S) => ∀ (_u : Unit) (d2 : Option Value) (d3 : Option Value), J35 () = some (r, sz) → rx G me_M_release 29 [some (.ref rx_o), some (.int (l1)), d2, d3] [.int (x1), .ref rx_o] s4 Q2) h ?_ ?_
  · intro _u d2 d3 h
    refine rx_iconst (v := nI 0) d_M_release_29 (by decide) ?_
    exact hJ6 _ _ _ h
  clear h
  intro J35 hJ7 h
  refine rx_if_eq (tgt := 29) d_M_release_13 (by decide) (fun hc13 => ?_) (fun hc13 => ?_)
  · rw [if_pos hc13] at h
    exact hJ7 () _ _ h
  · rw [if_neg hc13] at h
    refine rx_aload_n d_M_release_16 rfl ?_
    refine rx_gaf g_M_release_17 (by decide) ?_
    refine rx_iload_n d_M_release_20 rfl ?_
    obtain ⟨j36, hj36, ej36, h⟩ := og_inv (by decide) h
    refine rx_zald d_M_release_21 rfl ej36 hj36 ?_
    refine rx_if_ne (tgt := 29) d_M_release_22 (by decide) (fun hc22 => ?_) (fun hc22 => ?_)
    · rw [if_neg hc22] at h
      exact hJ7 () _ _ h
    · rw [if_pos hc22] at h
      refine rx_iconst (v := nI 1) d_M_release_25 (by decide) ?_
      refine rx_goto (tgt := 30) d_M_release_26 (by decide) ?_
      exact hJ6 _ _ _ h
theorem E_M_isOn {G : bm_G} {f : Nat} {l1 : Int32} {s sz : rx_S} {r : Int32} {Q : Int32 → rx_S → Prop} (h : D_M_isOn f l1 s = some (r, sz)) (hq : Q r sz) : rx_Ti G me_M_isOn [.ref rx_o, .int (l1)] s Q := by
  refine rx_meti (by decide) rfl (Nat.le_of_ble_eq_true rfl) ?_
  generalize hQ : (fun (v : bm_R) (s2 : rx_S) => ∃ x, v = .inl (some (.int x)) ∧ Q x s2) = Q2
  replace hq : Q2 (.inl (some (.int (r)))) sz := by rw [← hQ]; exact ⟨_, rfl, hq⟩
  clear hQ
  unfold D_M_isOn at h
  refine rx_aload_n d_M_isOn_0 rfl ?_
  refine rx_gaf g_M_isOn_1 (by decide) ?_
  refine rx_iload_n d_M_isOn_4 rfl ?_
  obtain ⟨j1, hj1, ej1, h⟩ := og_inv (by decide) h
  refine rx_iald d_M_isOn_5 rfl ej1 hj1 ?_
  refine rx_iconst (v := nI 2) d_M_isOn_6 (by decide) ?_
  refine oj_step (P := fun J2 : Int32 → Option (Int32 × rx_S) => ∀ (x3 : Int32) (d0 : Option Value) (d1 : Option Value), J2 x3 = some (r, sz) → rx G me_M_isOn 25 [d0, d1] [.int (x3)] s Q2) h ?_ ?_
  · intro x3 d0 d1 h
    obtain ⟨hz, h⟩ := ozb_inv h
    exact rx_zret d_M_isOn_25 rfl (ozb_nar hz) (ox_i hq h)
  clear h
  intro J2 hJ1 h
  refine oj_step (P := fun J4 : Unit → Option (Int32 × rx_S) => ∀ (_u : Unit) (d0 : Option Value) (d1 : Option Value), J4 () = some (r, sz) → rx G me_M_isOn 20 [d0, d1] [] s Q2) h ?_ ?_
  · intro _u d0 d1 h
    refine rx_iconst (v := nI 1) d_M_isOn_20 (by decide) ?_
    refine rx_goto (tgt := 25) d_M_isOn_21 (by decide) ?_
    exact hJ1 _ _ _ h
  clear h
  intro J4 hJ2 h
  refine rx_icmp_eq (tgt := 20) d_M_isOn_7 (by decide) (fun hc7 => ?_) (fun hc7 => ?_)
  · rw [if_pos hc7] at h
    exact hJ2 () _ _ h
  · rw [if_neg hc7] at h
    refine rx_aload_n d_M_isOn_10 rfl ?_
    refine rx_gaf g_M_isOn_11 (by decide) ?_
    refine rx_iload_n d_M_isOn_14 rfl ?_
    refine rx_iald d_M_isOn_15 rfl ej1 hj1 ?_
    refine rx_iconst (v := nI 4) d_M_isOn_16 (by decide) ?_
    refine rx_icmp_ne (tgt := 24) d_M_isOn_17 (by decide) (fun hc17 => ?_) (fun hc17 => ?_)
    · rw [if_neg hc17] at h
      refine rx_iconst (v := nI 0) d_M_isOn_24 (by decide) ?_
      exact hJ1 _ _ _ h
    · rw [if_pos hc17] at h
      exact hJ2 () _ _ h
theorem E_M_stepAt {G : bm_G} {f : Nat} {l1 : Int32} {l2 : Int32} {s sz : rx_S} {r : Int32} {Q : Int32 → rx_S → Prop} (h : D_M_stepAt f l1 l2 s = some (r, sz)) (hq : Q r sz) : rx_Ti G me_M_stepAt [.ref rx_o, .int (l1), .int (l2)] s Q := by
  refine rx_meti (by decide) rfl (Nat.le_of_ble_eq_true rfl) ?_
  generalize hQ : (fun (v : bm_R) (s2 : rx_S) => ∃ x, v = .inl (some (.int x)) ∧ Q x s2) = Q2
  replace hq : Q2 (.inl (some (.int (r)))) sz := by rw [← hQ]; exact ⟨_, rfl, hq⟩
  clear hQ
  unfold D_M_stepAt at h
  refine rx_bipush (v := nI 12) d_M_stepAt_0 (by decide) ?_
  refine rx_aload_n d_M_stepAt_2 rfl ?_
  refine rx_gaf g_M_stepAt_3 (by decide) ?_
  refine rx_iload_n d_M_stepAt_6 rfl ?_
  obtain ⟨j1, hj1, ej1, h⟩ := og_inv (by decide) h
  refine rx_iald d_M_stepAt_7 rfl ej1 hj1 ?_
  refine rx_imul d_M_stepAt_8 ?_
  refine rx_aload_n d_M_stepAt_9 rfl ?_
  refine rx_gaf g_M_stepAt_10 (by decide) ?_
  refine rx_bipush (v := nI 8) d_M_stepAt_13 (by decide) ?_
  refine rx_iload_n d_M_stepAt_15 rfl ?_
  refine rx_imul d_M_stepAt_16 ?_
  refine rx_iload_n d_M_stepAt_17 rfl ?_
  refine rx_iadd d_M_stepAt_18 ?_
  obtain ⟨j2, hj2, ej2, h⟩ := og_inv (by decide) h
  refine rx_iald d_M_stepAt_19 rfl ej2 hj2 ?_
  refine rx_iadd d_M_stepAt_20 ?_
  exact rx_iret d_M_stepAt_21 rfl (ox_i hq h)
theorem E_M_add_3 {G : bm_G} {f : Nat} {l1 : Int32} {l2 : Int32} {l3 : Int32} {k36 : Int32 → rx_S → Option (Int32 × rx_S)} {r : Int32} {sz : rx_S} {Q : bm_R → rx_S → Prop} (hq : Q (.inl none) sz) (hk36 : ∀ (q4 : Int32) (s : rx_S), k36 q4 s = some (r, sz) → rx G me_M_add 36 [some (.ref rx_o), some (.int (l1)), some (.int (l2)), some (.int (l3)), some (.int (q4))] [] s Q) : ∀ (n : Nat) (l4 : Int32) (s : rx_S), D_M_add_3 f l1 l2 l3 k36 n l4 s = some (r, sz) → rx G me_M_add 3 [some (.ref rx_o), some (.int (l1)), some (.int (l2)), some (.int (l3)), some (.int (l4))] [] s Q := by
  intro n
  induction n with
  | zero =>
    intro l4 s h
    rw [D_M_add_3] at h
    exact absurd h (by simp)
  | succ n ih =>
    intro l4 s h
    rw [D_M_add_3] at h
    refine rx_iload d_M_add_3 rfl ?_
    refine rx_aload_n d_M_add_5 rfl ?_
    refine rx_gaf g_M_add_6 (by decide) ?_
    refine rx_iload_n d_M_add_9 rfl ?_
    obtain ⟨j1, hj1, ej1, h⟩ := og_inv (by decide) h
    refine rx_iald d_M_add_10 rfl ej1 hj1 ?_
    refine rx_icmp_ge (tgt := 36) d_M_add_11 (by decide) (fun hc11 => ?_) (fun hc11 => ?_)
    · rw [if_pos hc11] at h
      exact hk36 _ _ h
    · rw [if_neg hc11] at h
      refine rx_aload_n d_M_add_14 rfl ?_
      refine rx_gaf g_M_add_15 (by decide) ?_
      refine rx_bipush (v := nI 100) d_M_add_18 (by decide) ?_
      refine rx_iload_n d_M_add_20 rfl ?_
      refine rx_imul d_M_add_21 ?_
      refine rx_iload d_M_add_22 rfl ?_
      refine rx_iadd d_M_add_24 ?_
      obtain ⟨j2, hj2, ej2, h⟩ := og_inv (by decide) h
      refine rx_iald d_M_add_25 rfl ej2 hj2 ?_
      refine rx_iload_n d_M_add_26 rfl ?_
      refine rx_icmp_eq (tgt := 36) d_M_add_27 (by decide) (fun hc27 => ?_) (fun hc27 => ?_)
      · rw [if_pos hc27] at h
        exact hk36 _ _ h
      · rw [if_neg hc27] at h
        refine rx_iincP d_M_add_30 (by decide) rfl ?_
        refine rx_goto (tgt := 3) d_M_add_33 (by decide) ?_
        exact ih _ _ h
theorem E_M_add {G : bm_G} {f : Nat} {l1 : Int32} {l2 : Int32} {l3 : Int32} {s sz : rx_S} {r : Int32} {Q : rx_S → Prop} (h : D_M_add f l1 l2 l3 s = some (r, sz)) (hq : Q sz) : rx_Tv G me_M_add [.ref rx_o, .int (l1), .int (l2), .int (l3)] s Q := by
  refine rx_metv (by decide) rfl (Nat.le_of_ble_eq_true rfl) ?_
  generalize hQ : (fun (v : bm_R) (s2 : rx_S) => v = .inl none ∧ Q s2) = Q2
  replace hq : Q2 (.inl none) sz := by rw [← hQ]; exact ⟨rfl, hq⟩
  clear hQ
  unfold D_M_add at h
  refine rx_iconst (v := nI 0) d_M_add_0 (by decide) ?_
  refine rx_istore d_M_add_1 (by decide) ?_
  refine E_M_add_3 (r := r) (sz := sz) hq ?_ _ _ _ h
  · intro v3 s4 h
    refine rx_iload d_M_add_36 rfl ?_
    refine rx_aload_n d_M_add_38 rfl ?_
    refine rx_gaf g_M_add_39 (by decide) ?_
    refine rx_iload_n d_M_add_42 rfl ?_
    obtain ⟨j5, hj5, ej5, h⟩ := og_inv (by decide) h
    refine rx_iald d_M_add_43 rfl ej5 hj5 ?_
    refine oj_step (P := fun J6 : rx_S → Option (Int32 × rx_S) => ∀ (s7 : rx_S) (d2 : Option Value), J6 s7 = some (r, sz) → rx G me_M_add 83 [some (.ref rx_o), some (.int (l1)), d2, some (.int (l3)), some (.int (v3))] [] s7 Q2) h ?_ ?_
    · intro s7 d2 h
      refine rx_aload_n d_M_add_83 rfl ?_
      refine rx_gaf g_M_add_84 (by decide) ?_
      refine rx_bipush (v := nI 100) d_M_add_87 (by decide) ?_
      refine rx_iload_n d_M_add_89 rfl ?_
      refine rx_imul d_M_add_90 ?_
      refine rx_iload d_M_add_91 rfl ?_
      refine rx_iadd d_M_add_93 ?_
      refine rx_dup2 d_M_add_94 rfl rfl ?_
      obtain ⟨j8, hj8, ej8, h⟩ := og_inv (by decide) h
      refine rx_iald d_M_add_95 rfl ej8 hj8 ?_
      refine rx_iload_n d_M_add_96 rfl ?_
      refine rx_iadd d_M_add_97 ?_
      refine rx_iast d_M_add_98 rfl ej8 hj8 ?_
      exact rx_vret d_M_add_99 rfl (ox_v hq h)
    clear h
    intro J6 hJ1 h
    refine rx_icmp_ne (tgt := 83) d_M_add_44 (by decide) (fun hc44 => ?_) (fun hc44 => ?_)
    · rw [if_neg hc44] at h
      exact hJ1 _ _ h
    · rw [if_pos hc44] at h
      refine rx_aload_n d_M_add_47 rfl ?_
      refine rx_gaf g_M_add_48 (by decide) ?_
      refine rx_bipush (v := nI 100) d_M_add_51 (by decide) ?_
      refine rx_iload_n d_M_add_53 rfl ?_
      refine rx_imul d_M_add_54 ?_
      refine rx_iload d_M_add_55 rfl ?_
      refine rx_iadd d_M_add_57 ?_
      refine rx_iload_n d_M_add_58 rfl ?_
      obtain ⟨j9, hj9, ej9, h⟩ := og_inv (by decide) h
      refine rx_iast d_M_add_59 rfl ej9 hj9 ?_
      refine rx_aload_n d_M_add_60 rfl ?_
      refine rx_gaf g_M_add_61 (by decide) ?_
      refine rx_bipush (v := nI 100) d_M_add_64 (by decide) ?_
      refine rx_iload_n d_M_add_66 rfl ?_
      refine rx_imul d_M_add_67 ?_
      refine rx_iload d_M_add_68 rfl ?_
      refine rx_iadd d_M_add_70 ?_
      refine rx_iconst (v := nI 0) d_M_add_71 (by decide) ?_
      refine rx_iast d_M_add_72 rfl ej9 hj9 ?_
      refine rx_aload_n d_M_add_73 rfl ?_
      refine rx_gaf g_M_add_74 (by decide) ?_
      refine rx_iload_n d_M_add_77 rfl ?_
      refine rx_dup2 d_M_add_78 rfl rfl ?_
      refine rx_iald d_M_add_79 rfl ej5 hj5 ?_
      refine rx_iconst (v := nI 1) d_M_add_80 (by decide) ?_
      refine rx_iadd d_M_add_81 ?_
      refine rx_iast d_M_add_82 rfl ej5 hj5 ?_
      exact hJ1 _ _ h
theorem E_M_total_4 {G : bm_G} {f : Nat} {l1 : Int32} {r : Int32} {sz : rx_S} {Q : bm_R → rx_S → Prop} (hq : Q (.inl (some (.int (r)))) sz) : ∀ (n : Nat) (l2 : Int32) (l3 : Int32) (s : rx_S), D_M_total_4 f l1 n l2 l3 s = some (r, sz) → rx G me_M_total 4 [some (.ref rx_o), some (.int (l1)), some (.int (l2)), some (.int (l3))] [] s Q := by
  intro n
  induction n with
  | zero =>
    intro l2 l3 s h
    rw [D_M_total_4] at h
    exact absurd h (by simp)
  | succ n ih =>
    intro l2 l3 s h
    rw [D_M_total_4] at h
    refine rx_iload_n d_M_total_4 rfl ?_
    refine rx_aload_n d_M_total_5 rfl ?_
    refine rx_gaf g_M_total_6 (by decide) ?_
    refine rx_iload_n d_M_total_9 rfl ?_
    obtain ⟨j1, hj1, ej1, h⟩ := og_inv (by decide) h
    refine rx_iald d_M_total_10 rfl ej1 hj1 ?_
    refine rx_icmp_ge (tgt := 34) d_M_total_11 (by decide) (fun hc11 => ?_) (fun hc11 => ?_)
    · rw [if_pos hc11] at h
      refine rx_iload_n d_M_total_34 rfl ?_
      exact rx_iret d_M_total_35 rfl (ox_i hq h)
    · rw [if_neg hc11] at h
      refine rx_iload_n d_M_total_14 rfl ?_
      refine rx_aload_n d_M_total_15 rfl ?_
      refine rx_gaf g_M_total_16 (by decide) ?_
      refine rx_bipush (v := nI 100) d_M_total_19 (by decide) ?_
      refine rx_iload_n d_M_total_21 rfl ?_
      refine rx_imul d_M_total_22 ?_
      refine rx_iload_n d_M_total_23 rfl ?_
      refine rx_iadd d_M_total_24 ?_
      obtain ⟨j2, hj2, ej2, h⟩ := og_inv (by decide) h
      refine rx_iald d_M_total_25 rfl ej2 hj2 ?_
      refine rx_iadd d_M_total_26 ?_
      refine rx_istore_n d_M_total_27 (by decide) ?_
      refine rx_iincP d_M_total_28 (by decide) rfl ?_
      refine rx_goto (tgt := 4) d_M_total_31 (by decide) ?_
      exact ih _ _ _ h
theorem E_M_total {G : bm_G} {f : Nat} {l1 : Int32} {s sz : rx_S} {r : Int32} {Q : Int32 → rx_S → Prop} (h : D_M_total f l1 s = some (r, sz)) (hq : Q r sz) : rx_Ti G me_M_total [.ref rx_o, .int (l1)] s Q := by
  refine rx_meti (by decide) rfl (Nat.le_of_ble_eq_true rfl) ?_
  generalize hQ : (fun (v : bm_R) (s2 : rx_S) => ∃ x, v = .inl (some (.int x)) ∧ Q x s2) = Q2
  replace hq : Q2 (.inl (some (.int (r)))) sz := by rw [← hQ]; exact ⟨_, rfl, hq⟩
  clear hQ
  unfold D_M_total at h
  refine rx_iconst (v := nI 0) d_M_total_0 (by decide) ?_
  refine rx_istore_n d_M_total_1 (by decide) ?_
  refine rx_iconst (v := nI 0) d_M_total_2 (by decide) ?_
  refine rx_istore_n d_M_total_3 (by decide) ?_
  refine E_M_total_4 (r := r) (sz := sz) hq _ _ _ _ h
theorem E_M_tidy_4 {G : bm_G} {f : Nat} {l1 : Int32} {k81 : Int32 → rx_S → Option (Int32 × rx_S)} {r : Int32} {sz : rx_S} {Q : bm_R → rx_S → Prop} (hq : Q (.inl none) sz) (hk81 : ∀ (q2 : Int32) (d3 : Option Value) (s : rx_S), k81 q2 s = some (r, sz) → rx G me_M_tidy 81 [some (.ref rx_o), some (.int (l1)), some (.int (q2)), d3] [] s Q) : ∀ (n : Nat) (l2 : Int32) (l3 : Int32) (s : rx_S), D_M_tidy_4 f l1 k81 n l2 l3 s = some (r, sz) → rx G me_M_tidy 4 [some (.ref rx_o), some (.int (l1)), some (.int (l2)), some (.int (l3))] [] s Q := by
  intro n
  induction n with
  | zero =>
    intro l2 l3 s h
    rw [D_M_tidy_4] at h
    exact absurd h (by simp)
  | succ n ih =>
    intro l2 l3 s h
    rw [D_M_tidy_4] at h
    refine rx_iload_n d_M_tidy_4 rfl ?_
    refine rx_aload_n d_M_tidy_5 rfl ?_
    refine rx_gaf g_M_tidy_6 (by decide) ?_
    refine rx_iload_n d_M_tidy_9 rfl ?_
    obtain ⟨j1, hj1, ej1, h⟩ := og_inv (by decide) h
    refine rx_iald d_M_tidy_10 rfl ej1 hj1 ?_
    refine rx_icmp_ge (tgt := 81) d_M_tidy_11 (by decide) (fun hc11 => ?_) (fun hc11 => ?_)
    · rw [if_pos hc11] at h
      exact hk81 _ _ _ h
    · rw [if_neg hc11] at h
      refine rx_aload_n d_M_tidy_14 rfl ?_
      refine rx_gaf g_M_tidy_15 (by decide) ?_
      refine rx_bipush (v := nI 100) d_M_tidy_18 (by decide) ?_
      refine rx_iload_n d_M_tidy_20 rfl ?_
      refine rx_imul d_M_tidy_21 ?_
      refine rx_iload_n d_M_tidy_22 rfl ?_
      refine rx_iadd d_M_tidy_23 ?_
      obtain ⟨j2, hj2, ej2, h⟩ := og_inv (by decide) h
      refine rx_iald d_M_tidy_24 rfl ej2 hj2 ?_
      refine oj_step (P := fun J3 : Int32 → rx_S → Option (Int32 × rx_S) => ∀ (v4 : Int32) (s5 : rx_S), J3 v4 s5 = some (r, sz) → rx G me_M_tidy 75 [some (.ref rx_o), some (.int (l1)), some (.int (v4)), some (.int (l3))] [] s5 Q) h ?_ ?_
      · intro v4 s5 h
        refine rx_iincP d_M_tidy_75 (by decide) rfl ?_
        refine rx_goto (tgt := 4) d_M_tidy_78 (by decide) ?_
        exact ih _ _ _ h
      clear h
      intro J3 hJ1 h
      refine rx_if_le (tgt := 75) d_M_tidy_25 (by decide) (fun hc25 => ?_) (fun hc25 => ?_)
      · rw [if_pos hc25] at h
        exact hJ1 _ _ h
      · rw [if_neg hc25] at h
        refine rx_aload_n d_M_tidy_28 rfl ?_
        refine rx_gaf g_M_tidy_29 (by decide) ?_
        refine rx_bipush (v := nI 100) d_M_tidy_32 (by decide) ?_
        refine rx_iload_n d_M_tidy_34 rfl ?_
        refine rx_imul d_M_tidy_35 ?_
        refine rx_iload_n d_M_tidy_36 rfl ?_
        refine rx_iadd d_M_tidy_37 ?_
        refine rx_aload_n d_M_tidy_38 rfl ?_
        refine rx_gaf g_M_tidy_39 (by decide) ?_
        refine rx_bipush (v := nI 100) d_M_tidy_42 (by decide) ?_
        refine rx_iload_n d_M_tidy_44 rfl ?_
        refine rx_imul d_M_tidy_45 ?_
        refine rx_iload_n d_M_tidy_46 rfl ?_
        refine rx_iadd d_M_tidy_47 ?_
        refine rx_iald d_M_tidy_48 rfl ej2 hj2 ?_
        obtain ⟨j6, hj6, ej6, h⟩ := og_inv (by decide) h
        refine rx_iast d_M_tidy_49 rfl ej6 hj6 ?_
        refine rx_aload_n d_M_tidy_50 rfl ?_
        refine rx_gaf g_M_tidy_51 (by decide) ?_
        refine rx_bipush (v := nI 100) d_M_tidy_54 (by decide) ?_
        refine rx_iload_n d_M_tidy_56 rfl ?_
        refine rx_imul d_M_tidy_57 ?_
        refine rx_iload_n d_M_tidy_58 rfl ?_
        refine rx_iadd d_M_tidy_59 ?_
        refine rx_aload_n d_M_tidy_60 rfl ?_
        refine rx_gaf g_M_tidy_61 (by decide) ?_
        refine rx_bipush (v := nI 100) d_M_tidy_64 (by decide) ?_
        refine rx_iload_n d_M_tidy_66 rfl ?_
        refine rx_imul d_M_tidy_67 ?_
        refine rx_iload_n d_M_tidy_68 rfl ?_
        refine rx_iadd d_M_tidy_69 ?_
        refine rx_iald d_M_tidy_70 rfl ej2 hj2 ?_
        refine rx_iast d_M_tidy_71 rfl ej6 hj6 ?_
        refine rx_iincP d_M_tidy_72 (by decide) rfl ?_
        exact hJ1 _ _ h
theorem E_M_tidy {G : bm_G} {f : Nat} {l1 : Int32} {s sz : rx_S} {r : Int32} {Q : rx_S → Prop} (h : D_M_tidy f l1 s = some (r, sz)) (hq : Q sz) : rx_Tv G me_M_tidy [.ref rx_o, .int (l1)] s Q := by
  refine rx_metv (by decide) rfl (Nat.le_of_ble_eq_true rfl) ?_
  generalize hQ : (fun (v : bm_R) (s2 : rx_S) => v = .inl none ∧ Q s2) = Q2
  replace hq : Q2 (.inl none) sz := by rw [← hQ]; exact ⟨rfl, hq⟩
  clear hQ
  unfold D_M_tidy at h
  refine rx_iconst (v := nI 0) d_M_tidy_0 (by decide) ?_
  refine rx_istore_n d_M_tidy_1 (by decide) ?_
  refine rx_iconst (v := nI 0) d_M_tidy_2 (by decide) ?_
  refine rx_istore_n d_M_tidy_3 (by decide) ?_
  refine E_M_tidy_4 (r := r) (sz := sz) hq ?_ _ _ _ _ h
  · intro v7 d3 s8 h
    refine rx_aload_n d_M_tidy_81 rfl ?_
    refine rx_gaf g_M_tidy_82 (by decide) ?_
    refine rx_iload_n d_M_tidy_85 rfl ?_
    refine rx_iload_n d_M_tidy_86 rfl ?_
    obtain ⟨j9, hj9, ej9, h⟩ := og_inv (by decide) h
    refine rx_iast d_M_tidy_87 rfl ej9 hj9 ?_
    exact rx_vret d_M_tidy_88 rfl (ox_v hq h)
