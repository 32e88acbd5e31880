theorem E_M_gets_29 {G : bm_G} {f : Nat} {l1 : Int32} {l2 : Int32} {l3 : Int32} {l4 : Int32} {k105 : rx_S → Option (Int32 × rx_S)} {r : Int32} {sz : rx_S} {Q : bm_R → rx_S → Prop} (hq : Q (.inl (some (.int (r)))) sz) (hk105 : ∀ (d5 : Option Value) (s : rx_S), k105 s = some (r, sz) → rx G me_M_gets 105 [some (.ref rx_o), some (.int (l1)), some (.int (l2)), some (.int (l3)), some (.int (l4)), d5] [] s Q) : ∀ (n : Nat) (l5 : Int32) (s : rx_S), D_M_gets_29 f l1 l2 l3 l4 k105 n l5 s = some (r, sz) → rx G me_M_gets 29 [some (.ref rx_o), some (.int (l1)), some (.int (l2)), some (.int (l3)), some (.int (l4)), some (.int (l5))] [] s Q := by
  intro n
  induction n with
  | zero =>
    intro l5 s h
    rw [D_M_gets_29] at h
    exact absurd h (by simp)
  | succ n ih =>
    intro l5 s h
    rw [D_M_gets_29] at h
    refine rx_iload d_M_gets_29 rfl ?_
    refine rx_bipush (v := nI 6) d_M_gets_31 (by decide) ?_
    refine rx_icmp_ge (tgt := 105) d_M_gets_33 (by decide) (fun hc33 => ?_) (fun hc33 => ?_)
    · rw [if_pos hc33] at h
      exact hk105 _ _ h
    · rw [if_neg hc33] at h
      refine rx_iload d_M_gets_36 rfl ?_
      refine rx_iconst (v := nI 3) d_M_gets_38 (by decide) ?_
      refine rx_icmp_ge (tgt := 105) d_M_gets_39 (by decide) (fun hc39 => ?_) (fun hc39 => ?_)
      · rw [if_pos hc39] at h
        exact hk105 _ _ h
      · rw [if_neg hc39] at h
        refine rx_aload_n d_M_gets_42 rfl ?_
        refine rx_gaf g_M_gets_43 (by decide) ?_
        refine rx_iconst (v := nI 3) d_M_gets_46 (by decide) ?_
        refine rx_iload_n d_M_gets_47 rfl ?_
        refine rx_imul d_M_gets_48 ?_
        refine rx_iload_n d_M_gets_49 rfl ?_
        refine rx_iadd d_M_gets_50 ?_
        obtain ⟨j3, hj3, ej3, h⟩ := og_inv (by decide) h
        refine rx_iald d_M_gets_51 rfl ej3 hj3 ?_
        refine rx_iconst (v := (-1)) d_M_gets_52 (by decide) ?_
        refine rx_icmp_ne (tgt := 105) d_M_gets_53 (by decide) (fun hc53 => ?_) (fun hc53 => ?_)
        · rw [if_neg hc53] at h
          exact hk105 _ _ h
        · rw [if_pos hc53] at h
          refine rx_aload_n d_M_gets_56 rfl ?_
          refine rx_gaf g_M_gets_57 (by decide) ?_
          refine rx_iload d_M_gets_60 rfl ?_
          obtain ⟨j4, hj4, ej4, h⟩ := og_inv (by decide) h
          refine rx_iald d_M_gets_62 rfl ej4 hj4 ?_
          refine rx_iload d_M_gets_63 rfl ?_
          refine oj_step (P := fun J5 : rx_S → Option (Int32 × rx_S) => ∀ (s6 : rx_S), J5 s6 = some (r, sz) → rx G me_M_gets 99 [some (.ref rx_o), some (.int (l1)), some (.int (l2)), some (.int (l3)), some (.int (l4)), some (.int (l5))] [] s6 Q) h ?_ ?_
          · intro s6 h
            refine rx_iincP d_M_gets_99 (by decide) rfl ?_
            refine rx_goto (tgt := 29) d_M_gets_102 (by decide) ?_
            exact ih _ _ h
          clear h
          intro J5 hJ1 h
          refine rx_icmp_ne (tgt := 99) d_M_gets_65 (by decide) (fun hc65 => ?_) (fun hc65 => ?_)
          · rw [if_neg hc65] at h
            exact hJ1 _ h
          · rw [if_pos hc65] at h
            refine rx_aload_n d_M_gets_68 rfl ?_
            refine rx_gaf g_M_gets_69 (by decide) ?_
            refine rx_iload d_M_gets_72 rfl ?_
            refine rx_iald d_M_gets_74 rfl ej4 hj4 ?_
            refine rx_iconst (v := (-1)) d_M_gets_75 (by decide) ?_
            refine rx_icmp_ne (tgt := 99) d_M_gets_76 (by decide) (fun hc76 => ?_) (fun hc76 => ?_)
            · rw [if_neg hc76] at h
              exact hJ1 _ h
            · rw [if_pos hc76] at h
              refine rx_aload_n d_M_gets_79 rfl ?_
              refine rx_gaf g_M_gets_80 (by decide) ?_
              refine rx_iload d_M_gets_83 rfl ?_
              refine rx_iload_n d_M_gets_85 rfl ?_
              refine rx_iast d_M_gets_86 rfl ej4 hj4 ?_
              refine rx_aload_n d_M_gets_87 rfl ?_
              refine rx_gaf g_M_gets_88 (by decide) ?_
              refine rx_iconst (v := nI 3) d_M_gets_91 (by decide) ?_
              refine rx_iload_n d_M_gets_92 rfl ?_
              refine rx_imul d_M_gets_93 ?_
              refine rx_iload_n d_M_gets_94 rfl ?_
              refine rx_iadd d_M_gets_95 ?_
              refine rx_iload d_M_gets_96 rfl ?_
              refine rx_iast d_M_gets_98 rfl ej3 hj3 ?_
              exact hJ1 _ h
theorem E_M_gets_4 {G : bm_G} {f : Nat} {l1 : Int32} {k141 : Int32 → rx_S → Option (Int32 × rx_S)} {r : Int32} {sz : rx_S} {Q : bm_R → rx_S → Prop} (hq : Q (.inl (some (.int (r)))) sz) (hk141 : ∀ (q2 : Int32) (d3 : Option Value) (d4 : Option Value) (d5 : Option Value) (s : rx_S), k141 q2 s = some (r, sz) → rx G me_M_gets 141 [some (.ref rx_o), some (.int (l1)), some (.int (q2)), d3, d4, d5] [] s Q) : ∀ (n : Nat) (l2 : Int32) (l3 : Int32) (d4 : Option Value) (d5 : Option Value) (s : rx_S), D_M_gets_4 f l1 k141 n l2 l3 s = some (r, sz) → rx G me_M_gets 4 [some (.ref rx_o), some (.int (l1)), some (.int (l2)), some (.int (l3)), d4, d5] [] s Q := by
  intro n
  induction n with
  | zero =>
    intro l2 l3 d4 d5 s h
    rw [D_M_gets_4] at h
    exact absurd h (by simp)
  | succ n ih =>
    intro l2 l3 d4 d5 s h
    rw [D_M_gets_4] at h
    refine rx_iload_n d_M_gets_4 rfl ?_
    refine rx_iconst (v := nI 3) d_M_gets_5 (by decide) ?_
    refine rx_icmp_ge (tgt := 141) d_M_gets_6 (by decide) (fun hc6 => ?_) (fun hc6 => ?_)
    · rw [if_pos hc6] at h
      exact hk141 _ _ _ _ _ h
    · rw [if_neg hc6] at h
      refine rx_aload_n d_M_gets_9 rfl ?_
      refine rx_gaf g_M_gets_10 (by decide) ?_
      refine rx_iconst (v := nI 3) d_M_gets_13 (by decide) ?_
      refine rx_aload_n d_M_gets_14 rfl ?_
      refine rx_gaf g_M_gets_15 (by decide) ?_
      refine rx_iload_n d_M_gets_18 rfl ?_
      obtain ⟨j1, hj1, ej1, h⟩ := og_inv (by decide) h
      refine rx_iald d_M_gets_19 rfl ej1 hj1 ?_
      refine rx_imul d_M_gets_20 ?_
      refine rx_iload_n d_M_gets_21 rfl ?_
      refine rx_iadd d_M_gets_22 ?_
      obtain ⟨j2, hj2, ej2, h⟩ := og_inv (by decide) h
      refine rx_iald d_M_gets_23 rfl ej2 hj2 ?_
      refine rx_istore d_M_gets_24 (by decide) ?_
      refine rx_iconst (v := nI 0) d_M_gets_26 (by decide) ?_
      refine rx_istore d_M_gets_27 (by decide) ?_
      refine E_M_gets_29 (r := r) (sz := sz) hq ?_ _ _ _ h
      · intro d5 s7 h
        refine rx_iload_n d_M_gets_105 rfl ?_
        refine oj_step (P := fun J8 : Int32 → Option (Int32 × rx_S) => ∀ (x9 : Int32) (d2 : Option Value) (d4 : Option Value) (d5 : Option Value), J8 x9 = some (r, sz) → rx G me_M_gets 134 [some (.ref rx_o), some (.int (l1)), d2, some (.int (l3)), d4, d5] [.int (x9)] s7 Q) h ?_ ?_
        · intro x9 d2 d4 d5 h
          refine rx_istore_n d_M_gets_134 (by decide) ?_
          refine rx_iincP d_M_gets_135 (by decide) rfl ?_
          refine rx_goto (tgt := 4) d_M_gets_138 (by decide) ?_
          exact ih _ _ _ _ _ h
        clear h
        intro J8 hJ2 h
        refine oj_step (P := fun J10 : Unit → Option (Int32 × rx_S) => ∀ (_u : Unit) (d2 : Option Value) (d4 : Option Value) (d5 : Option Value), J10 () = some (r, sz) → rx G me_M_gets 133 [some (.ref rx_o), some (.int (l1)), d2, some (.int (l3)), d4, d5] [] s7 Q) h ?_ ?_
        · intro _u d2 d4 d5 h
          refine rx_iconst (v := nI 0) d_M_gets_133 (by decide) ?_
          exact hJ2 _ _ _ _ h
        clear h
        intro J10 hJ3 h
        refine rx_if_eq (tgt := 133) d_M_gets_106 (by decide) (fun hc106 => ?_) (fun hc106 => ?_)
        · rw [if_pos hc106] at h
          exact hJ3 () _ _ _ h
        · rw [if_neg hc106] at h
          refine rx_iload d_M_gets_109 rfl ?_
          refine rx_iconst (v := nI 3) d_M_gets_111 (by decide) ?_
          refine oj_step (P := fun J11 : Unit → Option (Int32 × rx_S) => ∀ (_u : Unit) (d2 : Option Value) (d4 : Option Value) (d5 : Option Value), J11 () = some (r, sz) → rx G me_M_gets 129 [some (.ref rx_o), some (.int (l1)), d2, some (.int (l3)), d4, d5] [] s7 Q) h ?_ ?_
          · intro _u d2 d4 d5 h
            refine rx_iconst (v := nI 1) d_M_gets_129 (by decide) ?_
            refine rx_goto (tgt := 134) d_M_gets_130 (by decide) ?_
            exact hJ2 _ _ _ _ h
          clear h
          intro J11 hJ4 h
          refine rx_icmp_eq (tgt := 129) d_M_gets_112 (by decide) (fun hc112 => ?_) (fun hc112 => ?_)
          · rw [if_pos hc112] at h
            exact hJ4 () _ _ _ h
          · rw [if_neg hc112] at h
            refine rx_aload_n d_M_gets_115 rfl ?_
            refine rx_gaf g_M_gets_116 (by decide) ?_
            refine rx_iconst (v := nI 3) d_M_gets_119 (by decide) ?_
            refine rx_iload_n d_M_gets_120 rfl ?_
            refine rx_imul d_M_gets_121 ?_
            refine rx_iload_n d_M_gets_122 rfl ?_
            refine rx_iadd d_M_gets_123 ?_
            obtain ⟨j12, hj12, ej12, h⟩ := og_inv (by decide) h
            refine rx_iald d_M_gets_124 rfl ej12 hj12 ?_
            refine rx_iconst (v := (-1)) d_M_gets_125 (by decide) ?_
            refine rx_icmp_eq (tgt := 133) d_M_gets_126 (by decide) (fun hc126 => ?_) (fun hc126 => ?_)
            · rw [if_pos hc126] at h
              exact hJ3 () _ _ _ h
            · rw [if_neg hc126] at h
              exact hJ4 () _ _ _ h
theorem E_M_gets {G : bm_G} {f : Nat} {l1 : Int32} {s sz : rx_S} {r : Int32} {Q : Int32 → rx_S → Prop} (h : D_M_gets f l1 s = some (r, sz)) (hq : Q r sz) : rx_Ti G me_M_gets [.ref rx_o, .int (l1)] s Q := by
  refine rx_meti (by decide) rfl (Nat.le_of_ble_eq_true rfl) ?_
  generalize hQ : (fun (v : bm_R) (s2 : rx_S) => ∃ x, v = .inl (some (.int x)) ∧ Q x s2) = Q2
  replace hq : Q2 (.inl (some (.int (r)))) sz := by rw [← hQ]; exact ⟨_, rfl, hq⟩
  clear hQ
  unfold D_M_gets at h
  refine rx_iconst (v := nI 1) d_M_gets_0 (by decide) ?_
  refine rx_istore_n d_M_gets_1 (by decide) ?_
  refine rx_iconst (v := nI 0) d_M_gets_2 (by decide) ?_
  refine rx_istore_n d_M_gets_3 (by decide) ?_
  refine E_M_gets_4 (r := r) (sz := sz) hq ?_ _ _ _ _ _ _ h
  · intro v13 d3 d4 d5 s14 h
    refine rx_iload_n d_M_gets_141 rfl ?_
    refine oj_step (P := fun J15 : rx_S → Option (Int32 × rx_S) => ∀ (s16 : rx_S) (d0 : Option Value) (d1 : Option Value) (d3 : Option Value) (d4 : Option Value) (d5 : Option Value), J15 s16 = some (r, sz) → rx G me_M_gets 150 [d0, d1, some (.int (v13)), d3, d4, d5] [] s16 Q2) h ?_ ?_
    · intro s16 d0 d1 d3 d4 d5 h
      refine rx_iload_n d_M_gets_150 rfl ?_
      obtain ⟨hz, h⟩ := ozb_inv h
      exact rx_zret d_M_gets_151 rfl (ozb_nar hz) (ox_i hq h)
    clear h
    intro J15 hJ5 h
    refine rx_if_ne (tgt := 150) d_M_gets_142 (by decide) (fun hc142 => ?_) (fun hc142 => ?_)
    · rw [if_neg hc142] at h
      exact hJ5 _ _ _ _ _ _ h
    · rw [if_pos hc142] at h
      refine rx_aload_n d_M_gets_145 rfl ?_
      refine rx_iload_n d_M_gets_146 rfl ?_
      obtain ⟨x17, s18, ex17, h⟩ := ob_inv h
      refine rx_callV1v c_M_gets_147 (Nat.le_of_ble_eq_true rfl) (E_M_giveBack ex17 ?_)
      exact hJ5 _ _ _ _ _ _ h
theorem E_M_claim_12 {G : bm_G} {f : Nat} {k127 : Int32 → rx_S → Option (Int32 × rx_S)} {r : Int32} {sz : rx_S} {Q : bm_R → rx_S → Prop} (hq : Q (.inl none) sz) (hk127 : ∀ (q1 : Int32) (d2 : Option Value) (d3 : Option Value) (d4 : Option Value) (s : rx_S), k127 q1 s = some (r, sz) → rx G me_M_claim 127 [some (.ref rx_o), some (.int (q1)), d2, d3, d4] [] s Q) : ∀ (n : Nat) (l1 : Int32) (l2 : Int32) (l3 : Int32) (d4 : Option Value) (s : rx_S), D_M_claim_12 f k127 n l1 l2 l3 s = some (r, sz) → rx G me_M_claim 12 [some (.ref rx_o), some (.int (l1)), some (.int (l2)), some (.int (l3)), d4] [] s Q := by
  intro n
  induction n with
  | zero =>
    intro l1 l2 l3 d4 s h
    rw [D_M_claim_12] at h
    exact absurd h (by simp)
  | succ n ih =>
    intro l1 l2 l3 d4 s h
    rw [D_M_claim_12] at h
    refine rx_iload_n d_M_claim_12 rfl ?_
    refine rx_aload_n d_M_claim_13 rfl ?_
    refine rx_gsf g_M_claim_14 (by decide) rfl ?_
    refine rx_icmp_ge (tgt := 127) d_M_claim_17 (by decide) (fun hc17 => ?_) (fun hc17 => ?_)
    · rw [if_pos hc17] at h
      exact hk127 _ _ _ _ _ h
    · rw [if_neg hc17] at h
      refine rx_iload_n d_M_claim_20 rfl ?_
      refine rx_if_ne (tgt := 127) d_M_claim_21 (by decide) (fun hc21 => ?_) (fun hc21 => ?_)
      · rw [if_neg hc21] at h
        exact hk127 _ _ _ _ _ h
      · rw [if_pos hc21] at h
        refine rx_aload_n d_M_claim_24 rfl ?_
        refine rx_gaf g_M_claim_25 (by decide) ?_
        refine rx_iload_n d_M_claim_28 rfl ?_
        obtain ⟨j1, hj1, ej1, h⟩ := og_inv (by decide) h
        refine rx_iald d_M_claim_29 rfl ej1 hj1 ?_
        refine rx_istore d_M_claim_30 (by decide) ?_
        refine rx_iload_n d_M_claim_32 rfl ?_
        refine rx_aload_n d_M_claim_33 rfl ?_
        refine rx_iload d_M_claim_34 rfl ?_
        obtain ⟨x2, s3, ex2, h⟩ := ob_inv h
        refine rx_callV1 c_M_claim_36 (Nat.le_of_ble_eq_true rfl) (E_M_needs ex2 ?_)
        refine rx_iand d_M_claim_39 ?_
        refine oj_step (P := fun J4 : Int32 → rx_S → Option (Int32 × rx_S) => ∀ (x5 : Int32) (s6 : rx_S) (d1 : Option Value), J4 x5 s6 = some (r, sz) → rx G me_M_claim 57 [some (.ref rx_o), d1, some (.int (l2)), some (.int (l3)), some (.int (s 29 j1))] [.int (x5)] s6 Q) h ?_ ?_
        · intro x5 s6 d1 h
          refine rx_istore_n d_M_claim_57 (by decide) ?_
          refine rx_iload_n d_M_claim_58 rfl ?_
          refine rx_aload_n d_M_claim_59 rfl ?_
          refine rx_iload d_M_claim_60 rfl ?_
          obtain ⟨x7, s8, ex7, h⟩ := ob_inv h
          refine rx_callV1 c_M_claim_62 (Nat.le_of_ble_eq_true rfl) (E_M_needs ex7 ?_)
          refine rx_ior d_M_claim_65 ?_
          refine rx_istore_n d_M_claim_66 (by decide) ?_
          refine rx_iload_n d_M_claim_67 rfl ?_
          refine oj_step (P := fun J9 : rx_S → Option (Int32 × rx_S) => ∀ (s10 : rx_S) (d4 : Option Value), J9 s10 = some (r, sz) → rx G me_M_claim 121 [some (.ref rx_o), some (.int (x5)), some (.int (l2 ||| x7)), some (.int (l3)), d4] [] s10 Q) h ?_ ?_
          · intro s10 d4 h
            refine rx_iincP d_M_claim_121 (by decide) rfl ?_
            refine rx_goto (tgt := 12) d_M_claim_124 (by decide) ?_
            exact ih _ _ _ _ _ h
          clear h
          intro J9 hJ1 h
          refine rx_if_eq (tgt := 121) d_M_claim_68 (by decide) (fun hc68 => ?_) (fun hc68 => ?_)
          · rw [if_pos hc68] at h
            exact hJ1 _ _ h
          · rw [if_neg hc68] at h
            refine rx_aload_n d_M_claim_71 rfl ?_
            refine rx_iload d_M_claim_72 rfl ?_
            obtain ⟨x11, s12, ex11, h⟩ := ob_inv h
            refine rx_callV1v c_M_claim_74 (Nat.le_of_ble_eq_true rfl) (E_M_leaveLine ex11 ?_)
            refine rx_aload_n d_M_claim_77 rfl ?_
            refine rx_gaf g_M_claim_78 (by decide) ?_
            refine rx_iload d_M_claim_81 rfl ?_
            refine rx_iconst (v := nI 2) d_M_claim_83 (by decide) ?_
            obtain ⟨j13, hj13, ej13, h⟩ := og_inv (by decide) h
            refine rx_iast d_M_claim_84 rfl ej13 hj13 ?_
            refine rx_aload_n d_M_claim_85 rfl ?_
            refine rx_gaf g_M_claim_86 (by decide) ?_
            refine rx_iload d_M_claim_89 rfl ?_
            refine rx_iconst (v := nI 1) d_M_claim_91 (by decide) ?_
            refine rx_iast d_M_claim_92 rfl ej13 hj13 ?_
            refine rx_aload_n d_M_claim_93 rfl ?_
            refine rx_gaf g_M_claim_94 (by decide) ?_
            refine rx_bipush (v := nI 8) d_M_claim_97 (by decide) ?_
            refine rx_iload d_M_claim_99 rfl ?_
            refine rx_imul d_M_claim_101 ?_
            refine rx_iconst (v := nI 0) d_M_claim_102 (by decide) ?_
            obtain ⟨j14, hj14, ej14, h⟩ := og_inv (by decide) h
            refine rx_iast d_M_claim_103 rfl ej14 hj14 ?_
            refine rx_aload_n d_M_claim_104 rfl ?_
            refine rx_gaf g_M_claim_105 (by decide) ?_
            refine rx_bipush (v := nI 8) d_M_claim_108 (by decide) ?_
            refine rx_iload d_M_claim_110 rfl ?_
            refine rx_imul d_M_claim_112 ?_
            refine rx_iconst (v := nI 0) d_M_claim_113 (by decide) ?_
            refine rx_zast d_M_claim_114 rfl ej14 hj14 (by decide) ?_
            refine rx_aload_n d_M_claim_115 rfl ?_
            refine rx_iload d_M_claim_116 rfl ?_
            obtain ⟨x15, s16, ex15, h⟩ := ob_inv h
            refine rx_callV1v c_M_claim_118 (Nat.le_of_ble_eq_true rfl) (E_M_move ex15 ?_)
            exact hJ1 _ _ h
        clear h
        intro J4 hJ2 h
        refine oj_step (P := fun J17 : rx_S → Option (Int32 × rx_S) => ∀ (s18 : rx_S) (d1 : Option Value), J17 s18 = some (r, sz) → rx G me_M_claim 56 [some (.ref rx_o), d1, some (.int (l2)), some (.int (l3)), some (.int (s 29 j1))] [] s18 Q) h ?_ ?_
        · intro s18 d1 h
          refine rx_iconst (v := nI 0) d_M_claim_56 (by decide) ?_
          exact hJ2 _ _ _ h
        clear h
        intro J17 hJ3 h
        refine rx_if_ne (tgt := 56) d_M_claim_40 (by decide) (fun hc40 => ?_) (fun hc40 => ?_)
        · rw [if_neg hc40] at h
          exact hJ3 _ _ h
        · rw [if_pos hc40] at h
          refine rx_aload_n d_M_claim_43 rfl ?_
          refine rx_iload d_M_claim_44 rfl ?_
          obtain ⟨x19, s20, ex19, h⟩ := ob_inv h
          refine rx_callV1 c_M_claim_46 (Nat.le_of_ble_eq_true rfl) (E_M_gets ex19 ?_)
          refine rx_if_eq (tgt := 56) d_M_claim_49 (by decide) (fun hc49 => ?_) (fun hc49 => ?_)
          · rw [if_pos hc49] at h
            exact hJ3 _ _ h
          · rw [if_neg hc49] at h
            refine rx_iconst (v := nI 1) d_M_claim_52 (by decide) ?_
            refine rx_goto (tgt := 57) d_M_claim_53 (by decide) ?_
            exact hJ2 _ _ _ h
theorem E_M_claim_2 {G : bm_G} {f : Nat} {k130 : rx_S → Option (Int32 × rx_S)} {r : Int32} {sz : rx_S} {Q : bm_R → rx_S → Prop} (hq : Q (.inl none) sz) (hk130 : ∀ (d1 : Option Value) (d2 : Option Value) (d3 : Option Value) (d4 : Option Value) (s : rx_S), k130 s = some (r, sz) → rx G me_M_claim 130 [some (.ref rx_o), d1, d2, d3, d4] [] s Q) : ∀ (n : Nat) (l1 : Int32) (d2 : Option Value) (d3 : Option Value) (d4 : Option Value) (s : rx_S), D_M_claim_2 f k130 n l1 s = some (r, sz) → rx G me_M_claim 2 [some (.ref rx_o), some (.int (l1)), d2, d3, d4] [] s Q := by
  intro n
  induction n with
  | zero =>
    intro l1 d2 d3 d4 s h
    rw [D_M_claim_2] at h
    exact absurd h (by simp)
  | succ n ih =>
    intro l1 d2 d3 d4 s h
    rw [D_M_claim_2] at h
    refine rx_iload_n d_M_claim_2 rfl ?_
    refine rx_if_eq (tgt := 130) d_M_claim_3 (by decide) (fun hc3 => ?_) (fun hc3 => ?_)
    · rw [if_pos hc3] at h
      exact hk130 _ _ _ _ _ h
    · rw [if_neg hc3] at h
      refine rx_iconst (v := nI 0) d_M_claim_6 (by decide) ?_
      refine rx_istore_n d_M_claim_7 (by decide) ?_
      refine rx_iconst (v := nI 0) d_M_claim_8 (by decide) ?_
      refine rx_istore_n d_M_claim_9 (by decide) ?_
      refine rx_iconst (v := nI 0) d_M_claim_10 (by decide) ?_
      refine rx_istore_n d_M_claim_11 (by decide) ?_
      refine E_M_claim_12 (r := r) (sz := sz) hq ?_ _ _ _ _ _ _ h
      · intro v21 d2 d3 d4 s22 h
        refine rx_goto (tgt := 2) d_M_claim_127 (by decide) ?_
        exact ih _ _ _ _ _ h
theorem E_M_claim {G : bm_G} {f : Nat} {s sz : rx_S} {r : Int32} {Q : rx_S → Prop} (h : D_M_claim f s = some (r, sz)) (hq : Q sz) : rx_Tv G me_M_claim [.ref rx_o] s Q := by
  refine rx_metv (by decide) rfl (Nat.le_of_ble_eq_true rfl) ?_
  generalize hQ : (fun (v : bm_R) (s2 : rx_S) => v = .inl none ∧ Q s2) = Q2
  replace hq : Q2 (.inl none) sz := by rw [← hQ]; exact ⟨rfl, hq⟩
  clear hQ
  unfold D_M_claim at h
  refine rx_iconst (v := nI 1) d_M_claim_0 (by decide) ?_
  refine rx_istore_n d_M_claim_1 (by decide) ?_
  refine E_M_claim_2 (r := r) (sz := sz) hq ?_ _ _ _ _ _ _ h
  · intro d1 d2 d3 d4 s23 h
    refine rx_aload_n d_M_claim_130 rfl ?_
    refine rx_iconst (v := nI 0) d_M_claim_131 (by decide) ?_
    refine rx_psf p_M_claim_132 (by decide) rfl rfl rfl ?_
    exact rx_vret d_M_claim_135 rfl (ox_v hq h)
theorem E_M_tick_7 {G : bm_G} {f : Nat} {k45 : rx_S → Option (Int32 × rx_S)} {r : Int32} {sz : rx_S} {Q : bm_R → rx_S → Prop} (hq : Q (.inl (some (.int (r)))) sz) (hk45 : ∀ (d1 : Option Value) (d2 : Option Value) (s : rx_S), k45 s = some (r, sz) → rx G me_M_tick 45 [some (.ref rx_o), d1, d2] [] s Q) : ∀ (n : Nat) (l1 : Int32) (d2 : Option Value) (s : rx_S), D_M_tick_7 f k45 n l1 s = some (r, sz) → rx G me_M_tick 7 [some (.ref rx_o), some (.int (l1)), d2] [] s Q := by
  intro n
  induction n with
  | zero =>
    intro l1 d2 s h
    rw [D_M_tick_7] at h
    exact absurd h (by simp)
  | succ n ih =>
    intro l1 d2 s h
    rw [D_M_tick_7] at h
    refine rx_iload_n d_M_tick_7 rfl ?_
    refine rx_aload_n d_M_tick_8 rfl ?_
    refine rx_gsf g_M_tick_9 (by decide) rfl ?_
    refine rx_icmp_ge (tgt := 45) d_M_tick_12 (by decide) (fun hc12 => ?_) (fun hc12 => ?_)
    · rw [if_pos hc12] at h
      exact hk45 _ _ _ h
    · rw [if_neg hc12] at h
      refine rx_aload_n d_M_tick_15 rfl ?_
      refine rx_iload_n d_M_tick_16 rfl ?_
      obtain ⟨x1, s2, ex1, h⟩ := ob_inv h
      refine rx_callV1 c_M_tick_17 (Nat.le_of_ble_eq_true rfl) (E_M_isOn ex1 ?_)
      refine oj_step (P := fun J3 : rx_S → Option (Int32 × rx_S) => ∀ (s4 : rx_S) (d2 : Option Value), J3 s4 = some (r, sz) → rx G me_M_tick 28 [some (.ref rx_o), some (.int (l1)), d2] [] s4 Q) h ?_ ?_
      · intro s4 d2 h
        refine rx_aload_n d_M_tick_28 rfl ?_
        refine rx_gsf g_M_tick_29 (by decide) rfl ?_
        refine oj_step (P := fun J5 : rx_S → Option (Int32 × rx_S) => ∀ (s6 : rx_S) (d2 : Option Value), J5 s6 = some (r, sz) → rx G me_M_tick 39 [some (.ref rx_o), some (.int (l1)), d2] [] s6 Q) h ?_ ?_
        · intro s6 d2 h
          refine rx_iincP d_M_tick_39 (by decide) rfl ?_
          refine rx_goto (tgt := 7) d_M_tick_42 (by decide) ?_
          exact ih _ _ _ h
        clear h
        intro J5 hJ1 h
        refine rx_if_eq (tgt := 39) d_M_tick_32 (by decide) (fun hc32 => ?_) (fun hc32 => ?_)
        · rw [if_pos hc32] at h
          exact hJ1 _ _ h
        · rw [if_neg hc32] at h
          refine rx_aload_n d_M_tick_35 rfl ?_
          obtain ⟨x7, s8, ex7, h⟩ := ob_inv h
          refine rx_callV0v c_M_tick_36 (Nat.le_of_ble_eq_true rfl) (E_M_claim ex7 ?_)
          exact hJ1 _ _ h
      clear h
      intro J3 hJ2 h
      refine rx_if_eq (tgt := 28) d_M_tick_20 (by decide) (fun hc20 => ?_) (fun hc20 => ?_)
      · rw [if_pos hc20] at h
        exact hJ2 _ _ h
      · rw [if_neg hc20] at h
        refine rx_aload_n d_M_tick_23 rfl ?_
        refine rx_iload_n d_M_tick_24 rfl ?_
        obtain ⟨x9, s10, ex9, h⟩ := ob_inv h
        refine rx_callV1v c_M_tick_25 (Nat.le_of_ble_eq_true rfl) (E_M_goOn ex9 ?_)
        exact hJ2 _ _ h
theorem E_M_tick_49 {G : bm_G} {f : Nat} {r : Int32} {sz : rx_S} {Q : bm_R → rx_S → Prop} (hq : Q (.inl (some (.int (r)))) sz) : ∀ (n : Nat) (l1 : Int32) (l2 : Int32) (s : rx_S), D_M_tick_49 f n l1 l2 s = some (r, sz) → rx G me_M_tick 49 [some (.ref rx_o), some (.int (l1)), some (.int (l2))] [] s Q := by
  intro n
  induction n with
  | zero =>
    intro l1 l2 s h
    rw [D_M_tick_49] at h
    exact absurd h (by simp)
  | succ n ih =>
    intro l1 l2 s h
    rw [D_M_tick_49] at h
    refine rx_iload_n d_M_tick_49 rfl ?_
    refine rx_aload_n d_M_tick_50 rfl ?_
    refine rx_gsf g_M_tick_51 (by decide) rfl ?_
    refine rx_icmp_ge (tgt := 89) d_M_tick_54 (by decide) (fun hc54 => ?_) (fun hc54 => ?_)
    · rw [if_pos hc54] at h
      refine rx_iload_n d_M_tick_89 rfl ?_
      exact rx_iret d_M_tick_90 rfl (ox_i hq h)
    · rw [if_neg hc54] at h
      refine rx_aload_n d_M_tick_57 rfl ?_
      refine rx_iload_n d_M_tick_58 rfl ?_
      obtain ⟨x12, s13, ex12, h⟩ := ob_inv h
      refine rx_callV1 c_M_tick_59 (Nat.le_of_ble_eq_true rfl) (E_M_isOn ex12 ?_)
      refine oj_step (P := fun J14 : Int32 → Option (Int32 × rx_S) => ∀ (x15 : Int32) (d1 : Option Value), J14 x15 = some (r, sz) → rx G me_M_tick 82 [some (.ref rx_o), d1, some (.int (l2))] [.int (x15)] s13 Q) h ?_ ?_
      · intro x15 d1 h
        refine rx_istore_n d_M_tick_82 (by decide) ?_
        refine rx_iincP d_M_tick_83 (by decide) rfl ?_
        refine rx_goto (tgt := 49) d_M_tick_86 (by decide) ?_
        exact ih _ _ _ h
      clear h
      intro J14 hJ3 h
      refine oj_step (P := fun J16 : Unit → Option (Int32 × rx_S) => ∀ (_u : Unit), J16 () = some (r, sz) → rx G me_M_tick 75 [some (.ref rx_o), some (.int (l1)), some (.int (l2))] [] s13 Q) h ?_ ?_
      · intro _u h
        refine rx_iload_n d_M_tick_75 rfl ?_
        refine rx_iconst (v := nI 1) d_M_tick_76 (by decide) ?_
        refine rx_iadd d_M_tick_77 ?_
        refine rx_goto (tgt := 82) d_M_tick_78 (by decide) ?_
        exact hJ3 _ _ h
      clear h
      intro J16 hJ4 h
      refine rx_if_ne (tgt := 75) d_M_tick_62 (by decide) (fun hc62 => ?_) (fun hc62 => ?_)
      · rw [if_neg hc62] at h
        exact hJ4 () h
      · rw [if_pos hc62] at h
        refine rx_aload_n d_M_tick_65 rfl ?_
        refine rx_gaf g_M_tick_66 (by decide) ?_
        refine rx_iload_n d_M_tick_69 rfl ?_
        obtain ⟨j17, hj17, ej17, h⟩ := og_inv (by decide) h
        refine rx_iald d_M_tick_70 rfl ej17 hj17 ?_
        refine rx_iconst (v := nI 3) d_M_tick_71 (by decide) ?_
        refine rx_icmp_ne (tgt := 81) d_M_tick_72 (by decide) (fun hc72 => ?_) (fun hc72 => ?_)
        · rw [if_neg hc72] at h
          refine rx_iload_n d_M_tick_81 rfl ?_
          exact hJ3 _ _ h
        · rw [if_pos hc72] at h
          exact hJ4 () h
theorem E_M_tick {G : bm_G} {f : Nat} {s sz : rx_S} {r : Int32} {Q : Int32 → rx_S → Prop} (h : D_M_tick f s = some (r, sz)) (hq : Q r sz) : rx_Ti G me_M_tick [.ref rx_o] s Q := by
  refine rx_meti (by decide) rfl (Nat.le_of_ble_eq_true rfl) ?_
  generalize hQ : (fun (v : bm_R) (s2 : rx_S) => ∃ x, v = .inl (some (.int x)) ∧ Q x s2) = Q2
  replace hq : Q2 (.inl (some (.int (r)))) sz := by rw [← hQ]; exact ⟨_, rfl, hq⟩
  clear hQ
  unfold D_M_tick at h
  refine rx_aload_n d_M_tick_0 rfl ?_
  refine rx_iconst (v := nI 0) d_M_tick_1 (by decide) ?_
  refine rx_psf p_M_tick_2 (by decide) rfl rfl rfl ?_
  refine rx_iconst (v := nI 0) d_M_tick_5 (by decide) ?_
  refine rx_istore_n d_M_tick_6 (by decide) ?_
  refine E_M_tick_7 (r := r) (sz := sz) hq ?_ _ _ _ _ h
  · intro d1 d2 s11 h
    refine rx_iconst (v := nI 0) d_M_tick_45 (by decide) ?_
    refine rx_istore_n d_M_tick_46 (by decide) ?_
    refine rx_iconst (v := nI 0) d_M_tick_47 (by decide) ?_
    refine rx_istore_n d_M_tick_48 (by decide) ?_
    refine E_M_tick_49 (r := r) (sz := sz) hq _ _ _ _ h
theorem E_M_batch {G : bm_G} {f : Nat} {l1 : Int32} {l2 : Int32} {s sz : rx_S} {r : Int32} {Q : Int32 → rx_S → Prop} (h : D_M_batch f l1 l2 s = some (r, sz)) (hq : Q r sz) : rx_Ti G me_M_batch [.ref rx_o, .int (l1), .int (l2)] s Q := by
  refine rx_meti (by decide) rfl (Nat.le_of_ble_eq_true rfl) ?_
  generalize hQ : (fun (v : bm_R) (s2 : rx_S) => ∃ x, v = .inl (some (.int x)) ∧ Q x s2) = Q2
  replace hq : Q2 (.inl (some (.int (r)))) sz := by rw [← hQ]; exact ⟨_, rfl, hq⟩
  clear hQ
  unfold D_M_batch at h
  refine rx_iload_n d_M_batch_0 rfl ?_
  refine rx_iconst (v := nI 0) d_M_batch_1 (by decide) ?_
  refine rx_iconst (v := nI 3) d_M_batch_2 (by decide) ?_
  obtain ⟨x1, s2, ex1, h⟩ := ob_inv h
  refine rx_callS3 c_M_batch_3 (Nat.le_of_ble_eq_true rfl) (E_M_in ex1 ?_)
  refine oj_step (P := fun J3 : Int32 → rx_S → Option (Int32 × rx_S) => ∀ (x4 : Int32) (s5 : rx_S) (d3 : Option Value), J3 x4 s5 = some (r, sz) → rx G me_M_batch 25 [some (.ref rx_o), some (.int (l1)), some (.int (l2)), d3] [.int (x4)] s5 Q2) h ?_ ?_
  · intro x4 s5 d3 h
    refine rx_istore_n d_M_batch_25 (by decide) ?_
    refine rx_aload_n d_M_batch_26 rfl ?_
    refine rx_iload_n d_M_batch_27 rfl ?_
    refine rx_iload_n d_M_batch_28 rfl ?_
    refine oj_step (P := fun J6 : Int32 → Option (Int32 × rx_S) => ∀ (x7 : Int32) (d3 : Option Value), J6 x7 = some (r, sz) → rx G me_M_batch 55 [some (.ref rx_o), some (.int (l1)), some (.int (l2)), d3] [.int (x7), .int (x4), .ref rx_o] s5 Q2) h ?_ ?_
    · intro x7 d3 h
      obtain ⟨x8, s9, ex8, h⟩ := ob_inv h
      refine rx_callV2 c_M_batch_55 (Nat.le_of_ble_eq_true rfl) (E_M_goes ex8 ?_)
      refine rx_if_ne (tgt := 63) d_M_batch_58 (by decide) (fun hc58 => ?_) (fun hc58 => ?_)
      · rw [if_neg hc58] at h
        refine rx_aload_n d_M_batch_63 rfl ?_
        refine rx_gaf g_M_batch_64 (by decide) ?_
        refine rx_aload_n d_M_batch_67 rfl ?_
        refine rx_gsf g_M_batch_68 (by decide) rfl ?_
        refine rx_iload_n d_M_batch_71 rfl ?_
        obtain ⟨j10, hj10, ej10, h⟩ := og_inv (by decide) h
        refine rx_iast d_M_batch_72 rfl ej10 hj10 ?_
        refine rx_aload_n d_M_batch_73 rfl ?_
        refine rx_gaf g_M_batch_74 (by decide) ?_
        refine rx_aload_n d_M_batch_77 rfl ?_
        refine rx_gsf g_M_batch_78 (by decide) rfl ?_
        refine rx_iload_n d_M_batch_81 rfl ?_
        obtain ⟨j11, hj11, ej11, h⟩ := og_inv (by decide) h
        refine rx_iast d_M_batch_82 rfl ej11 hj11 ?_
        refine rx_aload_n d_M_batch_83 rfl ?_
        refine rx_dup d_M_batch_84 rfl ?_
        refine rx_gsf g_M_batch_85 (by decide) rfl ?_
        refine rx_iconst (v := nI 1) d_M_batch_88 (by decide) ?_
        refine rx_iadd d_M_batch_89 ?_
        refine rx_psf p_M_batch_90 (by decide) rfl rfl rfl ?_
        refine rx_aload_n d_M_batch_93 rfl ?_
        refine rx_gsf g_M_batch_94 (by decide) rfl ?_
        refine rx_iconst (v := nI 1) d_M_batch_97 (by decide) ?_
        refine rx_isub d_M_batch_98 ?_
        exact rx_iret d_M_batch_99 rfl (ox_i hq h)
      · rw [if_pos hc58] at h
        refine rx_iconst (v := nI 0) d_M_batch_61 (by decide) ?_
        exact rx_iret d_M_batch_62 rfl (ox_i hq h)
    clear h
    intro J6 hJ1 h
    refine oj_step (P := fun J12 : Unit → Option (Int32 × rx_S) => ∀ (_u : Unit) (d3 : Option Value), J12 () = some (r, sz) → rx G me_M_batch 54 [some (.ref rx_o), some (.int (l1)), some (.int (l2)), d3] [.int (x4), .ref rx_o] s5 Q2) h ?_ ?_
    · intro _u d3 h
      refine rx_iconst (v := nI 0) d_M_batch_54 (by decide) ?_
      exact hJ1 _ _ h
    clear h
    intro J12 hJ2 h
    refine rx_if_eq (tgt := 54) d_M_batch_29 (by decide) (fun hc29 => ?_) (fun hc29 => ?_)
    · rw [if_pos hc29] at h
      exact hJ2 () _ h
    · rw [if_neg hc29] at h
      refine rx_aload_n d_M_batch_32 rfl ?_
      refine rx_gaf g_M_batch_33 (by decide) ?_
      refine rx_iload_n d_M_batch_36 rfl ?_
      obtain ⟨j13, hj13, ej13, h⟩ := og_inv (by decide) h
      refine rx_zald d_M_batch_37 rfl ej13 hj13 ?_
      refine rx_if_eq (tgt := 54) d_M_batch_38 (by decide) (fun hc38 => ?_) (fun hc38 => ?_)
      · rw [if_pos hc38] at h
        exact hJ2 () _ h
      · rw [if_neg hc38] at h
        refine rx_aload_n d_M_batch_41 rfl ?_
        refine rx_gsf g_M_batch_42 (by decide) rfl ?_
        refine rx_bipush (v := nI 16) d_M_batch_45 (by decide) ?_
        refine rx_icmp_ge (tgt := 54) d_M_batch_47 (by decide) (fun hc47 => ?_) (fun hc47 => ?_)
        · rw [if_pos hc47] at h
          exact hJ2 () _ h
        · rw [if_neg hc47] at h
          refine rx_iconst (v := nI 1) d_M_batch_50 (by decide) ?_
          refine rx_goto (tgt := 55) d_M_batch_51 (by decide) ?_
          exact hJ1 _ _ h
  clear h
  intro J3 hJ3 h
  refine oj_step (P := fun J14 : rx_S → Option (Int32 × rx_S) => ∀ (s15 : rx_S) (d3 : Option Value), J14 s15 = some (r, sz) → rx G me_M_batch 24 [some (.ref rx_o), some (.int (l1)), some (.int (l2)), d3] [] s15 Q2) h ?_ ?_
  · intro s15 d3 h
    refine rx_iconst (v := nI 0) d_M_batch_24 (by decide) ?_
    exact hJ3 _ _ _ h
  clear h
  intro J14 hJ4 h
  refine rx_if_eq (tgt := 24) d_M_batch_6 (by decide) (fun hc6 => ?_) (fun hc6 => ?_)
  · rw [if_pos hc6] at h
    exact hJ4 _ _ h
  · rw [if_neg hc6] at h
    refine rx_iload_n d_M_batch_9 rfl ?_
    refine rx_iconst (v := nI 0) d_M_batch_10 (by decide) ?_
    refine rx_sipush (v := nI 1000) d_M_batch_11 (by decide) ?_
    obtain ⟨x16, s17, ex16, h⟩ := ob_inv h
    refine rx_callS3 c_M_batch_14 (Nat.le_of_ble_eq_true rfl) (E_M_in ex16 ?_)
    refine rx_if_eq (tgt := 24) d_M_batch_17 (by decide) (fun hc17 => ?_) (fun hc17 => ?_)
    · rw [if_pos hc17] at h
      exact hJ4 _ _ h
    · rw [if_neg hc17] at h
      refine rx_iconst (v := nI 1) d_M_batch_20 (by decide) ?_
      refine rx_goto (tgt := 25) d_M_batch_21 (by decide) ?_
      exact hJ3 _ _ _ h
theorem E_M_isBatch {G : bm_G} {f : Nat} {l1 : Int32} {s sz : rx_S} {r : Int32} {Q : Int32 → rx_S → Prop} (h : D_M_isBatch f l1 s = some (r, sz)) (hq : Q r sz) : rx_Ti G me_M_isBatch [.ref rx_o, .int (l1)] s Q := by
  refine rx_meti (by decide) rfl (Nat.le_of_ble_eq_true rfl) ?_
  generalize hQ : (fun (v : bm_R) (s2 : rx_S) => ∃ x, v = .inl (some (.int x)) ∧ Q x s2) = Q2
  replace hq : Q2 (.inl (some (.int (r)))) sz := by rw [← hQ]; exact ⟨_, rfl, hq⟩
  clear hQ
  unfold D_M_isBatch at h
  refine rx_iload_n d_M_isBatch_0 rfl ?_
  refine rx_iconst (v := nI 0) d_M_isBatch_1 (by decide) ?_
  refine rx_aload_n d_M_isBatch_2 rfl ?_
  refine rx_gsf g_M_isBatch_3 (by decide) rfl ?_
  refine rx_iconst (v := nI 1) d_M_isBatch_6 (by decide) ?_
  refine rx_isub d_M_isBatch_7 ?_
  obtain ⟨x1, s2, ex1, h⟩ := ob_inv h
  refine rx_callS3 c_M_isBatch_8 (Nat.le_of_ble_eq_true rfl) (E_M_in ex1 ?_)
  obtain ⟨hz, h⟩ := ozb_inv h
  exact rx_zret d_M_isBatch_11 rfl (ozb_nar hz) (ox_i hq h)
