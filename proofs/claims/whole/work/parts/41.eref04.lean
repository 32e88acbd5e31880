theorem E_M_brings {G : bm_G} {f : Nat} {l1 : Int32} {l2 : Int32} {l3 : Int32} {l4 : Int32} {s sz : rx_S} {r : Int32} {Q : rx_S → Prop} (h : D_M_brings f l1 l2 l3 l4 s = some (r, sz)) (hq : Q sz) : rx_Tv G me_M_brings [.ref rx_o, .int (l1), .int (l2), .int (l3), .int (l4)] s Q := by
  refine rx_metv (by decide) rfl (Nat.le_of_ble_eq_true rfl) ?_
  generalize hQ : (fun (v : bm_R) (s2 : rx_S) => v = .inl none ∧ Q s2) = Q2
  replace hq : Q2 (.inl none) sz := by rw [← hQ]; exact ⟨rfl, hq⟩
  clear hQ
  unfold D_M_brings at h
  refine rx_aload_n d_M_brings_0 rfl ?_
  refine rx_gaf g_M_brings_1 (by decide) ?_
  refine rx_iload_n d_M_brings_4 rfl ?_
  refine rx_iconst (v := nI 1) d_M_brings_5 (by decide) ?_
  obtain ⟨j1, hj1, ej1, h⟩ := og_inv (by decide) h
  refine rx_zast d_M_brings_6 rfl ej1 hj1 (by decide) ?_
  refine rx_aload_n d_M_brings_7 rfl ?_
  refine rx_gaf g_M_brings_8 (by decide) ?_
  refine rx_bipush (v := nI 12) d_M_brings_11 (by decide) ?_
  refine rx_iload_n d_M_brings_13 rfl ?_
  refine rx_imul d_M_brings_14 ?_
  refine rx_iload_n d_M_brings_15 rfl ?_
  refine rx_iadd d_M_brings_16 ?_
  obtain ⟨j2, hj2, ej2, h⟩ := og_inv (by decide) h
  refine rx_iald d_M_brings_17 rfl ej2 hj2 ?_
  refine rx_bipush (v := nI 6) d_M_brings_18 (by decide) ?_
  refine oj_step (P := fun J3 : rx_S → Option (Int32 × rx_S) => ∀ (s4 : rx_S) (d0 : Option Value) (d1 : Option Value) (d2 : Option Value) (d3 : Option Value) (d4 : Option Value), J3 s4 = some (r, sz) → rx G me_M_brings 77 [d0, d1, d2, d3, d4] [] s4 Q2) h ?_ ?_
  · intro s4 d0 d1 d2 d3 d4 h
    exact rx_vret d_M_brings_77 rfl (ox_v hq h)
  clear h
  intro J3 hJ1 h
  refine rx_icmp_eq (tgt := 37) d_M_brings_20 (by decide) (fun hc20 => ?_) (fun hc20 => ?_)
  · rw [if_pos hc20] at h
    refine rx_aload_n d_M_brings_37 rfl ?_
    refine rx_gaf g_M_brings_38 (by decide) ?_
    refine rx_iload_n d_M_brings_41 rfl ?_
    obtain ⟨j5, hj5, ej5, h⟩ := og_inv (by decide) h
    refine rx_iald d_M_brings_42 rfl ej5 hj5 ?_
    refine rx_aload_n d_M_brings_43 rfl ?_
    refine rx_gaf g_M_brings_44 (by decide) ?_
    refine rx_iload_n d_M_brings_47 rfl ?_
    refine rx_iald d_M_brings_48 rfl ej1 hj1 ?_
    refine rx_icmp_ne (tgt := 66) d_M_brings_49 (by decide) (fun hc49 => ?_) (fun hc49 => ?_)
    · rw [if_neg hc49] at h
      refine rx_aload_n d_M_brings_66 rfl ?_
      refine rx_gaf g_M_brings_67 (by decide) ?_
      refine rx_iload_n d_M_brings_70 rfl ?_
      refine rx_dup2 d_M_brings_71 rfl rfl ?_
      refine rx_iald d_M_brings_72 rfl ej1 hj1 ?_
      refine rx_iload d_M_brings_73 rfl ?_
      refine rx_iand d_M_brings_75 ?_
      refine rx_iast d_M_brings_76 rfl ej1 hj1 ?_
      exact hJ1 _ _ _ _ _ _ h
    · rw [if_pos hc49] at h
      refine rx_aload_n d_M_brings_52 rfl ?_
      refine rx_gaf g_M_brings_53 (by decide) ?_
      refine rx_iload_n d_M_brings_56 rfl ?_
      refine rx_dup2 d_M_brings_57 rfl rfl ?_
      refine rx_iald d_M_brings_58 rfl ej1 hj1 ?_
      refine rx_iload d_M_brings_59 rfl ?_
      refine rx_iand d_M_brings_61 ?_
      refine rx_iast d_M_brings_62 rfl ej1 hj1 ?_
      refine rx_goto (tgt := 77) d_M_brings_63 (by decide) ?_
      exact hJ1 _ _ _ _ _ _ h
  · rw [if_neg hc20] at h
    refine rx_aload_n d_M_brings_23 rfl ?_
    refine rx_gaf g_M_brings_24 (by decide) ?_
    refine rx_iload_n d_M_brings_27 rfl ?_
    refine rx_dup2 d_M_brings_28 rfl rfl ?_
    refine rx_iald d_M_brings_29 rfl ej1 hj1 ?_
    refine rx_iload d_M_brings_30 rfl ?_
    refine rx_iand d_M_brings_32 ?_
    refine rx_iast d_M_brings_33 rfl ej1 hj1 ?_
    refine rx_goto (tgt := 77) d_M_brings_34 (by decide) ?_
    exact hJ1 _ _ _ _ _ _ h
theorem E_M_measures_2 {G : bm_G} {f : Nat} {l1 : Int32} {k61 : rx_S → Option (Int32 × rx_S)} {r : Int32} {sz : rx_S} {Q : bm_R → rx_S → Prop} (hq : Q (.inl (some (.int (r)))) sz) (hk61 : ∀ (d2 : Option Value) (d3 : Option Value) (d4 : Option Value) (d5 : Option Value) (s : rx_S), k61 s = some (r, sz) → rx G me_M_measures 61 [some (.ref rx_o), some (.int (l1)), d2, d3, d4, d5] [] s Q) : ∀ (n : Nat) (l2 : Int32) (d3 : Option Value) (d4 : Option Value) (d5 : Option Value) (s : rx_S), D_M_measures_2 f l1 k61 n l2 s = some (r, sz) → rx G me_M_measures 2 [some (.ref rx_o), some (.int (l1)), some (.int (l2)), d3, d4, d5] [] s Q := by
  intro n
  induction n with
  | zero =>
    intro l2 d3 d4 d5 s h
    rw [D_M_measures_2] at h
    exact absurd h (by simp)
  | succ n ih =>
    intro l2 d3 d4 d5 s h
    rw [D_M_measures_2] at h
    refine rx_iload_n d_M_measures_2 rfl ?_
    refine rx_bipush (v := nI 12) d_M_measures_3 (by decide) ?_
    refine rx_icmp_ge (tgt := 61) d_M_measures_5 (by decide) (fun hc5 => ?_) (fun hc5 => ?_)
    · rw [if_pos hc5] at h
      exact hk61 _ _ _ _ _ h
    · rw [if_neg hc5] at h
      refine rx_aload_n d_M_measures_8 rfl ?_
      refine rx_gaf g_M_measures_9 (by decide) ?_
      refine rx_iload_n d_M_measures_12 rfl ?_
      refine rx_iload_n d_M_measures_13 rfl ?_
      refine oj_step (P := fun J1 : Int32 → Option (Int32 × rx_S) => ∀ (x2 : Int32) (d3 : Option Value) (d4 : Option Value) (d5 : Option Value), J1 x2 = some (r, sz) → rx G me_M_measures 22 [some (.ref rx_o), some (.int (l1)), some (.int (l2)), d3, d4, d5] [.int (x2), .int (l2), .ref (rx_a 47)] s Q) h ?_ ?_
      · intro x2 d3 d4 d5 h
        obtain ⟨j3, hj3, ej3, h⟩ := og_inv (by decide) h
        obtain ⟨hz22, h⟩ := ozb_inv h
        refine rx_zast d_M_measures_22 rfl ej3 hj3 (ozb_vn hz22) ?_
        refine rx_aload_n d_M_measures_23 rfl ?_
        refine rx_gaf g_M_measures_24 (by decide) ?_
        refine rx_iload_n d_M_measures_27 rfl ?_
        refine rx_iload_n d_M_measures_28 rfl ?_
        refine oj_step (P := fun J4 : Int32 → Option (Int32 × rx_S) => ∀ (x5 : Int32) (d3 : Option Value) (d4 : Option Value) (d5 : Option Value), J4 x5 = some (r, sz) → rx G me_M_measures 38 [some (.ref rx_o), some (.int (l1)), some (.int (l2)), d3, d4, d5] [.int (x5), .int (l2), .ref (rx_a 44)] (rx_up s 47 j3 x2) Q) h ?_ ?_
        · intro x5 d3 d4 d5 h
          refine rx_iast d_M_measures_38 rfl ej3 hj3 ?_
          refine rx_aload_n d_M_measures_39 rfl ?_
          refine rx_gaf g_M_measures_40 (by decide) ?_
          refine rx_iload_n d_M_measures_43 rfl ?_
          refine rx_bipush (v := nI 15) d_M_measures_44 (by decide) ?_
          refine rx_iast d_M_measures_46 rfl ej3 hj3 ?_
          refine rx_aload_n d_M_measures_47 rfl ?_
          refine rx_gaf g_M_measures_48 (by decide) ?_
          refine rx_iload_n d_M_measures_51 rfl ?_
          refine rx_bipush (v := nI 15) d_M_measures_52 (by decide) ?_
          refine rx_iast d_M_measures_54 rfl ej3 hj3 ?_
          refine rx_iincP d_M_measures_55 (by decide) rfl ?_
          refine rx_goto (tgt := 2) d_M_measures_58 (by decide) ?_
          exact ih _ _ _ _ _ h
        clear h
        intro J4 hJ1 h
        refine rx_if_ne (tgt := 36) d_M_measures_29 (by decide) (fun hc29 => ?_) (fun hc29 => ?_)
        · rw [if_neg hc29] at h
          refine rx_bipush (v := nI 15) d_M_measures_36 (by decide) ?_
          exact hJ1 _ _ _ _ h
        · rw [if_pos hc29] at h
          refine rx_iconst (v := nI 0) d_M_measures_32 (by decide) ?_
          refine rx_goto (tgt := 38) d_M_measures_33 (by decide) ?_
          exact hJ1 _ _ _ _ h
      clear h
      intro J1 hJ2 h
      refine rx_if_ne (tgt := 21) d_M_measures_14 (by decide) (fun hc14 => ?_) (fun hc14 => ?_)
      · rw [if_neg hc14] at h
        refine rx_iconst (v := nI 0) d_M_measures_21 (by decide) ?_
        exact hJ2 _ _ _ _ h
      · rw [if_pos hc14] at h
        refine rx_iconst (v := nI 1) d_M_measures_17 (by decide) ?_
        refine rx_goto (tgt := 22) d_M_measures_18 (by decide) ?_
        exact hJ2 _ _ _ _ h
theorem E_M_measures_65 {G : bm_G} {f : Nat} {l1 : Int32} {r : Int32} {sz : rx_S} {Q : bm_R → rx_S → Prop} (hq : Q (.inl (some (.int (r)))) sz) : ∀ (n : Nat) (l2 : Int32) (l3 : Int32) (d4 : Option Value) (d5 : Option Value) (s : rx_S), D_M_measures_65 f l1 n l2 l3 s = some (r, sz) → rx G me_M_measures 65 [some (.ref rx_o), some (.int (l1)), some (.int (l2)), some (.int (l3)), d4, d5] [] s Q := by
  intro n
  induction n with
  | zero =>
    intro l2 l3 d4 d5 s h
    rw [D_M_measures_65] at h
    exact absurd h (by simp)
  | succ n ih =>
    intro l2 l3 d4 d5 s h
    rw [D_M_measures_65] at h
    refine rx_iload_n d_M_measures_65 rfl ?_
    refine rx_aload_n d_M_measures_66 rfl ?_
    refine rx_gaf g_M_measures_67 (by decide) ?_
    refine rx_iload_n d_M_measures_70 rfl ?_
    obtain ⟨j7, hj7, ej7, h⟩ := og_inv (by decide) h
    refine rx_iald d_M_measures_71 rfl ej7 hj7 ?_
    refine rx_icmp_ge (tgt := 292) d_M_measures_72 (by decide) (fun hc72 => ?_) (fun hc72 => ?_)
    · rw [if_pos hc72] at h
      refine rx_iload_n d_M_measures_292 rfl ?_
      obtain ⟨hz, h⟩ := ozb_inv h
      exact rx_zret d_M_measures_293 rfl (ozb_nar hz) (ox_i hq h)
    · rw [if_neg hc72] at h
      refine rx_bipush (v := nI 12) d_M_measures_75 (by decide) ?_
      refine rx_iload_n d_M_measures_77 rfl ?_
      refine rx_imul d_M_measures_78 ?_
      refine rx_iload_n d_M_measures_79 rfl ?_
      refine rx_iadd d_M_measures_80 ?_
      refine rx_istore d_M_measures_81 (by decide) ?_
      refine rx_aload_n d_M_measures_83 rfl ?_
      refine rx_gaf g_M_measures_84 (by decide) ?_
      refine rx_iload d_M_measures_87 rfl ?_
      obtain ⟨j8, hj8, ej8, h⟩ := og_inv (by decide) h
      refine rx_iald d_M_measures_89 rfl ej8 hj8 ?_
      refine rx_bipush (v := nI 6) d_M_measures_90 (by decide) ?_
      refine oj_step (P := fun J9 : rx_S → Option (Int32 × rx_S) => ∀ (s10 : rx_S) (d5 : Option Value), J9 s10 = some (r, sz) → rx G me_M_measures 114 [some (.ref rx_o), some (.int (l1)), some (.int (l2)), some (.int (l3)), some (.int (((nI 12) * l1) + l3)), d5] [] s10 Q) h ?_ ?_
      · intro s10 d5 h
        refine rx_iload_n d_M_measures_114 rfl ?_
        refine oj_step (P := fun J11 : Int32 → Option (Int32 × rx_S) => ∀ (x12 : Int32) (d2 : Option Value) (d5 : Option Value), J11 x12 = some (r, sz) → rx G me_M_measures 164 [some (.ref rx_o), some (.int (l1)), d2, some (.int (l3)), some (.int (((nI 12) * l1) + l3)), d5] [.int (x12)] s10 Q) h ?_ ?_
        · intro x12 d2 d5 h
          refine rx_istore_n d_M_measures_164 (by decide) ?_
          refine rx_aload_n d_M_measures_165 rfl ?_
          refine rx_gaf g_M_measures_166 (by decide) ?_
          refine rx_iload d_M_measures_169 rfl ?_
          refine rx_iald d_M_measures_171 rfl ej8 hj8 ?_
          refine rx_iconst (v := nI 4) d_M_measures_172 (by decide) ?_
          refine oj_step (P := fun J13 : Int32 → Option (Int32 × rx_S) => ∀ (x14 : Int32) (d5 : Option Value), J13 x14 = some (r, sz) → rx G me_M_measures 201 [some (.ref rx_o), some (.int (l1)), some (.int (x12)), some (.int (l3)), some (.int (((nI 12) * l1) + l3)), d5] [.int (x14)] s10 Q) h ?_ ?_
          · intro x14 d5 h
            refine rx_istore d_M_measures_201 (by decide) ?_
            refine rx_aload_n d_M_measures_203 rfl ?_
            refine rx_gaf g_M_measures_204 (by decide) ?_
            refine rx_iload_n d_M_measures_207 rfl ?_
            obtain ⟨j15, hj15, ej15, h⟩ := og_inv (by decide) h
            refine rx_zald d_M_measures_208 rfl ej15 hj15 ?_
            refine oj_step (P := fun J16 : rx_S → Option (Int32 × rx_S) => ∀ (s17 : rx_S), J16 s17 = some (r, sz) → rx G me_M_measures 239 [some (.ref rx_o), some (.int (l1)), some (.int (x12)), some (.int (l3)), some (.int (((nI 12) * l1) + l3)), some (.int (x14))] [] s17 Q) h ?_ ?_
            · intro s17 h
              refine rx_aload_n d_M_measures_239 rfl ?_
              refine rx_gaf g_M_measures_240 (by decide) ?_
              refine rx_iload_n d_M_measures_243 rfl ?_
              refine rx_zald d_M_measures_244 rfl ej15 hj15 ?_
              refine oj_step (P := fun J18 : rx_S → Option (Int32 × rx_S) => ∀ (s19 : rx_S) (d4 : Option Value) (d5 : Option Value), J18 s19 = some (r, sz) → rx G me_M_measures 286 [some (.ref rx_o), some (.int (l1)), some (.int (x12)), some (.int (l3)), d4, d5] [] s19 Q) h ?_ ?_
              · intro s19 d4 d5 h
                refine rx_iincP d_M_measures_286 (by decide) rfl ?_
                refine rx_goto (tgt := 65) d_M_measures_289 (by decide) ?_
                exact ih _ _ _ _ _ h
              clear h
              intro J18 hJ3 h
              refine rx_if_eq (tgt := 286) d_M_measures_245 (by decide) (fun hc245 => ?_) (fun hc245 => ?_)
              · rw [if_pos hc245] at h
                exact hJ3 _ _ _ h
              · rw [if_neg hc245] at h
                refine rx_aload_n d_M_measures_248 rfl ?_
                refine rx_gaf g_M_measures_249 (by decide) ?_
                refine rx_iload d_M_measures_252 rfl ?_
                refine rx_iald d_M_measures_254 rfl ej8 hj8 ?_
                refine rx_iconst (v := nI 5) d_M_measures_255 (by decide) ?_
                refine oj_step (P := fun J20 : Unit → Option (Int32 × rx_S) => ∀ (_u : Unit), J20 () = some (r, sz) → rx G me_M_measures 271 [some (.ref rx_o), some (.int (l1)), some (.int (x12)), some (.int (l3)), some (.int (((nI 12) * l1) + l3)), some (.int (x14))] [] s17 Q) h ?_ ?_
                · intro _u h
                  refine rx_aload_n d_M_measures_271 rfl ?_
                  refine rx_iload_n d_M_measures_272 rfl ?_
                  refine rx_iload_n d_M_measures_273 rfl ?_
                  refine rx_aload_n d_M_measures_274 rfl ?_
                  refine rx_gaf g_M_measures_275 (by decide) ?_
                  refine rx_iload d_M_measures_278 rfl ?_
                  refine rx_iald d_M_measures_280 rfl ej8 hj8 ?_
                  refine rx_iload d_M_measures_281 rfl ?_
                  obtain ⟨x21, s22, ex21, h⟩ := ob_inv h
                  refine rx_callV4v c_M_measures_283 (Nat.le_of_ble_eq_true rfl) (E_M_brings ex21 ?_)
                  exact hJ3 _ _ _ h
                clear h
                intro J20 hJ4 h
                refine rx_icmp_eq (tgt := 271) d_M_measures_256 (by decide) (fun hc256 => ?_) (fun hc256 => ?_)
                · rw [if_pos hc256] at h
                  exact hJ4 () h
                · rw [if_neg hc256] at h
                  refine rx_aload_n d_M_measures_259 rfl ?_
                  refine rx_gaf g_M_measures_260 (by decide) ?_
                  refine rx_iload d_M_measures_263 rfl ?_
                  refine rx_iald d_M_measures_265 rfl ej8 hj8 ?_
                  refine rx_bipush (v := nI 7) d_M_measures_266 (by decide) ?_
                  refine rx_icmp_ne (tgt := 286) d_M_measures_268 (by decide) (fun hc268 => ?_) (fun hc268 => ?_)
                  · rw [if_neg hc268] at h
                    exact hJ3 _ _ _ h
                  · rw [if_pos hc268] at h
                    exact hJ4 () h
            clear h
            intro J16 hJ5 h
            refine rx_if_eq (tgt := 239) d_M_measures_209 (by decide) (fun hc209 => ?_) (fun hc209 => ?_)
            · rw [if_pos hc209] at h
              exact hJ5 _ h
            · rw [if_neg hc209] at h
              refine rx_aload_n d_M_measures_212 rfl ?_
              refine rx_gaf g_M_measures_213 (by decide) ?_
              refine rx_iload d_M_measures_216 rfl ?_
              refine rx_iald d_M_measures_218 rfl ej8 hj8 ?_
              refine rx_bipush (v := nI 9) d_M_measures_219 (by decide) ?_
              refine rx_icmp_eq (tgt := 239) d_M_measures_221 (by decide) (fun hc221 => ?_) (fun hc221 => ?_)
              · rw [if_pos hc221] at h
                exact hJ5 _ h
              · rw [if_neg hc221] at h
                refine rx_aload_n d_M_measures_224 rfl ?_
                refine rx_iload_n d_M_measures_225 rfl ?_
                refine rx_iload_n d_M_measures_226 rfl ?_
                refine rx_aload_n d_M_measures_227 rfl ?_
                refine rx_gaf g_M_measures_228 (by decide) ?_
                refine rx_iload d_M_measures_231 rfl ?_
                refine rx_iald d_M_measures_233 rfl ej8 hj8 ?_
                refine rx_iload d_M_measures_234 rfl ?_
                obtain ⟨x23, s24, ex23, h⟩ := ob_inv h
                refine rx_callV4v c_M_measures_236 (Nat.le_of_ble_eq_true rfl) (E_M_brings ex23 ?_)
                exact hJ5 _ h
          clear h
          intro J13 hJ6 h
          refine rx_icmp_ne (tgt := 195) d_M_measures_173 (by decide) (fun hc173 => ?_) (fun hc173 => ?_)
          · rw [if_neg hc173] at h
            refine rx_aload_n d_M_measures_195 rfl ?_
            refine rx_gaf g_M_measures_196 (by decide) ?_
            refine rx_iload_n d_M_measures_199 rfl ?_
            obtain ⟨j26, hj26, ej26, h⟩ := og_inv (by decide) h
            refine rx_iald d_M_measures_200 rfl ej26 hj26 ?_
            exact hJ6 _ _ h
          · rw [if_pos hc173] at h
            refine rx_aload_n d_M_measures_176 rfl ?_
            refine rx_gaf g_M_measures_177 (by decide) ?_
            refine rx_iload_n d_M_measures_180 rfl ?_
            obtain ⟨j25, hj25, ej25, h⟩ := og_inv (by decide) h
            refine rx_iald d_M_measures_181 rfl ej25 hj25 ?_
            refine rx_iconst (v := nI 1) d_M_measures_182 (by decide) ?_
            refine rx_aload_n d_M_measures_183 rfl ?_
            refine rx_gaf g_M_measures_184 (by decide) ?_
            refine rx_iload d_M_measures_187 rfl ?_
            refine rx_iald d_M_measures_189 rfl ej8 hj8 ?_
            refine rx_ishl d_M_measures_190 ?_
            refine rx_ior d_M_measures_191 ?_
            refine rx_goto (tgt := 201) d_M_measures_192 (by decide) ?_
            exact hJ6 _ _ h
        clear h
        intro J11 hJ7 h
        refine oj_step (P := fun J27 : Unit → Option (Int32 × rx_S) => ∀ (_u : Unit) (d2 : Option Value) (d5 : Option Value), J27 () = some (r, sz) → rx G me_M_measures 163 [some (.ref rx_o), some (.int (l1)), d2, some (.int (l3)), some (.int (((nI 12) * l1) + l3)), d5] [] s10 Q) h ?_ ?_
        · intro _u d2 d5 h
          refine rx_iconst (v := nI 0) d_M_measures_163 (by decide) ?_
          exact hJ7 _ _ _ h
        clear h
        intro J27 hJ8 h
        refine rx_if_eq (tgt := 163) d_M_measures_115 (by decide) (fun hc115 => ?_) (fun hc115 => ?_)
        · rw [if_pos hc115] at h
          exact hJ8 () _ _ h
        · rw [if_neg hc115] at h
          refine rx_aload_n d_M_measures_118 rfl ?_
          refine rx_gaf g_M_measures_119 (by decide) ?_
          refine rx_iload d_M_measures_122 rfl ?_
          refine rx_iald d_M_measures_124 rfl ej8 hj8 ?_
          refine rx_bipush (v := nI 7) d_M_measures_125 (by decide) ?_
          refine oj_step (P := fun J28 : Unit → Option (Int32 × rx_S) => ∀ (_u : Unit) (d2 : Option Value) (d5 : Option Value), J28 () = some (r, sz) → rx G me_M_measures 159 [some (.ref rx_o), some (.int (l1)), d2, some (.int (l3)), some (.int (((nI 12) * l1) + l3)), d5] [] s10 Q) h ?_ ?_
          · intro _u d2 d5 h
            refine rx_iconst (v := nI 1) d_M_measures_159 (by decide) ?_
            refine rx_goto (tgt := 164) d_M_measures_160 (by decide) ?_
            exact hJ7 _ _ _ h
          clear h
          intro J28 hJ9 h
          refine rx_icmp_ne (tgt := 159) d_M_measures_127 (by decide) (fun hc127 => ?_) (fun hc127 => ?_)
          · rw [if_neg hc127] at h
            exact hJ9 () _ _ h
          · rw [if_pos hc127] at h
            refine rx_aload_n d_M_measures_130 rfl ?_
            refine rx_gaf g_M_measures_131 (by decide) ?_
            refine rx_iload_n d_M_measures_134 rfl ?_
            obtain ⟨j29, hj29, ej29, h⟩ := og_inv (by decide) h
            refine rx_zald d_M_measures_135 rfl ej29 hj29 ?_
            refine rx_if_eq (tgt := 159) d_M_measures_136 (by decide) (fun hc136 => ?_) (fun hc136 => ?_)
            · rw [if_pos hc136] at h
              exact hJ9 () _ _ h
            · rw [if_neg hc136] at h
              refine rx_aload_n d_M_measures_139 rfl ?_
              refine rx_gaf g_M_measures_140 (by decide) ?_
              refine rx_iload_n d_M_measures_143 rfl ?_
              refine rx_iald d_M_measures_144 rfl ej29 hj29 ?_
              refine rx_aload_n d_M_measures_145 rfl ?_
              refine rx_gaf g_M_measures_146 (by decide) ?_
              refine rx_iload d_M_measures_149 rfl ?_
              refine rx_iald d_M_measures_151 rfl ej8 hj8 ?_
              refine rx_ishr d_M_measures_152 ?_
              refine rx_iconst (v := nI 1) d_M_measures_153 (by decide) ?_
              refine rx_iand d_M_measures_154 ?_
              refine rx_iconst (v := nI 1) d_M_measures_155 (by decide) ?_
              refine rx_icmp_ne (tgt := 163) d_M_measures_156 (by decide) (fun hc156 => ?_) (fun hc156 => ?_)
              · rw [if_neg hc156] at h
                exact hJ8 () _ _ h
              · rw [if_pos hc156] at h
                exact hJ9 () _ _ h
      clear h
      intro J9 hJ10 h
      refine rx_icmp_ne (tgt := 114) d_M_measures_92 (by decide) (fun hc92 => ?_) (fun hc92 => ?_)
      · rw [if_neg hc92] at h
        exact hJ10 _ _ h
      · rw [if_pos hc92] at h
        refine rx_aload_n d_M_measures_95 rfl ?_
        refine rx_gaf g_M_measures_96 (by decide) ?_
        refine rx_iload_n d_M_measures_99 rfl ?_
        refine rx_aload_n d_M_measures_100 rfl ?_
        refine rx_gaf g_M_measures_101 (by decide) ?_
        refine rx_iload_n d_M_measures_104 rfl ?_
        obtain ⟨j30, hj30, ej30, h⟩ := og_inv (by decide) h
        refine rx_iald d_M_measures_105 rfl ej30 hj30 ?_
        refine rx_aload_n d_M_measures_106 rfl ?_
        refine rx_gaf g_M_measures_107 (by decide) ?_
        refine rx_iload_n d_M_measures_110 rfl ?_
        refine rx_iald d_M_measures_111 rfl ej30 hj30 ?_
        refine rx_ior d_M_measures_112 ?_
        refine rx_iast d_M_measures_113 rfl ej30 hj30 ?_
        exact hJ10 _ _ h
theorem E_M_measures {G : bm_G} {f : Nat} {l1 : Int32} {s sz : rx_S} {r : Int32} {Q : Int32 → rx_S → Prop} (h : D_M_measures f l1 s = some (r, sz)) (hq : Q r sz) : rx_Ti G me_M_measures [.ref rx_o, .int (l1)] s Q := by
  refine rx_meti (by decide) rfl (Nat.le_of_ble_eq_true rfl) ?_
  generalize hQ : (fun (v : bm_R) (s2 : rx_S) => ∃ x, v = .inl (some (.int x)) ∧ Q x s2) = Q2
  replace hq : Q2 (.inl (some (.int (r)))) sz := by rw [← hQ]; exact ⟨_, rfl, hq⟩
  clear hQ
  unfold D_M_measures at h
  refine rx_iconst (v := nI 0) d_M_measures_0 (by decide) ?_
  refine rx_istore_n d_M_measures_1 (by decide) ?_
  refine E_M_measures_2 (r := r) (sz := sz) hq ?_ _ _ _ _ _ _ h
  · intro d2 d3 d4 d5 s6 h
    refine rx_iconst (v := nI 1) d_M_measures_61 (by decide) ?_
    refine rx_istore_n d_M_measures_62 (by decide) ?_
    refine rx_iconst (v := nI 0) d_M_measures_63 (by decide) ?_
    refine rx_istore_n d_M_measures_64 (by decide) ?_
    refine E_M_measures_65 (r := r) (sz := sz) hq _ _ _ _ _ _ h
theorem E_M_hasUnits_15 {G : bm_G} {f : Nat} {l1 : Int32} {l2 : Int32} {l3 : Int32} {k50 : Int32 → rx_S → Option (Int32 × rx_S)} {r : Int32} {sz : rx_S} {Q : bm_R → rx_S → Prop} (hq : Q (.inl (some (.int (r)))) sz) (hk50 : ∀ (q4 : Int32) (d5 : Option Value) (s : rx_S), k50 q4 s = some (r, sz) → rx G me_M_hasUnits 50 [some (.ref rx_o), some (.int (l1)), some (.int (l2)), some (.int (l3)), some (.int (q4)), d5] [] s Q) : ∀ (n : Nat) (l4 : Int32) (l5 : Int32) (s : rx_S), D_M_hasUnits_15 f l1 l2 l3 k50 n l4 l5 s = some (r, sz) → rx G me_M_hasUnits 15 [some (.ref rx_o), some (.int (l1)), some (.int (l2)), some (.int (l3)), some (.int (l4)), some (.int (l5))] [] s Q := by
  intro n
  induction n with
  | zero =>
    intro l4 l5 s h
    rw [D_M_hasUnits_15] at h
    exact absurd h (by simp)
  | succ n ih =>
    intro l4 l5 s h
    rw [D_M_hasUnits_15] at h
    refine rx_iload d_M_hasUnits_15 rfl ?_
    refine rx_bipush (v := nI 6) d_M_hasUnits_17 (by decide) ?_
    refine rx_icmp_ge (tgt := 50) d_M_hasUnits_19 (by decide) (fun hc19 => ?_) (fun hc19 => ?_)
    · rw [if_pos hc19] at h
      exact hk50 _ _ _ h
    · rw [if_neg hc19] at h
      refine rx_aload_n d_M_hasUnits_22 rfl ?_
      refine rx_gaf g_M_hasUnits_23 (by decide) ?_
      refine rx_iload d_M_hasUnits_26 rfl ?_
      obtain ⟨j1, hj1, ej1, h⟩ := og_inv (by decide) h
      refine rx_iald d_M_hasUnits_28 rfl ej1 hj1 ?_
      refine rx_iload_n d_M_hasUnits_29 rfl ?_
      refine oj_step (P := fun J2 : Int32 → Option (Int32 × rx_S) => ∀ (x3 : Int32) (d4 : Option Value), J2 x3 = some (r, sz) → rx G me_M_hasUnits 42 [some (.ref rx_o), some (.int (l1)), some (.int (l2)), some (.int (l3)), d4, some (.int (l5))] [.int (x3)] s Q) h ?_ ?_
      · intro x3 d4 h
        refine rx_istore d_M_hasUnits_42 (by decide) ?_
        refine rx_iincP d_M_hasUnits_44 (by decide) rfl ?_
        refine rx_goto (tgt := 15) d_M_hasUnits_47 (by decide) ?_
        exact ih _ _ _ h
      clear h
      intro J2 hJ1 h
      refine rx_icmp_ne (tgt := 40) d_M_hasUnits_30 (by decide) (fun hc30 => ?_) (fun hc30 => ?_)
      · rw [if_neg hc30] at h
        refine rx_iload d_M_hasUnits_40 rfl ?_
        exact hJ1 _ _ h
      · rw [if_pos hc30] at h
        refine rx_iload d_M_hasUnits_33 rfl ?_
        refine rx_iconst (v := nI 1) d_M_hasUnits_35 (by decide) ?_
        refine rx_iadd d_M_hasUnits_36 ?_
        refine rx_goto (tgt := 42) d_M_hasUnits_37 (by decide) ?_
        exact hJ1 _ _ h
theorem E_M_hasUnits_53 {G : bm_G} {f : Nat} {l1 : Int32} {l2 : Int32} {l3 : Int32} {k91 : Int32 → rx_S → Option (Int32 × rx_S)} {r : Int32} {sz : rx_S} {Q : bm_R → rx_S → Prop} (hq : Q (.inl (some (.int (r)))) sz) (hk91 : ∀ (q4 : Int32) (d5 : Option Value) (s : rx_S), k91 q4 s = some (r, sz) → rx G me_M_hasUnits 91 [some (.ref rx_o), some (.int (l1)), some (.int (l2)), some (.int (l3)), some (.int (q4)), d5] [] s Q) : ∀ (n : Nat) (l4 : Int32) (l5 : Int32) (s : rx_S), D_M_hasUnits_53 f l1 l2 l3 k91 n l4 l5 s = some (r, sz) → rx G me_M_hasUnits 53 [some (.ref rx_o), some (.int (l1)), some (.int (l2)), some (.int (l3)), some (.int (l4)), some (.int (l5))] [] s Q := by
  intro n
  induction n with
  | zero =>
    intro l4 l5 s h
    rw [D_M_hasUnits_53] at h
    exact absurd h (by simp)
  | succ n ih =>
    intro l4 l5 s h
    rw [D_M_hasUnits_53] at h
    refine rx_iload d_M_hasUnits_53 rfl ?_
    refine rx_iconst (v := nI 3) d_M_hasUnits_55 (by decide) ?_
    refine rx_icmp_ge (tgt := 91) d_M_hasUnits_56 (by decide) (fun hc56 => ?_) (fun hc56 => ?_)
    · rw [if_pos hc56] at h
      exact hk91 _ _ _ h
    · rw [if_neg hc56] at h
      refine rx_aload_n d_M_hasUnits_59 rfl ?_
      refine rx_gaf g_M_hasUnits_60 (by decide) ?_
      refine rx_iconst (v := nI 3) d_M_hasUnits_63 (by decide) ?_
      refine rx_iload_n d_M_hasUnits_64 rfl ?_
      refine rx_imul d_M_hasUnits_65 ?_
      refine rx_iload d_M_hasUnits_66 rfl ?_
      refine rx_iadd d_M_hasUnits_68 ?_
      obtain ⟨j6, hj6, ej6, h⟩ := og_inv (by decide) h
      refine rx_iald d_M_hasUnits_69 rfl ej6 hj6 ?_
      refine rx_iload_n d_M_hasUnits_70 rfl ?_
      refine oj_step (P := fun J7 : Int32 → Option (Int32 × rx_S) => ∀ (x8 : Int32) (d4 : Option Value), J7 x8 = some (r, sz) → rx G me_M_hasUnits 83 [some (.ref rx_o), some (.int (l1)), some (.int (l2)), some (.int (l3)), d4, some (.int (l5))] [.int (x8)] s Q) h ?_ ?_
      · intro x8 d4 h
        refine rx_istore d_M_hasUnits_83 (by decide) ?_
        refine rx_iincP d_M_hasUnits_85 (by decide) rfl ?_
        refine rx_goto (tgt := 53) d_M_hasUnits_88 (by decide) ?_
        exact ih _ _ _ h
      clear h
      intro J7 hJ2 h
      refine rx_icmp_ne (tgt := 81) d_M_hasUnits_71 (by decide) (fun hc71 => ?_) (fun hc71 => ?_)
      · rw [if_neg hc71] at h
        refine rx_iload d_M_hasUnits_81 rfl ?_
        exact hJ2 _ _ h
      · rw [if_pos hc71] at h
        refine rx_iload d_M_hasUnits_74 rfl ?_
        refine rx_iconst (v := nI 1) d_M_hasUnits_76 (by decide) ?_
        refine rx_isub d_M_hasUnits_77 ?_
        refine rx_goto (tgt := 83) d_M_hasUnits_78 (by decide) ?_
        exact hJ2 _ _ h
theorem E_M_hasUnits_4 {G : bm_G} {f : Nat} {l1 : Int32} {r : Int32} {sz : rx_S} {Q : bm_R → rx_S → Prop} (hq : Q (.inl (some (.int (r)))) sz) : ∀ (n : Nat) (l2 : Int32) (l3 : Int32) (d4 : Option Value) (d5 : Option Value) (s : rx_S), D_M_hasUnits_4 f l1 n l2 l3 s = some (r, sz) → rx G me_M_hasUnits 4 [some (.ref rx_o), some (.int (l1)), some (.int (l2)), some (.int (l3)), d4, d5] [] s Q := by
  intro n
  induction n with
  | zero =>
    intro l2 l3 d4 d5 s h
    rw [D_M_hasUnits_4] at h
    exact absurd h (by simp)
  | succ n ih =>
    intro l2 l3 d4 d5 s h
    rw [D_M_hasUnits_4] at h
    refine rx_iload_n d_M_hasUnits_4 rfl ?_
    refine rx_iconst (v := nI 3) d_M_hasUnits_5 (by decide) ?_
    refine rx_icmp_ge (tgt := 112) d_M_hasUnits_6 (by decide) (fun hc6 => ?_) (fun hc6 => ?_)
    · rw [if_pos hc6] at h
      refine rx_iload_n d_M_hasUnits_112 rfl ?_
      obtain ⟨hz, h⟩ := ozb_inv h
      exact rx_zret d_M_hasUnits_113 rfl (ozb_nar hz) (ox_i hq h)
    · rw [if_neg hc6] at h
      refine rx_iconst (v := nI 0) d_M_hasUnits_9 (by decide) ?_
      refine rx_istore d_M_hasUnits_10 (by decide) ?_
      refine rx_iconst (v := nI 0) d_M_hasUnits_12 (by decide) ?_
      refine rx_istore d_M_hasUnits_13 (by decide) ?_
      refine E_M_hasUnits_15 (r := r) (sz := sz) hq ?_ _ _ _ _ h
      · intro v4 d5 s5 h
        refine rx_iconst (v := nI 0) d_M_hasUnits_50 (by decide) ?_
        refine rx_istore d_M_hasUnits_51 (by decide) ?_
        refine E_M_hasUnits_53 (r := r) (sz := sz) hq ?_ _ _ _ _ h
        · intro v9 d5 s10 h
          refine rx_iload_n d_M_hasUnits_91 rfl ?_
          refine oj_step (P := fun J11 : Int32 → Option (Int32 × rx_S) => ∀ (x12 : Int32) (d2 : Option Value) (d4 : Option Value) (d5 : Option Value), J11 x12 = some (r, sz) → rx G me_M_hasUnits 105 [some (.ref rx_o), some (.int (l1)), d2, some (.int (l3)), d4, d5] [.int (x12)] s10 Q) h ?_ ?_
          · intro x12 d2 d4 d5 h
            refine rx_istore_n d_M_hasUnits_105 (by decide) ?_
            refine rx_iincP d_M_hasUnits_106 (by decide) rfl ?_
            refine rx_goto (tgt := 4) d_M_hasUnits_109 (by decide) ?_
            exact ih _ _ _ _ _ h
          clear h
          intro J11 hJ3 h
          refine oj_step (P := fun J13 : Unit → Option (Int32 × rx_S) => ∀ (_u : Unit) (d2 : Option Value) (d4 : Option Value) (d5 : Option Value), J13 () = some (r, sz) → rx G me_M_hasUnits 104 [some (.ref rx_o), some (.int (l1)), d2, some (.int (l3)), d4, d5] [] s10 Q) h ?_ ?_
          · intro _u d2 d4 d5 h
            refine rx_iconst (v := nI 0) d_M_hasUnits_104 (by decide) ?_
            exact hJ3 _ _ _ _ h
          clear h
          intro J13 hJ4 h
          refine rx_if_eq (tgt := 104) d_M_hasUnits_92 (by decide) (fun hc92 => ?_) (fun hc92 => ?_)
          · rw [if_pos hc92] at h
            exact hJ4 () _ _ _ h
          · rw [if_neg hc92] at h
            refine rx_iload d_M_hasUnits_95 rfl ?_
            refine rx_if_lt (tgt := 104) d_M_hasUnits_97 (by decide) (fun hc97 => ?_) (fun hc97 => ?_)
            · rw [if_pos hc97] at h
              exact hJ4 () _ _ _ h
            · rw [if_neg hc97] at h
              refine rx_iconst (v := nI 1) d_M_hasUnits_100 (by decide) ?_
              refine rx_goto (tgt := 105) d_M_hasUnits_101 (by decide) ?_
              exact hJ3 _ _ _ _ h
theorem E_M_hasUnits {G : bm_G} {f : Nat} {l1 : Int32} {s sz : rx_S} {r : Int32} {Q : Int32 → rx_S → Prop} (h : D_M_hasUnits f l1 s = some (r, sz)) (hq : Q r sz) : rx_Ti G me_M_hasUnits [.ref rx_o, .int (l1)] s Q := by
  refine rx_meti (by decide) rfl (Nat.le_of_ble_eq_true rfl) ?_
  generalize hQ : (fun (v : bm_R) (s2 : rx_S) => ∃ x, v = .inl (some (.int x)) ∧ Q x s2) = Q2
  replace hq : Q2 (.inl (some (.int (r)))) sz := by rw [← hQ]; exact ⟨_, rfl, hq⟩
  clear hQ
  unfold D_M_hasUnits at h
  refine rx_iconst (v := nI 1) d_M_hasUnits_0 (by decide) ?_
  refine rx_istore_n d_M_hasUnits_1 (by decide) ?_
  refine rx_iconst (v := nI 0) d_M_hasUnits_2 (by decide) ?_
  refine rx_istore_n d_M_hasUnits_3 (by decide) ?_
  refine E_M_hasUnits_4 (r := r) (sz := sz) hq _ _ _ _ _ _ h
