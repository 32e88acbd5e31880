def D_M_init_350 (f : Nat) (k369 : rx_S → Option (Int32 × rx_S)) : Nat → Int32 → rx_S → Option (Int32 × rx_S)
  | 0, _, _ => none
  | n + 1, l1, s =>
    if (nI 6) ≤ l1 then k369 s else og 6 l1 fun j1 => D_M_init_350 f k369 n (l1 + nI 1) (rx_up s 2 j1 ((-1)))
def D_M_init_371 (f : Nat) (k390 : rx_S → Option (Int32 × rx_S)) : Nat → Int32 → rx_S → Option (Int32 × rx_S)
  | 0, _, _ => none
  | n + 1, l1, s =>
    if (nI 12) ≤ l1 then k390 s else og 12 l1 fun j3 => D_M_init_371 f k390 n (l1 + nI 1) (rx_up s 6 j3 (nI 3))
def D_M_init_392 (f : Nat) : Nat → Int32 → rx_S → Option (Int32 × rx_S)
  | 0, _, _ => none
  | n + 1, l1, s =>
    if (nI 48) ≤ l1 then some (0, s) else og 48 l1 fun j5 => D_M_init_392 f n (l1 + nI 1) (rx_up s 22 j5 ((-1)))
def D_M_init (f : Nat) (s : rx_S) : Option (Int32 × rx_S) :=
  D_M_init_350 f (fun  (s2 : rx_S) => D_M_init_371 f (fun  (s4 : rx_S) => D_M_init_392 f f (nI 0) s4) f (nI 0) s2) f (nI 0) s
theorem E_M_init_350 {G : bm_G} {f : Nat} {k369 : rx_S → Option (Int32 × rx_S)} {r : Int32} {sz : rx_S} {Q : bm_R → rx_S → Prop} (hq : Q (.inl none) sz) (hk369 : ∀ (d1 : Option Value) (s : rx_S), k369 s = some (r, sz) → rx G me_M_init 369 [some (.ref rx_o), d1] [] s Q) : ∀ (n : Nat) (l1 : Int32) (s : rx_S), D_M_init_350 f k369 n l1 s = some (r, sz) → rx G me_M_init 350 [some (.ref rx_o), some (.int (l1))] [] s Q := by
  intro n
  induction n with
  | zero =>
    intro l1 s h
    rw [D_M_init_350] at h
    exact absurd h (by simp)
  | succ n ih =>
    intro l1 s h
    rw [D_M_init_350] at h
    refine rx_iload_n d_M_init_350 rfl ?_
    refine rx_bipush (v := nI 6) d_M_init_351 (by decide) ?_
    refine rx_icmp_ge (tgt := 369) d_M_init_353 (by decide) (fun hc353 => ?_) (fun hc353 => ?_)
    · rw [if_pos hc353] at h
      exact hk369 _ _ h
    · rw [if_neg hc353] at h
      refine rx_aload_n d_M_init_356 rfl ?_
      refine rx_gaf g_M_init_357 (by decide) ?_
      refine rx_iload_n d_M_init_360 rfl ?_
      refine rx_iconst (v := (-1)) d_M_init_361 (by decide) ?_
      obtain ⟨j1, hj1, ej1, h⟩ := og_inv (by decide) h
      refine rx_iast d_M_init_362 rfl ej1 hj1 ?_
      refine rx_iincP d_M_init_363 (by decide) rfl ?_
      refine rx_goto (tgt := 350) d_M_init_366 (by decide) ?_
      exact ih _ _ h
theorem E_M_init_371 {G : bm_G} {f : Nat} {k390 : rx_S → Option (Int32 × rx_S)} {r : Int32} {sz : rx_S} {Q : bm_R → rx_S → Prop} (hq : Q (.inl none) sz) (hk390 : ∀ (d1 : Option Value) (s : rx_S), k390 s = some (r, sz) → rx G me_M_init 390 [some (.ref rx_o), d1] [] s Q) : ∀ (n : Nat) (l1 : Int32) (s : rx_S), D_M_init_371 f k390 n l1 s = some (r, sz) → rx G me_M_init 371 [some (.ref rx_o), some (.int (l1))] [] s Q := by
  intro n
  induction n with
  | zero =>
    intro l1 s h
    rw [D_M_init_371] at h
    exact absurd h (by simp)
  | succ n ih =>
    intro l1 s h
    rw [D_M_init_371] at h
    refine rx_iload_n d_M_init_371 rfl ?_
    refine rx_bipush (v := nI 12) d_M_init_372 (by decide) ?_
    refine rx_icmp_ge (tgt := 390) d_M_init_374 (by decide) (fun hc374 => ?_) (fun hc374 => ?_)
    · rw [if_pos hc374] at h
      exact hk390 _ _ h
    · rw [if_neg hc374] at h
      refine rx_aload_n d_M_init_377 rfl ?_
      refine rx_gaf g_M_init_378 (by decide) ?_
      refine rx_iload_n d_M_init_381 rfl ?_
      refine rx_iconst (v := nI 3) d_M_init_382 (by decide) ?_
      obtain ⟨j3, hj3, ej3, h⟩ := og_inv (by decide) h
      refine rx_iast d_M_init_383 rfl ej3 hj3 ?_
      refine rx_iincP d_M_init_384 (by decide) rfl ?_
      refine rx_goto (tgt := 371) d_M_init_387 (by decide) ?_
      exact ih _ _ h
theorem E_M_init_392 {G : bm_G} {f : Nat} {r : Int32} {sz : rx_S} {Q : bm_R → rx_S → Prop} (hq : Q (.inl none) sz) : ∀ (n : Nat) (l1 : Int32) (s : rx_S), D_M_init_392 f n l1 s = some (r, sz) → rx G me_M_init 392 [some (.ref rx_o), some (.int (l1))] [] s Q := by
  intro n
  induction n with
  | zero =>
    intro l1 s h
    rw [D_M_init_392] at h
    exact absurd h (by simp)
  | succ n ih =>
    intro l1 s h
    rw [D_M_init_392] at h
    refine rx_iload_n d_M_init_392 rfl ?_
    refine rx_bipush (v := nI 48) d_M_init_393 (by decide) ?_
    refine rx_icmp_ge (tgt := 411) d_M_init_395 (by decide) (fun hc395 => ?_) (fun hc395 => ?_)
    · rw [if_pos hc395] at h
      exact rx_vret d_M_init_411 rfl (ox_v hq h)
    · rw [if_neg hc395] at h
      refine rx_aload_n d_M_init_398 rfl ?_
      refine rx_gaf g_M_init_399 (by decide) ?_
      refine rx_iload_n d_M_init_402 rfl ?_
      refine rx_iconst (v := (-1)) d_M_init_403 (by decide) ?_
      obtain ⟨j5, hj5, ej5, h⟩ := og_inv (by decide) h
      refine rx_iast d_M_init_404 rfl ej5 hj5 ?_
      refine rx_iincP d_M_init_405 (by decide) rfl ?_
      refine rx_goto (tgt := 392) d_M_init_408 (by decide) ?_
      exact ih _ _ h
theorem E_M_tail {G : bm_G} {f : Nat} {s sz : rx_S} {r : Int32} {d1 : Option Value} {Q2 : bm_R → rx_S → Prop} (h : D_M_init f s = some (r, sz)) (hq : Q2 (.inl none) sz) : rx G me_M_init 348 [some (.ref rx_o), d1] [] s Q2 := by
  unfold D_M_init at h
  refine rx_iconst (v := nI 0) d_M_init_348 (by decide) ?_
  refine rx_istore_n d_M_init_349 (by decide) ?_
  refine E_M_init_350 (r := r) (sz := sz) hq ?_ _ _ _ h
  · intro d1 s2 h
    refine rx_iconst (v := nI 0) d_M_init_369 (by decide) ?_
    refine rx_istore_n d_M_init_370 (by decide) ?_
    refine E_M_init_371 (r := r) (sz := sz) hq ?_ _ _ _ h
    · intro d1 s4 h
      refine rx_iconst (v := nI 0) d_M_init_390 (by decide) ?_
      refine rx_istore_n d_M_init_391 (by decide) ?_
      refine E_M_init_392 (r := r) (sz := sz) hq _ _ _ h
section MI
variable {G : bm_G} {L : bm_L} {P : bm_R → bm_H → Prop}
theorem mi_set {h1 : bm_H} {x y : bm_C} {arrs : List bm_C} (hl : h1.length = 52) : (h1 ++ x :: arrs).set 52 y = h1 ++ y :: arrs := by
  rw [← hl, List.set_append_right _ _ (Nat.le_refl _), Nat.sub_self]; rfl
theorem mi_at {h1 : bm_H} {x : bm_C} {arrs : List bm_C} (hl : h1.length = 52) : (h1 ++ x :: arrs)[52]? = some x := by
  rw [List.getElem?_append_right (by omega), hl]; rfl
/-- an array made and laid into its field -/
theorem mi_new {pc pc2 pc3 k N t : Nat} {ty : FieldType} {h1 : bm_H} {fs : List Value} {arrs : List bm_C} (hl : h1.length = 52) (d0 : decode me_M_init.2.1 pc = .ok (.aload_n 0, 1))
    (hpush : ∀ (st : List Value) (h : bm_H), bm_W G me_M_init pc2 L (.int (nI N) :: st) h P → bm_W G me_M_init (pc + 1) L st h P)
    (hg : bm_na me_M_init pc2 t ty) (hz : (∀ cA : ClassId, vp_cell cA (N, .inl (fun _ => 0)) = arrV cA N (fun _ => defaultValue ty))) (hp : bm_pf me_M_init (pc2 + 2) 11 k (.array ty)) (hpc : pc2 + 2 + 3 = pc3) (hN : N ≤ 1000000) (hk : k < fs.length) (hL : L[0]? = some (some (.ref 52)))
    (kk : bm_W G me_M_init pc3 L [] (h1 ++ .inr (11, fs.set k (.ref (53 + arrs.length))) :: (arrs ++ [.inl (t, N, .inl (fun _ => 0))])) P) : bm_W G me_M_init pc L [] (h1 ++ .inr (11, fs) :: arrs) P := by
  subst hpc
  have h31 : N < 2 ^ 31 := by omega
  refine bm_aload_n d0 hL ?_
  refine hpush _ _ ?_
  refine bm_newa (N := N) (a0 := (N, .inl (fun _ => 0))) hg hz rfl (fun _ => rfl) (nI_pos h31) (nI_clamp h31) hN ?_
  have e : (h1 ++ Sum.inr (11, fs) :: arrs).length = 53 + arrs.length := by rw [List.length_append, List.length_cons, hl]; omega
  rw [e, List.append_assoc, List.cons_append]
  refine bm_put hp (mi_at hl) hk rfl rfl ?_
  rw [mi_set hl]
  exact kk
end MI
def mi_ks : List Nat := [1, 2, 3, 4, 5, 6, 7, 8, 9, 10, 11, 12, 13, 14, 16, 17, 18, 19, 20, 21, 22, 23, 24, 25, 26, 27, 29, 33, 34, 35, 36, 37, 38, 39, 40, 41, 42, 43, 44, 45, 46, 47]
def mi_arrs : List bm_C := mi_ks.map (fun k => .inl (rx_t k, rx_n k, .inl (fun _ => 0)))
def mi_fs0 : List Value := [.int 0, .null, .null, .null, .null, .null, .null, .null, .null, .null, .null, .null, .null, .null, .null, .int 0, .null, .null, .null, .null, .null, .null, .null, .null, .null, .null, .null, .null, .int 0, .null, .int 0, .int 0, .int 0, .null, .null, .null, .null, .null, .null, .null, .null, .null, .null, .null, .null, .null, .null, .null]

theorem mi_walk {G : bm_G} {P : bm_R → bm_H → Prop} {h1 : bm_H} (hl : h1.length = 52) (kk : bm_W G me_M_init 348 [some (.ref 52), none] [] (h1 ++ .inr (11, rx_f (fun _ _ => 0)) :: mi_arrs) P) : bm_W G me_M_init 0 [some (.ref 52), none] [] (h1 ++ [.inr (11, mi_fs0)]) P := by
  refine bm_aload_n d_M_init_0 rfl ?_
  refine bm_objInit c_M_init_1 (by decide) ?_
  refine mi_new (k := 1) (N := 6) hl d_M_init_4 (fun st h w => bm_bipush (v := nI 6) d_M_init_5 (by decide) w) n_M_init_7 (fun _ => rfl) p_M_init_9 rfl (by decide) (by decide) rfl ?_
  refine mi_new (k := 2) (N := 6) hl d_M_init_12 (fun st h w => bm_bipush (v := nI 6) d_M_init_13 (by decide) w) n_M_init_15 (fun _ => rfl) p_M_init_17 rfl (by decide) (by decide) rfl ?_
  refine mi_new (k := 3) (N := 6) hl d_M_init_20 (fun st h w => bm_bipush (v := nI 6) d_M_init_21 (by decide) w) n_M_init_23 (fun _ => rfl) p_M_init_25 rfl (by decide) (by decide) rfl ?_
  refine mi_new (k := 4) (N := 600) hl d_M_init_28 (fun st h w => bm_sipush (v := nI 600) d_M_init_29 (by decide) w) n_M_init_32 (fun _ => rfl) p_M_init_34 rfl (by decide) (by decide) rfl ?_
  refine mi_new (k := 5) (N := 600) hl d_M_init_37 (fun st h w => bm_sipush (v := nI 600) d_M_init_38 (by decide) w) n_M_init_41 (fun _ => rfl) p_M_init_43 rfl (by decide) (by decide) rfl ?_
  refine mi_new (k := 6) (N := 12) hl d_M_init_46 (fun st h w => bm_bipush (v := nI 12) d_M_init_47 (by decide) w) n_M_init_49 (fun _ => rfl) p_M_init_51 rfl (by decide) (by decide) rfl ?_
  refine mi_new (k := 7) (N := 4) hl d_M_init_54 (fun st h w => bm_iconst (v := nI 4) d_M_init_55 (by decide) w) n_M_init_56 (fun _ => rfl) p_M_init_58 rfl (by decide) (by decide) rfl ?_
  refine mi_new (k := 8) (N := 4) hl d_M_init_61 (fun st h w => bm_iconst (v := nI 4) d_M_init_62 (by decide) w) n_M_init_63 (fun _ => rfl) p_M_init_65 rfl (by decide) (by decide) rfl ?_
  refine mi_new (k := 9) (N := 48) hl d_M_init_68 (fun st h w => bm_bipush (v := nI 48) d_M_init_69 (by decide) w) n_M_init_71 (fun _ => rfl) p_M_init_73 rfl (by decide) (by decide) rfl ?_
  refine mi_new (k := 10) (N := 48) hl d_M_init_76 (fun st h w => bm_bipush (v := nI 48) d_M_init_77 (by decide) w) n_M_init_79 (fun _ => rfl) p_M_init_81 rfl (by decide) (by decide) rfl ?_
  refine mi_new (k := 11) (N := 48) hl d_M_init_84 (fun st h w => bm_bipush (v := nI 48) d_M_init_85 (by decide) w) n_M_init_87 (fun _ => rfl) p_M_init_89 rfl (by decide) (by decide) rfl ?_
  refine mi_new (k := 12) (N := 48) hl d_M_init_92 (fun st h w => bm_bipush (v := nI 48) d_M_init_93 (by decide) w) n_M_init_95 (fun _ => rfl) p_M_init_97 rfl (by decide) (by decide) rfl ?_
  refine mi_new (k := 13) (N := 48) hl d_M_init_100 (fun st h w => bm_bipush (v := nI 48) d_M_init_101 (by decide) w) n_M_init_103 (fun _ => rfl) p_M_init_105 rfl (by decide) (by decide) rfl ?_
  refine mi_new (k := 14) (N := 48) hl d_M_init_108 (fun st h w => bm_bipush (v := nI 48) d_M_init_109 (by decide) w) n_M_init_111 (fun _ => rfl) p_M_init_113 rfl (by decide) (by decide) rfl ?_
  refine mi_new (k := 16) (N := 16) hl d_M_init_116 (fun st h w => bm_bipush (v := nI 16) d_M_init_117 (by decide) w) n_M_init_119 (fun _ => rfl) p_M_init_121 rfl (by decide) (by decide) rfl ?_
  refine mi_new (k := 17) (N := 16) hl d_M_init_124 (fun st h w => bm_bipush (v := nI 16) d_M_init_125 (by decide) w) n_M_init_127 (fun _ => rfl) p_M_init_129 rfl (by decide) (by decide) rfl ?_
  refine mi_new (k := 18) (N := 16) hl d_M_init_132 (fun st h w => bm_bipush (v := nI 16) d_M_init_133 (by decide) w) n_M_init_135 (fun _ => rfl) p_M_init_137 rfl (by decide) (by decide) rfl ?_
  refine mi_new (k := 19) (N := 16) hl d_M_init_140 (fun st h w => bm_bipush (v := nI 16) d_M_init_141 (by decide) w) n_M_init_143 (fun _ => rfl) p_M_init_145 rfl (by decide) (by decide) rfl ?_
  refine mi_new (k := 20) (N := 64) hl d_M_init_148 (fun st h w => bm_bipush (v := nI 64) d_M_init_149 (by decide) w) n_M_init_151 (fun _ => rfl) p_M_init_153 rfl (by decide) (by decide) rfl ?_
  refine mi_new (k := 21) (N := 192) hl d_M_init_156 (fun st h w => bm_sipush (v := nI 192) d_M_init_157 (by decide) w) n_M_init_160 (fun _ => rfl) p_M_init_162 rfl (by decide) (by decide) rfl ?_
  refine mi_new (k := 22) (N := 48) hl d_M_init_165 (fun st h w => bm_bipush (v := nI 48) d_M_init_166 (by decide) w) n_M_init_168 (fun _ => rfl) p_M_init_170 rfl (by decide) (by decide) rfl ?_
  refine mi_new (k := 23) (N := 128) hl d_M_init_173 (fun st h w => bm_sipush (v := nI 128) d_M_init_174 (by decide) w) n_M_init_177 (fun _ => rfl) p_M_init_179 rfl (by decide) (by decide) rfl ?_
  refine mi_new (k := 24) (N := 128) hl d_M_init_182 (fun st h w => bm_sipush (v := nI 128) d_M_init_183 (by decide) w) n_M_init_186 (fun _ => rfl) p_M_init_188 rfl (by decide) (by decide) rfl ?_
  refine mi_new (k := 25) (N := 128) hl d_M_init_191 (fun st h w => bm_sipush (v := nI 128) d_M_init_192 (by decide) w) n_M_init_195 (fun _ => rfl) p_M_init_197 rfl (by decide) (by decide) rfl ?_
  refine mi_new (k := 26) (N := 128) hl d_M_init_200 (fun st h w => bm_sipush (v := nI 128) d_M_init_201 (by decide) w) n_M_init_204 (fun _ => rfl) p_M_init_206 rfl (by decide) (by decide) rfl ?_
  refine mi_new (k := 27) (N := 128) hl d_M_init_209 (fun st h w => bm_sipush (v := nI 128) d_M_init_210 (by decide) w) n_M_init_213 (fun _ => rfl) p_M_init_215 rfl (by decide) (by decide) rfl ?_
  refine mi_new (k := 29) (N := 16) hl d_M_init_218 (fun st h w => bm_bipush (v := nI 16) d_M_init_219 (by decide) w) n_M_init_221 (fun _ => rfl) p_M_init_223 rfl (by decide) (by decide) rfl ?_
  refine mi_new (k := 33) (N := 100) hl d_M_init_226 (fun st h w => bm_bipush (v := nI 100) d_M_init_227 (by decide) w) n_M_init_229 (fun _ => rfl) p_M_init_231 rfl (by decide) (by decide) rfl ?_
  refine mi_new (k := 34) (N := 100) hl d_M_init_234 (fun st h w => bm_bipush (v := nI 100) d_M_init_235 (by decide) w) n_M_init_237 (fun _ => rfl) p_M_init_239 rfl (by decide) (by decide) rfl ?_
  refine mi_new (k := 35) (N := 101) hl d_M_init_242 (fun st h w => bm_bipush (v := nI 101) d_M_init_243 (by decide) w) n_M_init_245 (fun _ => rfl) p_M_init_247 rfl (by decide) (by decide) rfl ?_
  refine mi_new (k := 36) (N := 5000) hl d_M_init_250 (fun st h w => bm_sipush (v := nI 5000) d_M_init_251 (by decide) w) n_M_init_254 (fun _ => rfl) p_M_init_256 rfl (by decide) (by decide) rfl ?_
  refine mi_new (k := 37) (N := 5000) hl d_M_init_259 (fun st h w => bm_sipush (v := nI 5000) d_M_init_260 (by decide) w) n_M_init_263 (fun _ => rfl) p_M_init_265 rfl (by decide) (by decide) rfl ?_
  refine mi_new (k := 38) (N := 100) hl d_M_init_268 (fun st h w => bm_bipush (v := nI 100) d_M_init_269 (by decide) w) n_M_init_271 (fun _ => rfl) p_M_init_273 rfl (by decide) (by decide) rfl ?_
  refine mi_new (k := 39) (N := 100) hl d_M_init_276 (fun st h w => bm_bipush (v := nI 100) d_M_init_277 (by decide) w) n_M_init_279 (fun _ => rfl) p_M_init_281 rfl (by decide) (by decide) rfl ?_
  refine mi_new (k := 40) (N := 100) hl d_M_init_284 (fun st h w => bm_bipush (v := nI 100) d_M_init_285 (by decide) w) n_M_init_287 (fun _ => rfl) p_M_init_289 rfl (by decide) (by decide) rfl ?_
  refine mi_new (k := 41) (N := 12) hl d_M_init_292 (fun st h w => bm_bipush (v := nI 12) d_M_init_293 (by decide) w) n_M_init_295 (fun _ => rfl) p_M_init_297 rfl (by decide) (by decide) rfl ?_
  refine mi_new (k := 42) (N := 12) hl d_M_init_300 (fun st h w => bm_bipush (v := nI 12) d_M_init_301 (by decide) w) n_M_init_303 (fun _ => rfl) p_M_init_305 rfl (by decide) (by decide) rfl ?_
  refine mi_new (k := 43) (N := 12) hl d_M_init_308 (fun st h w => bm_bipush (v := nI 12) d_M_init_309 (by decide) w) n_M_init_311 (fun _ => rfl) p_M_init_313 rfl (by decide) (by decide) rfl ?_
  refine mi_new (k := 44) (N := 12) hl d_M_init_316 (fun st h w => bm_bipush (v := nI 12) d_M_init_317 (by decide) w) n_M_init_319 (fun _ => rfl) p_M_init_321 rfl (by decide) (by decide) rfl ?_
  refine mi_new (k := 45) (N := 12) hl d_M_init_324 (fun st h w => bm_bipush (v := nI 12) d_M_init_325 (by decide) w) n_M_init_327 (fun _ => rfl) p_M_init_329 rfl (by decide) (by decide) rfl ?_
  refine mi_new (k := 46) (N := 12) hl d_M_init_332 (fun st h w => bm_bipush (v := nI 12) d_M_init_333 (by decide) w) n_M_init_335 (fun _ => rfl) p_M_init_337 rfl (by decide) (by decide) rfl ?_
  refine mi_new (k := 47) (N := 12) hl d_M_init_340 (fun st h w => bm_bipush (v := nI 12) d_M_init_341 (by decide) w) n_M_init_343 (fun _ => rfl) p_M_init_345 rfl (by decide) (by decide) rfl ?_
  exact kk
theorem mi_ok : ∀ k, k < 48 → rx_n k ≠ 0 → mi_ks[rx_a k - 53]? = some k := by decide +kernel
theorem mi_rep {h1 : bm_H} (hl : h1.length = 52) : rx_rep (h1 ++ .inr (11, rx_f (fun _ _ => 0)) :: mi_arrs) (fun _ _ => 0) := by
  refine ⟨mi_at hl, fun k hk => ?_⟩
  have h48 := rx_an k hk
  have h52 : 52 < rx_a k := (rx_ad k h48 hk).1
  rw [List.getElem?_append_right (by omega), hl, show rx_a k - 52 = (rx_a k - 53) + 1 from by omega, List.getElem?_cons_succ]
  unfold mi_arrs
  rw [List.getElem?_map, mi_ok k h48 hk]; rfl
theorem mi_len : mi_arrs.length = 42 := rfl
def mi_sz : Nat := 13283
theorem mi_size {h1 : bm_H} : bm_sz (h1 ++ .inr (11, rx_f (fun _ _ => 0)) :: mi_arrs) = bm_sz h1 + mi_sz := by
  unfold bm_sz
  rw [List.map_append, List.sum_append]
  congr 1
/-- the reference's constructor -/
theorem E_M_init {G : bm_G} {f : Nat} {sz : rx_S} {r : Int32} {h1 : bm_H} {P : Option Value → bm_H → Prop} (hl : h1.length = 52) (h : D_M_init f (fun _ _ => 0) = some (r, sz)) (hq : ∀ hf, hf.length = 95 → bm_sz hf = bm_sz h1 + mi_sz → (∀ j, j < 52 → hf[j]? = h1[j]?) → rx_rep hf sz → P none hf) : bm_T G me_M_init [.ref 52] (h1 ++ [.inr (11, mi_fs0)]) P := by
  refine bm_met (by decide) (List.forall_mem_cons.mpr ⟨rfl, fun _ q => nomatch q⟩) (Nat.le_of_ble_eq_true rfl) ?_
  refine mi_walk hl ?_
  have hr := mi_rep hl
  have w := E_M_tail (G := G) (d1 := none) (Q2 := fun v s2 => v = .inl none ∧ s2 = sz) h ⟨rfl, rfl⟩ _ hr
  refine w.mono (fun r0 hf q => ?_)
  obtain ⟨q1, s2, q2, q3, q4⟩ := q
  subst q3 q4
  refine ⟨none, rfl, hq hf ?_ ?_ (fun j hj => ?_) q2⟩
  · rw [q1.1, List.length_append, List.length_cons, mi_len, hl]
  · rw [q1.2.1, mi_size]
  · rw [q1.2.2 j (Or.inl hj), List.getElem?_append_left (by omega)]
