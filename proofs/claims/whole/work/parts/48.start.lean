/-! the law from its entry, on the functions' answers -/
def h0 (G : bm_G) : bm_H := [.inl (0, 0, .inl (fun _ => 0)), .inl (0, bm_xl G, .inl (bm_xs G))]
def c00 (n : Nat) : cx_S := (fun _ _ _ => 0, fun _ _ _ => none, fun p => if p = 0 then some (400, 0) else none, 2, n)
theorem c00_rep (G : bm_G) : cx_rep (h0 G) (c00 (bm_xl G)) := by
  refine ⟨rfl, ?_, fun p k hk => ?_, rfl, fun k hk => ?_, fun p h1 h2 => ?_⟩
  · show 0 + (bm_xl G + 0) = bm_xl G
    omega
  · have hk2 : (if p = 0 then some (400, 0) else none) = some k := hk
    split at hk2
    · next e =>
      subst e
      cases hk2
      rw [cx_cellI]; rfl
    · cases hk2
  · have hk2 : (if (0 : Nat) = 0 then some (400, 0) else none) = some k := hk
    rw [if_pos rfl] at hk2
    cases hk2; rfl
  · show (if p = 0 then some (400, 0) else none) = none
    rw [if_neg (by omega)]
/-- the class behind its constructor, the reference and out beside it -/
def c01 (c1 : cx_S) : cx_S := (c1.1, c1.2.1, c1.2.2.1, 96, cZ c1 + mi_sz + 1)
theorem law_bm {G : bm_G} (hfl : G.1.flags = pinnedFlags ++ [noTraceFlag]) {f : Nat} {c1 : cx_S} {s1 : rx_S} {x y : Int32} {t9 : lx_S} (hH : D_H_init f 2 (cx_mk (c00 (bm_xl G)) (0, 0) 7) = some (x, c1)) (hn : cN c1 = 52) (hM : D_M_init f (fun _ _ => 0) = some (y, s1))
    (hL : D_W_law_23 f (bm_xl G) (bm_xs G) f (nI 0) (c01 c1, s1, 0) = some (nI 1, t9)) : bm_W G me_W_law 0 [some (.ref 1), none, none, none, none, none, none] [] (h0 G) (fun r hf => r = .inl (some (.int (nI 1))) ∧ hf.length = cN t9.1 ∧ bm_sz hf = cZ t9.1) := by
  refine bm_new n_W_law_0 ?_
  refine bm_dup d_W_law_3 rfl ?_
  have hr0 := c00_rep G
  have hp := cx_push (k := (0, 0)) (z := 7) (w := .inr (0, [.null, .null, .int 0, .null, .null, .null, .null])) hr0 (Or.inl (show 2 < 52 by decide)) (show 2 ≤ 2 by decide) (by
    have e : cx_fs (cx_mk (c00 (bm_xl G)) (0, 0) 7) (cN (c00 (bm_xl G))) 0 = [.null, .null, .int 0, .null, .null, .null, .null] := rfl
    unfold cx_cell
    rw [if_pos (by decide)]
    show Sum.inr (0, cx_fs _ _ 0) = _
    rw [e]) rfl
  have T := E_H_init (G := G) (Q := fun s2 => s2 = c1) hH rfl _ hp.1
  refine bm_callI (av := []) (st := [.ref 2]) c_W_law_4 rfl (by decide) (T.mono fun v hf w => ?_)
  obtain ⟨w1, c2, w2, e1, e2⟩ := w
  subst e1 e2
  have hl : hf.length = 52 := w2.1.trans hn
  refine bm_astore_n d_W_law_7 (by decide) ?_
  refine bm_new n_W_law_8 ?_
  rw [hl]
  refine bm_dup d_W_law_11 rfl ?_
  refine bm_callI (av := []) (st := [.ref 52]) c_W_law_12 rfl (by decide) (E_M_init hl hM (fun hf2 g1 g2 g3 g4 => ?_))
  refine bm_astore_n d_W_law_15 (by decide) ?_
  refine bm_iconst (v := nI 1) d_W_law_16 (by decide) ?_
  refine bm_newa (N := 1) (a0 := (1, .inr (.inl (fun _ => 0)))) n_W_law_17 (fun _ => rfl) rfl (fun _ => rfl) (by decide) (by decide) (by decide) ?_
  rw [g1]
  refine bm_astore_n d_W_law_19 (by decide) ?_
  refine bm_iconst (v := nI 0) d_W_law_20 (by decide) ?_
  refine bm_istore d_W_law_21 (by decide) ?_
  have hrep : lx_rep (hf2 ++ [.inl (2, 1, .inr (.inl (fun _ => 0)))]) (c01 c2, s1, 0) := by
    refine ⟨⟨?_, ?_, fun p k hk => ?_, w2.2.2.2.1, w2.2.2.2.2.1, w2.2.2.2.2.2⟩, ⟨?_, fun k hk => ?_⟩, fun _ => 0, ?_, rfl⟩
    · rw [List.length_append, g1]; rfl
    · rw [bm_sz_push, g2, w2.2.1]; rfl
    · have q := w2.2.2.1 p k hk
      have hlt : p < 52 := by rw [← hl]; exact (List.getElem?_eq_some_iff.mp q).1
      rw [List.getElem?_append_left (by omega), g3 p hlt, q]; rfl
    · rw [List.getElem?_append_left (show 52 < hf2.length by omega)]; exact g4.1
    · have w := rx_ad k (rx_an k hk) hk
      have w2 : rx_a k < 95 := w.2
      rw [List.getElem?_append_left (by omega)]; exact g4.2 k hk
    · rw [List.getElem?_append_right (by omega), g1]; rfl
  have K := E_W_law_23 (G := G) (Q := fun r t => r = .inl (some (.int (nI 1))) ∧ t = t9) hfl (f := f) (r := nI 1) (sz := t9) ⟨rfl, rfl⟩ f (nI 0) none none _ hL _ hrep
  refine bm_W.mono K (fun r hf3 q => ?_)
  obtain ⟨t2, q1, q2, q3⟩ := q
  subst q3
  exact ⟨q2, q1.1.1, q1.1.2.1⟩
