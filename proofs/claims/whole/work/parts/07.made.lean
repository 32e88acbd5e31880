section BM4
variable {G : bm_G} {M : bm_M} {pc : Nat} {L L' : bm_L} {st : List Value} {h h1 : bm_H} {P : bm_R → bm_H → Prop}
/-! the heap's size, from the walk's own count -/
theorem bm_size {H H0 : Heap} {locs : List Loc} {c0 : Nat} (hr : bm_rep G H h) (hV : va_S (bm_A G) H0 H locs) (hc : c0 ≤ h.length) (h2 : 2 ≤ c0) (hs : H0.size + 2 = bm_B G + c0) (hX : H.size ≤ H0.size + (h.length - c0)) : H.size + 2 = bm_B G + h.length := by
  have h1 := hV.1
  by_cases e : h.length = 2
  · omega
  · obtain ⟨z, hz⟩ : ∃ z, h.length = z + 3 := ⟨h.length - 3, by omega⟩
    have hl : z + 2 < h.length := by omega
    have hw := hr.1 z _ (bm_w_at (List.getElem?_eq_getElem hl))
    have h3 := hw.lt
    have h4 : bm_B G + z < H.size := h3
    omega
theorem bm_made {H0 H1 : Heap} {c0 q : Nat} {x : va_E} (hc : c0 ≤ h.length) (h2 : 2 ≤ c0) (hs : H0.size + 2 = bm_B G + c0) (hP : va_P (bm_D G) bm_cl (bm_w G h ++ [(q, x)]) H1) (hD : va_D (bm_A G) (bm_w G h ++ [(q, x)])) (hX : H1.size ≤ H0.size + (h.length - c0 + 1)) : q = bm_B G + (h.length - 2) := by
  have hq : (bm_w G h ++ [(q, x)])[h.length - 2]? = some (q, x) := by rw [List.getElem?_append_right (by rw [bm_w_len]; exact Nat.le_refl _), bm_w_len, Nat.sub_self]; rfl
  have h3 : q < H1.size := (hP _ _ hq).lt
  have h4 : bm_B G ≤ q := hD.2 _ _ hq
  have key : ∀ z, z + 2 < h.length → q ≠ bm_B G + z := by
    intro z hz e
    have hw : (bm_w G h ++ [(q, x)])[z]? = some (bm_B G + z, bm_c G h[z + 2]) := by rw [List.getElem?_append_left (by rw [bm_w_len]; omega)]; exact bm_w_at (List.getElem?_eq_getElem hz)
    have := hD.1 _ _ _ _ hq hw e
    omega
  by_cases e : q - bm_B G + 2 < h.length
  · exact absurd (by omega) (key (q - bm_B G) e)
  · omega
theorem bm_adl (h2 : 2 ≤ h.length) : bm_ad G h.length = bm_B G + (h.length - 2) := by
  obtain ⟨z, hz⟩ : ∃ z, h.length = z + 2 := ⟨h.length - 2, by omega⟩
  rw [hz]; rfl
def bm_nw (M : bm_M) (pc ci : Nat) (fs : List Value) : Prop := ∃ (ix : Nat) (C : String) (T : u_T) (N : Nat) (ty : Nat → FieldType), decode M.2.1 pc = .ok (.new ix, 3) ∧ bm_cl[ci]? = some (C, T, N) ∧ (∀ w ∈ u_ws C T N, w ∈ bm_Ts) ∧ (∀ k, k < N → parseFieldDescriptor (T k).2.2.1 = some (ty k)) ∧ Cond.classLink M.1.cls ix C ∈ bm_Ts ∧ Cond.instantiable C N ∈ bm_Ts ∧ Cond.initialized C ∈ bm_Ts ∧
  (∀ j, j < N → defaultValue (ty j) = vp_V fs j) ∧ bm_ns ci = N ∧ ∀ v ∈ fs, ∀ i, v ≠ .ref i
theorem bm_noref {fs : List Value} (hf : ∀ v ∈ fs, ∀ i, v ≠ .ref i) : fs.map (bm_v G) = fs := by
  induction fs with
  | nil => rfl
  | cons v t ih =>
    rw [List.map_cons, ih (fun u hu => hf u (List.mem_cons_of_mem _ hu))]
    have := hf v List.mem_cons_self
    cases v with
    | ref i => exact absurd rfl (this i)
    | _ => rfl
theorem bm_new {ci : Nat} {fs : List Value} (hg : bm_nw M pc ci fs) (kk : bm_W G M (pc + 3) L (.ref h.length :: st) (h ++ [.inr (ci, fs)]) P) : bm_W G M pc L st h P := by
  obtain ⟨ix, C, T, N, ty, hd, hc, hin, hty, hl1, hl2, hl3, hdf, hns, hno⟩ := hg
  have e1 : (h ++ [(Sum.inr (ci, fs) : bm_C)]).length = h.length + 1 := by simp
  have e2 : bm_sz (h ++ [(Sum.inr (ci, fs) : bm_C)]) = bm_sz h + N := by rw [bm_sz_push]; show _ + bm_ns ci = _; rw [hns]
  refine bm_goH (by omega) (by omega) (fun p e R s m args below meth c H locs ls c0 s0 Q hS hr hV a1 a2 a3 a4 a5 a6 hL w => ?_) kk
  have h2 := bm_h2 hr
  refine va_new hS.1 hS.2.1 (bm_Sts hS) hin ty hty (bm_Sown hS) (bm_Sts hS _ hl1) (bm_Sts hS _ hl2) (bm_Sts hS _ hl3) (bm_SK hS) hr.1 bm_w_D hV (fun q hq => ?_) hc hdf (by omega) (by omega) hd (fun q H1 hP1 hD1 hS1 T0 hT X => ?_)
  · show bm_B G ≤ q
    omega
  · have hX := X.heapSize
    rw [hT] at hX
    have hq := bm_made a1 a5 a6 hP1 hD1 hX
    have hw := w H1 locs (bm_rep_push hr hq (by show va_P _ _ (_ ++ [(q, .inr (ci, fs.map (bm_v G)))]) _; rw [bm_noref hno]; exact hP1)) hS1
    rw [e1, e2] at hw
    have e3 : h.length - c0 + 1 = h.length + 1 - c0 := by omega
    have e4 : bm_sz h - s0 + N = bm_sz h + N - s0 := by omega
    rw [e3, e4] at X
    have e5 : (Value.ref h.length :: st).map (bm_v G) = .ref q :: st.map (bm_v G) := by rw [List.map_cons]; show Value.ref (bm_ad G h.length) :: _ = _; rw [bm_adl h2, hq]
    rw [e5] at hw
    exact hw T0 hT X
theorem bm_cAeq {U : State} {t : Nat} {ty : FieldType} {cA : ClassId} (hK : va_K (bm_D G) bm_cl (bm_tys G) U) (hK' : va_K (bm_D G) bm_cl (bm_tys G ++ [(cA, ty)]) U) (ht : bm_ft[t]? = some ty) : cA = bm_cA G t := by
  have h1 := (hK.2 t _ (bm_ty ht)).2
  have h2 := (hK'.2 (bm_tys G).length (cA, ty) (by rw [List.getElem?_append_right (Nat.le_refl _), Nat.sub_self]; rfl)).2
  cases ty with
  | object C =>
    obtain ⟨_, _, _, _, _, g1⟩ := h1
    obtain ⟨_, _, _, _, _, g2⟩ := h2
    exact Option.some.inj (g2.symm.trans g1)
  | _ => exact Option.some.inj (h2.symm.trans h1)
def bm_na (M : bm_M) (pc t : Nat) (ty : FieldType) : Prop := ∃ at' : ArrayType, decode M.2.1 pc = .ok (.newarray at', 2) ∧ newarray.typeOf at' = ty ∧ Cond.arrayClass ty ∈ bm_Ts ∧ bm_ft[t]? = some ty ∧ componentBytes ty ≤ 8
theorem bm_newa {t N : Nat} {ty : FieldType} {n : Int32} {a0 : vp_A} (hg : bm_na M pc t ty) (ha : ∀ cA : ClassId, vp_cell cA a0 = arrV cA N (fun _ => defaultValue ty)) (hz : a0.1 = N) (hb : ∀ G : bm_G, bm_arr G a0 = a0) (hn : ¬ n < 0) (hN : n.toNatClampNeg = N) (hN2 : N ≤ 1000000)
    (kk : bm_W G M (pc + 2) L (.ref h.length :: st) (h ++ [.inl (t, a0)]) P) : bm_W G M pc L (.int n :: st) h P := by
  obtain ⟨at', hd, rfl, hl1, hft, hcb⟩ := hg
  have e1 : (h ++ [(Sum.inl (t, a0) : bm_C)]).length = h.length + 1 := by simp
  have e2 : bm_sz (h ++ [(Sum.inl (t, a0) : bm_C)]) = bm_sz h + N := by rw [bm_sz_push]; show _ + a0.1 = _; rw [hz]
  refine bm_goH (by omega) (by omega) (fun p e R s m args below meth c H locs ls c0 s0 Q hS hr hV a1 a2 a3 a4 a5 a6 hL w => ?_) kk
  have h2 := bm_h2 hr
  have hby : N * componentBytes (newarray.typeOf at') ≤ 536870912 := Nat.le_trans (Nat.mul_le_mul hN2 hcb) (by decide)
  refine va_newa hS.1 hS.2.1 (bm_Sts hS _ hl1) rfl (bm_SK hS) hr.1 bm_w_D hV (fun q hq => ?_) ha hn hN hby (by omega) (by omega) hd (fun q cA H1 hK1 hP1 hD1 hS1 T0 hT X => ?_)
  · show bm_B G ≤ q
    omega
  · have hX := X.heapSize
    rw [hT] at hX
    have hq := bm_made a1 a5 a6 hP1 hD1 hX
    have hcA := bm_cAeq (bm_SK hS) hK1 hft
    have hw := w H1 locs (bm_rep_push hr hq (by show va_P _ _ (_ ++ [(q, .inl (bm_cA G t, bm_arr G a0))]) _; rw [hb, ← hcA]; exact hP1)) hS1
    rw [e1, e2] at hw
    have e3 : h.length - c0 + 1 = h.length + 1 - c0 := by omega
    have e4 : bm_sz h - s0 + N = bm_sz h + N - s0 := by omega
    rw [e3, e4] at X
    have e5 : (Value.ref h.length :: st).map (bm_v G) = .ref q :: st.map (bm_v G) := by rw [List.map_cons]; show Value.ref (bm_ad G h.length) :: _ = _; rw [bm_adl h2, hq]
    rw [e5] at hw
    exact hw T0 hT X
def bm_nq (M : bm_M) (pc t : Nat) : Prop := ∃ (ix : Nat) (C : String), decode M.2.1 pc = .ok (.anewarray ix, 3) ∧ Cond.classLink M.1.cls ix C ∈ bm_Ts ∧ Cond.arrayOver (.object C) ∈ bm_Nx ∧ bm_ft[t]? = some (.object C)
theorem bm_newq {t N : Nat} {n : Int32} (hg : bm_nq M pc t) (hn : ¬ n < 0) (hN : n.toNatClampNeg = N) (hN2 : N ≤ 1000000)
    (kk : bm_W G M (pc + 3) L (.ref h.length :: st) (h ++ [bm_q t N (fun _ => none)]) P) : bm_W G M pc L (.int n :: st) h P := by
  obtain ⟨ix, C, hd, hl1, hl2, hft⟩ := hg
  have e1 : (h ++ [bm_q t N (fun _ => none)]).length = h.length + 1 := by simp
  have e2 : bm_sz (h ++ [bm_q t N (fun _ => none)]) = bm_sz h + N := by rw [bm_sz_push]; rfl
  refine bm_goH (by omega) (by omega) (fun p e R s m args below meth c H locs ls c0 s0 Q hS hr hV a1 a2 a3 a4 a5 a6 hL w => ?_) kk
  have h2 := bm_h2 hr
  refine va_newq hS.1 hS.2.1 (bm_Sown hS) (bm_Sts hS _ hl1) ((bm_Sold hS).2.2.2.1 _ hl2) (bm_SK hS) hr.1 bm_w_D hV (fun q hq => ?_) hn hN (by omega) (by omega) (by omega) hd (fun q cA H1 hK1 hP1 hD1 hS1 T0 hT X => ?_)
  · show bm_B G ≤ q
    omega
  · have hX := X.heapSize
    rw [hT] at hX
    have hq := bm_made a1 a5 a6 hP1 hD1 hX
    have hcA := bm_cAeq (bm_SK hS) hK1 hft
    have hw := w H1 locs (bm_rep_push hr hq (by rw [hcA] at hP1; exact hP1)) hS1
    rw [e1, e2] at hw
    have e3 : h.length - c0 + 1 = h.length + 1 - c0 := by omega
    have e4 : bm_sz h - s0 + N = bm_sz h + N - s0 := by omega
    rw [e3, e4] at X
    have e5 : (Value.ref h.length :: st).map (bm_v G) = .ref q :: st.map (bm_v G) := by rw [List.map_cons]; show Value.ref (bm_ad G h.length) :: _ = _; rw [bm_adl h2, hq]
    rw [e5] at hw
    exact hw T0 hT X
/-! returns -/
theorem bm_iret {x : Int32} (hd : decode M.2.1 pc = .ok (.ireturn, 1)) (hr : M.2.2.2.1 = some .int) (hp : P (.inl (some (.int x))) h) : bm_W G M pc L [.int x] h P :=
  ⟨_, _, ⟨Nat.le_refl _, Nat.le_refl _, fun p e R s m args below meth c H locs ls c0 s0 hS hq hL =>
    W.iret hS.1 hS.2.1 ((bm_Sret hS).trans hr) (fun t ht hW => ⟨rfl, by rw [ht]; exact hq.1, hq.2.1.F ht⟩) hq.2.1.2.2 hd (bm_Slk hS)⟩, hp⟩
theorem bm_zret {x : Int32} (hd : decode M.2.1 pc = .ok (.ireturn, 1)) (hr : M.2.2.2.1 = some .boolean) (hn : narrow .boolean (.int x) = .int x) (hp : P (.inl (some (.int x))) h) : bm_W G M pc L [.int x] h P :=
  ⟨_, _, ⟨Nat.le_refl _, Nat.le_refl _, fun p e R s m args below meth c H locs ls c0 s0 hS hq hL =>
    W.zret hS.1 hS.2.1 ((bm_Sret hS).trans hr) hn (fun t ht hW => ⟨rfl, by rw [ht]; exact hq.1, hq.2.1.F ht⟩) hq.2.1.2.2 hd (bm_Slk hS)⟩, hp⟩
theorem bm_vret (hd : decode M.2.1 pc = .ok (.return_, 1)) (hr : M.2.2.2.1 = none) (hp : P (.inl none) h) : bm_W G M pc L [] h P :=
  ⟨_, _, ⟨Nat.le_refl _, Nat.le_refl _, fun p e R s m args below meth c H locs ls c0 s0 hS hq hL =>
    W.vret hS.1 hS.2.1 ((bm_Sret hS).trans hr) (fun t ht hW => ⟨rfl, by rw [ht]; exact hq.1, hq.2.1.F ht⟩) hq.2.1.2.2 hd (bm_Slk hS)⟩, hp⟩
theorem bm_aret {v : Value} {rt : FieldType} (hd : decode M.2.1 pc = .ok (.areturn, 1)) (hr : M.2.2.2.1 = some rt) (hrt : (∃ n, rt = .object n) ∨ ∃ t, rt = .array t) (hv : v = .null ∨ ∃ a, v = .ref a) (hp : P (.inl (some v)) h) : bm_W G M pc L [v] h P :=
  ⟨_, _, ⟨Nat.le_refl _, Nat.le_refl _, fun p e R s m args below meth c H locs ls c0 s0 hS hq hL =>
    W.aret hS.1 hS.2.1 ((bm_Sret hS).trans hr) hrt (by rcases hv with rfl | ⟨a, rfl⟩; exact Or.inl rfl; exact Or.inr ⟨_, rfl⟩) (fun t ht hW => ⟨rfl, by rw [ht]; exact hq.1, hq.2.1.F ht⟩) hq.2.1.2.2 hd (bm_Slk hS)⟩, hp⟩
end BM4
