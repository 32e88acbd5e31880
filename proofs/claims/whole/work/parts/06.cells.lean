section BM3
variable {G : bm_G} {M : bm_M} {pc : Nat} {L L' : bm_L} {st : List Value} {h h1 : bm_H} {P : bm_R → bm_H → Prop}
theorem bm_Sts {p : Program} {R : Room} {s : State} {m : MethodId} {args : Array Value} {meth : Method} {c : Code} (h : bm_S G M p R s m args meth c) : ∀ w ∈ bm_Ts, w.before args s = true := h.2.2.2.2.1
theorem bm_Sown {p : Program} {R : Room} {s : State} {m : MethodId} {args : Array Value} {meth : Method} {c : Code} (h : bm_S G M p R s m args meth c) : s.vm.findClass M.1.cls = some m.cls := h.2.2.2.1
theorem bm_SK {p : Program} {R : Room} {s : State} {m : MethodId} {args : Array Value} {meth : Method} {c : Code} (h : bm_S G M p R s m args meth c) : va_K (bm_D G) bm_cl (bm_tys G) s := h.2.2.2.2.2.2.2.2.2.2.1
theorem bm_Sold {p : Program} {R : Room} {s : State} {m : MethodId} {args : Array Value} {meth : Method} {c : Code} (h : bm_S G M p R s m args meth c) : bm_old G s s.heap := h.2.2.2.2.2.2.2.2.2.2.2.1
theorem bm_Sret {p : Program} {R : Room} {s : State} {m : MethodId} {args : Array Value} {meth : Method} {c : Code} (h : bm_S G M p R s m args meth c) : meth.sig.returnType = M.2.2.2.1 := h.2.2.2.2.2.1
theorem bm_Slk {p : Program} {R : Room} {s : State} {m : MethodId} {args : Array Value} {meth : Method} {c : Code} (h : bm_S G M p R s m args meth c) : meth.locks = false := h.2.2.2.2.2.2.1
theorem bm_Snm {p : Program} {R : Room} {s : State} {m : MethodId} {args : Array Value} {meth : Method} {c : Code} (h : bm_S G M p R s m args meth c) : meth.name = M.1.name := h.2.2.2.2.2.2.2.1
theorem bm_Sfr {p : Program} {R : Room} {s : State} {m : MethodId} {args : Array Value} {meth : Method} {c : Code} (h : bm_S G M p R s m args meth c) : M.2.2.2.2.1 ≤ R.frames := h.2.2.2.2.2.2.2.2.1
theorem bm_Slo {p : Program} {R : Room} {s : State} {m : MethodId} {args : Array Value} {meth : Method} {c : Code} (h : bm_S G M p R s m args meth c) : M.2.2.2.2.2 ≤ R.locals := h.2.2.2.2.2.2.2.2.2.1
theorem bm_narrow {ty : FieldType} {v : Value} (hn : narrow ty v = v) : narrow ty (bm_v G v) = bm_v G v := by
  cases v <;> first | exact hn | (cases ty <;> rfl)
theorem bm_fits {ty : FieldType} {v : Value} (hn : fits ty v = true) : fits ty (bm_v G v) = true := by
  cases v <;> first | exact hn | (cases ty <;> first | rfl | cases hn)
/-! fields -/
def bm_gf (M : bm_M) (pc ci k : Nat) : Prop := ∃ (ix : Nat) (C : String) (T : u_T) (N : Nat), decode M.2.1 pc = .ok (.getfield ix, 3) ∧ bm_cl[ci]? = some (C, T, N) ∧ k < N ∧ (∀ w ∈ u_ws C T N, w ∈ bm_Ts) ∧ Cond.fieldLink M.1.cls ix (T k).1 (T k).2.1 (T k).2.2.1 ∈ bm_Ts
theorem bm_get {ci k a : Nat} {fs : List Value} {v : Value} (hg : bm_gf M pc ci k) (hh : h[a]? = some (.inr (ci, fs))) (hv : fs[k]? = some v) (kk : bm_W G M (pc + 3) L (v :: st) h P) : bm_W G M pc L (.ref a :: st) h P := by
  obtain ⟨ix, C, T, N, hd, hc, hk, hin, hl⟩ := hg
  refine bm_go (fun p e R s m args below meth c H locs ls n1 n2 Q hS hr hV hL w => ?_) kk
  obtain ⟨z, rfl⟩ := bm_two hr hh
  exact va_get hS.1 hS.2.1 (bm_Sts hS) hin (bm_Sown hS) (bm_SK hS) hr.1 z (bm_w_at hh) hc k hk (bm_Sts hS _ hl) (fun x hx => hx) (by rw [List.getElem?_map, hv]; rfl) hd w
def bm_pf (M : bm_M) (pc ci k : Nat) (ty : FieldType) : Prop := ∃ (ix : Nat) (C : String) (T : u_T) (N : Nat) (ty0 : Nat → FieldType), decode M.2.1 pc = .ok (.putfield ix, 3) ∧ bm_cl[ci]? = some (C, T, N) ∧ k < N ∧ (∀ w ∈ u_ws C T N, w ∈ bm_Ts) ∧ Cond.fieldLink M.1.cls ix (T k).1 (T k).2.1 (T k).2.2.1 ∈ bm_Ts ∧
  (∀ k, k < N → parseFieldDescriptor (T k).2.2.1 = some (ty0 k)) ∧ (∀ a, a < N → ∀ b, b < N → a ≠ b → (T a).2.1 ≠ (T b).2.1) ∧ ty0 k = ty ∧ ((T k).2.2.2 = false ∨ ((T k).2.2.2 = true ∧ M.1.name = "<init>" ∧ (T k).1 = M.1.cls))
theorem bm_put {ci k a : Nat} {ty : FieldType} {fs : List Value} {v : Value} (hg : bm_pf M pc ci k ty) (hh : h[a]? = some (.inr (ci, fs))) (hl : k < fs.length) (hn : narrow ty v = v) (hf : fits ty v = true) (kk : bm_W G M (pc + 3) L st (h.set a (.inr (ci, fs.set k v))) P) : bm_W G M pc L (v :: .ref a :: st) h P := by
  obtain ⟨ix, C, T, N, ty0, hd, hc, hk, hin, hlk, hty, hnm, rfl, hfin⟩ := hg
  refine bm_goS hh (by rfl) (fun p e R s m args below meth c H locs ls n1 n2 Q hS hr hV w => ?_) kk
  obtain ⟨z, rfl⟩ := bm_two hr hh
  have key : ∀ (H1 : Heap) (locs1 : List Loc), va_P (bm_D G) bm_cl ((bm_w G h).set z (bm_B G + z, .inr (ci, (fs.map (bm_v G)).set k (bm_v G v)))) H1 → va_D (bm_A G) ((bm_w G h).set z (bm_B G + z, .inr (ci, (fs.map (bm_v G)).set k (bm_v G v)))) → va_S (bm_A G) s.heap H1 locs1 → W p G.1 e R s m args below meth c H1 locs1 n1 n2 Q (F0 m (pc + 3) ls (st.map (bm_v G))) := by
    intro H1 locs1 q1 _ q2
    refine w H1 locs1 (bm_rep_set hr ?_) q2
    show va_P _ _ ((bm_w G h).set z (bm_B G + z, .inr (ci, (fs.set k v).map (bm_v G)))) H1
    rw [List.map_set]
    exact q1
  rcases hfin with hfin | ⟨hfin, hin2, hdecl⟩
  · exact va_put hS.1 hS.2.1 (bm_Sts hS) hin ty0 hty hnm (bm_Sown hS) (bm_SK hS) hr.1 bm_w_D hV z (bm_w_at hh) hc k hk (bm_Sts hS _ hlk) (fun x hx => hx) hfin (hty k hk) (bm_narrow hn) (bm_fits hf) (by rw [List.length_map]; exact hl) hd key
  · exact va_putF hS.1 hS.2.1 (bm_Sts hS) hin ty0 hty hnm (bm_Sown hS) (bm_SK hS) hr.1 bm_w_D hV z (bm_w_at hh) hc k hk (bm_Sts hS _ hlk) (fun x hx => hx) hfin ((bm_Snm hS).trans hin2) hdecl (hty k hk) (bm_narrow hn) (bm_fits hf) (by rw [List.length_map]; exact hl) hd key
/-! arrays -/
theorem bm_ty {t : Nat} {ty : FieldType} (ht : bm_ft[t]? = some ty) : (bm_tys G)[t]? = some (bm_cA G t, ty) := by
  unfold bm_tys
  rw [List.getElem?_mapIdx, ht]; rfl
theorem bm_rf (r : Option Nat) : bm_v G (va_rf r) = va_rf (r.map (bm_ad G)) := by cases r <;> rfl
theorem bm_iald {a n : Nat} {f : Nat → Int32} {i : Int32} (hd : decode M.2.1 pc = .ok (.iaload, 1)) (hh : h[a]? = some (.inl (0, n, .inl f))) (hin : vp_in i n) (kk : bm_W G M (pc + 1) L (.int (f i.toNatClampNeg) :: st) h P) : bm_W G M pc L (.int i :: .ref a :: st) h P := by
  refine bm_go (fun p e R s m args below meth c H locs ls n1 n2 Q hS hr hV hL w => ?_) kk
  match a, hh with
  | 0, hh =>
    rw [hr.2.1] at hh
    cases hh
    exact absurd (Or.inr (Nat.zero_le _)) hin
  | 1, hh =>
    rw [hr.2.2] at hh
    cases hh
    obtain ⟨cell, q1, q2, q3, q4, q5, q6, q7⟩ := (bm_Sold hS).2.2.1
    have hlt : i.toNatClampNeg < bm_xl G := Nat.not_le.mp fun q => hin (Or.inr q)
    refine W.iald (v := .int (bm_xs G i.toNatClampNeg)) hS.1 hS.2.1 ((hV.2.1 _ (Array.getElem?_eq_some_iff.mp q1).1 q7).trans q1) q2 q3 (fun q => hin ?_) (q6 _ hlt) rfl rfl hd w
    rcases q with q | q
    · exact Or.inl q
    · exact absurd (Nat.lt_of_lt_of_le hlt q4) (Nat.not_lt.mpr q)
  | z + 2, hh => exact va_iald hS.1 hS.2.1 (bm_SK hS) hr.1 z 0 (bm_w_at hh) (bm_ty rfl) hin hd w
theorem bm_iast {a n : Nat} {f : Nat → Int32} {i x : Int32} (hd : decode M.2.1 pc = .ok (.iastore, 1)) (ha : 2 ≤ a) (hh : h[a]? = some (.inl (0, n, .inl f))) (hin : vp_in i n) (kk : bm_W G M (pc + 1) L st (h.set a (.inl (0, n, .inl (upd f i.toNatClampNeg x)))) P) : bm_W G M pc L (.int x :: .int i :: .ref a :: st) h P := by
  refine bm_goS hh (by rfl) (fun p e R s m args below meth c H locs ls n1 n2 Q hS hr hV w => ?_) kk
  obtain ⟨z, rfl⟩ : ∃ z, a = z + 2 := ⟨a - 2, by omega⟩
  exact va_iast hS.1 hS.2.1 (bm_SK hS) hr.1 bm_w_D hV z 0 (bm_w_at hh) (bm_ty rfl) hin hd (fun H1 locs1 q1 _ q2 => w H1 locs1 (bm_rep_set hr q1) q2)
theorem bm_zald {a n : Nat} {f : Nat → Int32} {i : Int32} (hd : decode M.2.1 pc = .ok (.baload, 1)) (hh : h[a]? = some (.inl (1, n, .inl f))) (hin : vp_in i n) (kk : bm_W G M (pc + 1) L (.int (f i.toNatClampNeg) :: st) h P) : bm_W G M pc L (.int i :: .ref a :: st) h P := by
  refine bm_go (fun p e R s m args below meth c H locs ls n1 n2 Q hS hr hV hL w => ?_) kk
  match a, hh with
  | 0, hh => rw [hr.2.1] at hh; cases hh
  | 1, hh => rw [hr.2.2] at hh; cases hh
  | z + 2, hh => exact va_zald hS.1 hS.2.1 (bm_SK hS) hr.1 z 1 (bm_w_at hh) (bm_ty rfl) hin hd w
theorem bm_zast {a n : Nat} {f : Nat → Int32} {i x : Int32} (hd : decode M.2.1 pc = .ok (.bastore, 1)) (hh : h[a]? = some (.inl (1, n, .inl f))) (hin : vp_in i n) (kk : bm_W G M (pc + 1) L st (h.set a (.inl (1, n, .inl (upd f i.toNatClampNeg (vp_nar .boolean x))))) P) : bm_W G M pc L (.int x :: .int i :: .ref a :: st) h P := by
  refine bm_goS hh (by rfl) (fun p e R s m args below meth c H locs ls n1 n2 Q hS hr hV w => ?_) kk
  match a, hh with
  | 0, hh => rw [hr.2.1] at hh; cases hh
  | 1, hh => rw [hr.2.2] at hh; cases hh
  | z + 2, hh => exact va_zast hS.1 hS.2.1 (bm_SK hS) hr.1 bm_w_D hV z 1 (bm_w_at hh) (bm_ty rfl) hin hd (fun H1 locs1 q1 _ q2 => w H1 locs1 (bm_rep_set hr q1) q2)
theorem bm_lald {a n : Nat} {f : Nat → Int64} {i : Int32} (hd : decode M.2.1 pc = .ok (.laload, 1)) (hh : h[a]? = some (.inl (2, n, .inr (.inl f)))) (hin : vp_in i n) (kk : bm_W G M (pc + 1) L (.long (f i.toNatClampNeg) :: st) h P) : bm_W G M pc L (.int i :: .ref a :: st) h P := by
  refine bm_go (fun p e R s m args below meth c H locs ls n1 n2 Q hS hr hV hL w => ?_) kk
  match a, hh with
  | 0, hh => rw [hr.2.1] at hh; cases hh
  | 1, hh => rw [hr.2.2] at hh; cases hh
  | z + 2, hh => exact va_lald hS.1 hS.2.1 (bm_SK hS) hr.1 z 2 (bm_w_at hh) (bm_ty rfl) hin hd w
theorem bm_last {a n : Nat} {f : Nat → Int64} {i : Int32} {x : Int64} (hd : decode M.2.1 pc = .ok (.lastore, 1)) (hh : h[a]? = some (.inl (2, n, .inr (.inl f)))) (hin : vp_in i n) (kk : bm_W G M (pc + 1) L st (h.set a (.inl (2, n, .inr (.inl (vp_updL f i.toNatClampNeg x))))) P) : bm_W G M pc L (.long x :: .int i :: .ref a :: st) h P := by
  refine bm_goS hh (by rfl) (fun p e R s m args below meth c H locs ls n1 n2 Q hS hr hV w => ?_) kk
  match a, hh with
  | 0, hh => rw [hr.2.1] at hh; cases hh
  | 1, hh => rw [hr.2.2] at hh; cases hh
  | z + 2, hh => exact va_last hS.1 hS.2.1 (bm_SK hS) hr.1 bm_w_D hV z 2 (bm_w_at hh) (bm_ty rfl) hin hd (fun H1 locs1 q1 _ q2 => w H1 locs1 (bm_rep_set hr q1) q2)
abbrev bm_q (t n : Nat) (f : Nat → Option Nat) : bm_C := .inl (t, n, .inr (.inr (.inr (.inr f))))
theorem bm_aald {a t n : Nat} {C : String} {f : Nat → Option Nat} {i : Int32} (hd : decode M.2.1 pc = .ok (.aaload, 1)) (hh : h[a]? = some (bm_q t n f)) (ht : bm_ft[t]? = some (.object C)) (hin : vp_in i n) (kk : bm_W G M (pc + 1) L (va_rf (f i.toNatClampNeg) :: st) h P) : bm_W G M pc L (.int i :: .ref a :: st) h P := by
  refine bm_go (fun p e R s m args below meth c H locs ls n1 n2 Q hS hr hV hL w => ?_) kk
  match a, hh with
  | 0, hh => rw [hr.2.1] at hh; cases hh
  | 1, hh => rw [hr.2.2] at hh; cases hh
  | z + 2, hh =>
    refine va_aldq hS.1 hS.2.1 (bm_SK hS) hr.1 z t (bm_w_at hh) (bm_ty ht) hin hd ?_
    rw [List.map_cons, bm_rf] at w
    exact w
theorem bm_upq {f : Nat → Option Nat} {k : Nat} {x : Option Nat} : (fun j => (va_up f k x j).map (bm_ad G)) = va_up (fun j => (f j).map (bm_ad G)) k (x.map (bm_ad G)) := by
  funext j
  unfold va_up
  split <;> rfl
theorem bm_aast {a t n v ci : Nat} {r : vw_C} {vs : List Value} {f : Nat → Option Nat} {i : Int32} (hd : decode M.2.1 pc = .ok (.aastore, 1)) (hh : h[a]? = some (bm_q t n f)) (hc : bm_cl[ci]? = some r) (ht : bm_ft[t]? = some (.object r.1)) (hv : h[v]? = some (.inr (ci, vs))) (hin : vp_in i n)
    (kk : bm_W G M (pc + 1) L st (h.set a (bm_q t n (va_up f i.toNatClampNeg (some v)))) P) : bm_W G M pc L (.ref v :: .int i :: .ref a :: st) h P := by
  refine bm_goS hh (by rfl) (fun p e R s m args below meth c H locs ls n1 n2 Q hS hr hV w => ?_) kk
  obtain ⟨y, rfl⟩ := bm_two hr hv
  match a, hh with
  | 0, hh => rw [hr.2.1] at hh; cases hh
  | 1, hh => rw [hr.2.2] at hh; cases hh
  | z + 2, hh =>
    refine va_astq hS.1 hS.2.1 (bm_SK hS) hr.1 bm_w_D hV z t y ci (bm_w_at hh) (bm_ty ht) (bm_w_at hv) hc hin hd (fun H1 locs1 q1 _ q2 => w H1 locs1 (bm_rep_set hr ?_) q2)
    show va_P _ _ ((bm_w G h).set z (bm_B G + z, .inl (bm_cA G t, n, .inr (.inr (.inr (.inr (fun j => (va_up f i.toNatClampNeg (some (y + 2)) j).map (bm_ad G)))))))) H1
    rw [bm_upq]
    exact q1
theorem bm_alen {a t : Nat} {x : vp_A} (hd : decode M.2.1 pc = .ok (.arraylength, 1)) (hh : h[a]? = some (.inl (t, x))) (ht : t < bm_ft.length) (kk : bm_W G M (pc + 1) L (.int (Int32.ofNat x.1) :: st) h P) : bm_W G M pc L (.ref a :: st) h P := by
  refine bm_go (fun p e R s m args below meth c H locs ls n1 n2 Q hS hr hV hL w => ?_) kk
  match a, hh with
  | 0, hh =>
    rw [hr.2.1] at hh
    cases hh
    obtain ⟨cell, q1, q2, q3, q4, q5, q6, q7⟩ := (bm_Sold hS).2.1
    exact W.alen hS.1 hS.2.1 ((hV.2.1 _ (Array.getElem?_eq_some_iff.mp q1).1 q7).trans q1) q2 q5 rfl rfl hd w
  | 1, hh =>
    rw [hr.2.2] at hh
    cases hh
    obtain ⟨cell, q1, q2, q3, q4, q5, q6, q7⟩ := (bm_Sold hS).2.2.1
    exact W.alen hS.1 hS.2.1 ((hV.2.1 _ (Array.getElem?_eq_some_iff.mp q1).1 q7).trans q1) q2 q5 rfl rfl hd w
  | z + 2, hh =>
    have e : (bm_arr G x).1 = x.1 := by
      obtain ⟨n, b⟩ := x
      rcases b with b | b | b | b | b <;> rfl
    exact va_alen hS.1 hS.2.1 (bm_SK hS) hr.1 z t (bm_w_at hh) (bm_ty (List.getElem?_eq_getElem ht)) (by rw [e]) hd w
end BM3
