/-! cx: the class's things by field, place and index. c.1 F p j: ints; c.2.1 F p j: references; c.2.2.1 p: what lies at p, (class, 0) or (400 + type, length); then how many places, how many slots. -/
abbrev cx_S : Type := (Nat → Nat → Nat → Int32) × (Nat → Nat → Nat → Option Nat) × (Nat → Option (Nat × Nat)) × Nat × Nat
abbrev cI (c : cx_S) : Nat → Nat → Nat → Int32 := c.1
abbrev cR (c : cx_S) : Nat → Nat → Nat → Option Nat := c.2.1
abbrev cH (c : cx_S) : Nat → Option (Nat × Nat) := c.2.2.1
abbrev cN (c : cx_S) : Nat := c.2.2.2.1
abbrev cZ (c : cx_S) : Nat := c.2.2.2.2
def cx_ks : Nat → List Bool := fun ci => match ci with
  | 0 => [false, false, true, false, false, false, false]
  | 1 => [true, true, false, true, true, true, false, false, false, false]
  | 2 => [false, false, false, false, true, false]
  | 3 => [true, true, false, false, true]
  | 4 => [true, false, false]
  | 5 => [false, false]
  | 6 => [true, true, false, false]
  | 7 => [false, false, false, false, false, false]
  | 8 => [true, true, true, true, true, true]
  | 9 => [true, true, true, true]
  | 10 => [true, true, true, false, false]
  | _ => []
def cx_fv (c : cx_S) (p ci j : Nat) (b : Bool) : Value := if b then .int (cI c (16 * ci + j) p 0) else va_rf (cR c (16 * ci + j) p 0)
def cx_fs (c : cx_S) (p ci : Nat) : List Value := (cx_ks ci).mapIdx (cx_fv c p ci)
def cx_cell (c : cx_S) (p : Nat) (k : Nat × Nat) : bm_C := if k.1 < 400 then .inr (k.1, cx_fs c p k.1) else if k.1 < 402 then .inl (k.1 - 400, k.2, .inl (cI c k.1 p)) else bm_q (k.1 - 400) k.2 (cR c k.1 p)
def cx_rep (h : bm_H) (c : cx_S) : Prop := h.length = cN c ∧ bm_sz h = cZ c ∧ (∀ p k, cH c p = some k → h[p]? = some (cx_cell c p k)) ∧ cH c 1 = none ∧ (∀ k, cH c 0 = some k → k = (400, 0)) ∧ (∀ p, 52 ≤ p → p < 96 → cH c p = none)
def cx_ui (c : cx_S) (F p j : Nat) (x : Int32) : cx_S := (fun F2 p2 j2 => if F2 = F ∧ p2 = p ∧ j2 = j then x else cI c F2 p2 j2, c.2)
def cx_ur (c : cx_S) (F p j : Nat) (x : Option Nat) : cx_S := (c.1, fun F2 p2 j2 => if F2 = F ∧ p2 = p ∧ j2 = j then x else cR c F2 p2 j2, c.2.2)
def cx_mk (c : cx_S) (k : Nat × Nat) (z : Nat) : cx_S := (fun F p j => if p = cN c then 0 else cI c F p j, fun F p j => if p = cN c then none else cR c F p j, fun p => if p = cN c then some k else cH c p, cN c + 1, cZ c + z)
def cx_same (h hf : bm_H) : Prop := ∀ j, 52 ≤ j → j < 96 → hf[j]? = h[j]?
def cx_P (h : bm_H) (Q : bm_R → cx_S → Prop) : bm_R → bm_H → Prop := fun r hf => cx_same h hf ∧ ∃ c2, cx_rep hf c2 ∧ Q r c2
def cx (G : bm_G) (M : bm_M) (pc : Nat) (L : bm_L) (st : List Value) (s : cx_S) (Q : bm_R → cx_S → Prop) : Prop := ∀ h, cx_rep h s → bm_W G M pc L st h (cx_P h Q)
def cx_T (G : bm_G) (M : bm_M) (av : List Value) (s : cx_S) (Q : Option Value → cx_S → Prop) : Prop := ∀ h, cx_rep h s → bm_T G M av h (fun v hf => cx_same h hf ∧ ∃ s2, cx_rep hf s2 ∧ Q v s2)
theorem cx_same.rf (h : bm_H) : cx_same h h := fun _ _ _ => rfl
theorem cx_same.tr {a b c : bm_H} (h1 : cx_same a b) (h2 : cx_same b c) : cx_same a c := fun j hj hk => (h2 j hj hk).trans (h1 j hj hk)
theorem cx_cat {o : Option Nat} : (va_rf o).category = 1 := by cases o <;> rfl
theorem cx_fs_get {c : cx_S} {p ci j : Nat} {b : Bool} (h : (cx_ks ci)[j]? = some b) : (cx_fs c p ci)[j]? = some (cx_fv c p ci j b) := by
  unfold cx_fs
  rw [List.getElem?_mapIdx, h]; rfl
theorem cx_fs_len {c : cx_S} {p ci : Nat} : (cx_fs c p ci).length = (cx_ks ci).length := by simp [cx_fs]
theorem cx_fv_ui {c : cx_S} {F p p2 j ci i : Nat} {b : Bool} {x : Int32} (h : p2 ≠ p ∨ 16 * ci + i ≠ F) : cx_fv (cx_ui c F p j x) p2 ci i b = cx_fv c p2 ci i b := by
  unfold cx_fv cx_ui
  cases b
  · rfl
  · show Value.int (if 16 * ci + i = F ∧ p2 = p ∧ 0 = j then x else cI c (16 * ci + i) p2 0) = _
    rw [if_neg (by omega)]; rfl
theorem cx_fv_ur {c : cx_S} {F p p2 j ci i : Nat} {b : Bool} {x : Option Nat} (h : p2 ≠ p ∨ 16 * ci + i ≠ F) : cx_fv (cx_ur c F p j x) p2 ci i b = cx_fv c p2 ci i b := by
  unfold cx_fv cx_ur
  cases b
  · show va_rf (if 16 * ci + i = F ∧ p2 = p ∧ 0 = j then x else cR c (16 * ci + i) p2 0) = _
    rw [if_neg (by omega)]; rfl
  · rfl
theorem cx_fs_ext {c c2 : cx_S} {p ci : Nat} (h : ∀ i b, (cx_ks ci)[i]? = some b → cx_fv c2 p ci i b = cx_fv c p ci i b) : cx_fs c2 p ci = cx_fs c p ci := by
  apply List.ext_getElem?
  intro i
  unfold cx_fs
  rw [List.getElem?_mapIdx, List.getElem?_mapIdx]
  cases e : (cx_ks ci)[i]? with
  | none => rfl
  | some b => exact congrArg some (h i b e)
theorem cx_fs_set {c c2 : cx_S} {p ci j : Nat} {b : Bool} {v : Value} (hj : (cx_ks ci)[j]? = some b) (hv : cx_fv c2 p ci j b = v) (h : ∀ i b, i ≠ j → (cx_ks ci)[i]? = some b → cx_fv c2 p ci i b = cx_fv c p ci i b) : cx_fs c2 p ci = (cx_fs c p ci).set j v := by
  apply List.ext_getElem?
  intro i
  have hl := (List.getElem?_eq_some_iff.mp hj).1
  rw [List.getElem?_set, cx_fs_len]
  by_cases e : j = i
  · subst e
    rw [if_pos rfl, if_pos hl, cx_fs_get hj, hv]
  · rw [if_neg e]
    unfold cx_fs
    rw [List.getElem?_mapIdx, List.getElem?_mapIdx]
    cases q : (cx_ks ci)[i]? with
    | none => rfl
    | some b2 => exact congrArg some (h i b2 (fun w => e w.symm) q)
/-- a cell elsewhere stays -/
theorem cx_cell_ui {c : cx_S} {F p p2 j : Nat} {x : Int32} {k : Nat × Nat} (h : p2 ≠ p) : cx_cell (cx_ui c F p j x) p2 k = cx_cell c p2 k := by
  unfold cx_cell
  rw [cx_fs_ext (fun i b _ => cx_fv_ui (Or.inl h))]
  have e : cI (cx_ui c F p j x) k.1 p2 = cI c k.1 p2 := by
    funext i
    show (if k.1 = F ∧ p2 = p ∧ i = j then x else cI c k.1 p2 i) = _
    rw [if_neg (fun q => h q.2.1)]
  rw [e]; rfl
theorem cx_cell_ur {c : cx_S} {F p p2 j : Nat} {x : Option Nat} {k : Nat × Nat} (h : p2 ≠ p) : cx_cell (cx_ur c F p j x) p2 k = cx_cell c p2 k := by
  unfold cx_cell
  rw [cx_fs_ext (fun i b _ => cx_fv_ur (Or.inl h))]
  have e : cR (cx_ur c F p j x) k.1 p2 = cR c k.1 p2 := by
    funext i
    show (if k.1 = F ∧ p2 = p ∧ i = j then x else cR c k.1 p2 i) = _
    rw [if_neg (fun q => h q.2.1)]
  rw [e]; rfl
theorem cx_cell_mk {c : cx_S} {z p2 : Nat} {k k2 : Nat × Nat} (h : p2 ≠ cN c) : cx_cell (cx_mk c k2 z) p2 k = cx_cell c p2 k := by
  have e1 : ∀ F, cI (cx_mk c k2 z) F p2 = cI c F p2 := fun F => by
    funext i
    show (if p2 = cN c then 0 else cI c F p2 i) = _
    rw [if_neg h]
  have e2 : ∀ F, cR (cx_mk c k2 z) F p2 = cR c F p2 := fun F => by
    funext i
    show (if p2 = cN c then none else cR c F p2 i) = _
    rw [if_neg h]
  unfold cx_cell
  rw [cx_fs_ext (c := c) (fun i b _ => by unfold cx_fv; rw [e1, e2]), e1, e2]
theorem cx_set {h : bm_H} {c c2 : cx_S} {p : Nat} {k : Nat × Nat} {w : bm_C} (hr : cx_rep h c) (hp : cH c p = some k) (h22 : c2.2.2 = c.2.2) (ho : ∀ p2 k2, p2 ≠ p → cx_cell c2 p2 k2 = cx_cell c p2 k2) (hw : cx_cell c2 p k = w) (hz : bm_s w = bm_s (cx_cell c p k)) : cx_rep (h.set p w) c2 ∧ cx_same h (h.set p w) := by
  have hl := (List.getElem?_eq_some_iff.mp (hr.2.2.1 p k hp)).1
  have eH : cH c2 = cH c := congrArg (fun x => x.1) h22
  refine ⟨⟨?_, ?_, fun p2 k2 h2 => ?_, ?_, ?_, ?_⟩, fun j h1 h2 => ?_⟩
  · rw [List.length_set, hr.1]; exact (congrArg (fun x => x.2.1) h22).symm
  · rw [bm_sz_set (hr.2.2.1 p k hp) hz, hr.2.1]; exact (congrArg (fun x => x.2.2) h22).symm
  · rw [eH] at h2
    rw [List.getElem?_set]
    by_cases e : p = p2
    · subst e
      rw [if_pos rfl, if_pos hl, ← hw]
      rw [hp] at h2
      cases h2; rfl
    · rw [if_neg e, hr.2.2.1 p2 k2 h2, ho p2 k2 (fun q => e q.symm)]
  · rw [eH]; exact hr.2.2.2.1
  · rw [eH]; exact hr.2.2.2.2.1
  · rw [eH]; exact hr.2.2.2.2.2
  · rw [List.getElem?_set, if_neg]
    intro e
    subst e
    rw [hr.2.2.2.2.2 p h1 h2] at hp
    cases hp
theorem cx_push {h : bm_H} {c : cx_S} {k : Nat × Nat} {z : Nat} {w : bm_C} (hr : cx_rep h c) (hn : cN c < 52 ∨ 96 ≤ cN c) (h2 : 2 ≤ cN c) (hw : cx_cell (cx_mk c k z) (cN c) k = w) (hz : bm_s w = z) : cx_rep (h ++ [w]) (cx_mk c k z) ∧ cx_same h (h ++ [w]) := by
  have hl := hr.1
  refine ⟨⟨?_, ?_, fun p2 k2 q2 => ?_, ?_, ?_, fun p q1 q2 => ?_⟩, fun j q1 q2 => ?_⟩
  · rw [List.length_append, hr.1]; rfl
  · rw [bm_sz_push, hr.2.1, hz]; rfl
  · by_cases e : p2 = cN c
    · subst e
      have : (if cN c = cN c then some k else cH c (cN c)) = some k2 := q2
      rw [if_pos rfl] at this
      cases this
      rw [List.getElem?_append_right (by omega), hl, Nat.sub_self, hw]; rfl
    · have : (if p2 = cN c then some k else cH c p2) = some k2 := q2
      rw [if_neg e] at this
      have q3 := hr.2.2.1 p2 k2 this
      rw [List.getElem?_append_left (List.getElem?_eq_some_iff.mp q3).1, q3, cx_cell_mk e]
  · show (if 1 = cN c then some k else cH c 1) = none
    rw [if_neg (by omega)]; exact hr.2.2.2.1
  · intro k2 q
    have : (if 0 = cN c then some k else cH c 0) = some k2 := q
    rw [if_neg (by omega)] at this
    exact hr.2.2.2.2.1 k2 this
  · show (if p = cN c then some k else cH c p) = none
    rw [if_neg (by omega)]; exact hr.2.2.2.2.2 p q1 q2
  · by_cases q : j < h.length
    · rw [List.getElem?_append_left q]
    · have e1 : h[j]? = none := List.getElem?_eq_none (by omega)
      have e2 : (h ++ [w])[j]? = none := List.getElem?_eq_none (by rw [List.length_append]; show h.length + 1 ≤ j; omega)
      rw [e1, e2]
section CX
variable {G : bm_G} {M K : bm_M} {pc : Nat} {L L' : bm_L} {st : List Value} {s : cx_S} {Q : bm_R → cx_S → Prop}
theorem cx_then {h h1 : bm_H} (hs : cx_same h h1) (k : bm_W G M pc L st h1 (cx_P h1 Q)) : bm_W G M pc L st h1 (cx_P h Q) := k.mono (fun r hf w => ⟨hs.tr w.1, w.2⟩)
theorem cx_isub {x y : Int32} (hd : decode M.2.1 pc = .ok (.isub, 1)) (k : cx G M (pc + 1) L (.int (x - y) :: st) s Q) : cx G M pc L (.int y :: .int x :: st) s Q := fun h0 hr => bm_isub hd (k h0 hr)
theorem cx_imul {x y : Int32} (hd : decode M.2.1 pc = .ok (.imul, 1)) (k : cx G M (pc + 1) L (.int (x * y) :: st) s Q) : cx G M pc L (.int y :: .int x :: st) s Q := fun h0 hr => bm_imul hd (k h0 hr)
theorem cx_iand {x y : Int32} (hd : decode M.2.1 pc = .ok (.iand, 1)) (k : cx G M (pc + 1) L (.int (x &&& y) :: st) s Q) : cx G M pc L (.int y :: .int x :: st) s Q := fun h0 hr => bm_iand hd (k h0 hr)
theorem cx_ior {x y : Int32} (hd : decode M.2.1 pc = .ok (.ior, 1)) (k : cx G M (pc + 1) L (.int (x ||| y) :: st) s Q) : cx G M pc L (.int y :: .int x :: st) s Q := fun h0 hr => bm_ior hd (k h0 hr)
theorem cx_ishl {x y : Int32} (hd : decode M.2.1 pc = .ok (.ishl, 1)) (k : cx G M (pc + 1) L (.int (x <<< (y &&& 31)) :: st) s Q) : cx G M pc L (.int y :: .int x :: st) s Q := fun h0 hr => bm_ishl hd (k h0 hr)
theorem cx_ishr {x y : Int32} (hd : decode M.2.1 pc = .ok (.ishr, 1)) (k : cx G M (pc + 1) L (.int (x >>> (y &&& 31)) :: st) s Q) : cx G M pc L (.int y :: .int x :: st) s Q := fun h0 hr => bm_ishr hd (k h0 hr)
theorem cx_idiv {x y : Int32} (hd : decode M.2.1 pc = .ok (.idiv, 1)) (hne : ¬ y = 0) (k : cx G M (pc + 1) L (.int (x / y) :: st) s Q) : cx G M pc L (.int y :: .int x :: st) s Q := fun h0 hr => bm_idiv hd hne (k h0 hr)
theorem cx_irem {x y : Int32} (hd : decode M.2.1 pc = .ok (.irem, 1)) (hne : ¬ y = 0) (k : cx G M (pc + 1) L (.int (x - x / y * y) :: st) s Q) : cx G M pc L (.int y :: .int x :: st) s Q := fun h0 hr => bm_irem hd hne (k h0 hr)
theorem cx_i2l {x : Int32} (hd : decode M.2.1 pc = .ok (.i2l, 1)) (k : cx G M (pc + 1) L (.long x.toInt64 :: st) s Q) : cx G M pc L (.int x :: st) s Q := fun h0 hr => bm_i2l hd (k h0 hr)
theorem cx_lcmp {x y : Int64} (hd : decode M.2.1 pc = .ok (.lcmp, 1)) (k : cx G M (pc + 1) L (.int (lg_cmp x y) :: st) s Q) : cx G M pc L (.long y :: .long x :: st) s Q := fun h0 hr => bm_lcmp hd (k h0 hr)
theorem cx_dup {v : Value} (hd : decode M.2.1 pc = .ok (.dup, 1)) (hv : v.category = 1) (k : cx G M (pc + 1) L (v :: v :: st) s Q) : cx G M pc L (v :: st) s Q := fun h0 hr => bm_dup hd hv (k h0 hr)
theorem cx_pop {v : Value} (hd : decode M.2.1 pc = .ok (.pop, 1)) (hv : v.category = 1) (k : cx G M (pc + 1) L (st) s Q) : cx G M pc L (v :: st) s Q := fun h0 hr => bm_pop hd hv (k h0 hr)
theorem cx_dup_x1 {v u : Value} (hd : decode M.2.1 pc = .ok (.dup_x1, 1)) (hv : v.category = 1) (hu : u.category = 1) (k : cx G M (pc + 1) L (v :: u :: v :: st) s Q) : cx G M pc L (v :: u :: st) s Q := fun h0 hr => bm_dup_x1 hd hv hu (k h0 hr)
theorem cx_dup2 {v u : Value} (hd : decode M.2.1 pc = .ok (.dup2, 1)) (hv : v.category = 1) (hu : u.category = 1) (k : cx G M (pc + 1) L (v :: u :: v :: u :: st) s Q) : cx G M pc L (v :: u :: st) s Q := fun h0 hr => bm_dup2 hd hv hu (k h0 hr)
theorem cx_dup_x2 {v u t : Value} (hd : decode M.2.1 pc = .ok (.dup_x2, 1)) (hv : v.category = 1) (hu : u.category = 1) (ht : t.category = 1) (k : cx G M (pc + 1) L (v :: u :: t :: v :: st) s Q) : cx G M pc L (v :: u :: t :: st) s Q := fun h0 hr => bm_dup_x2 hd hv hu ht (k h0 hr)
theorem cx_goto {off : Int} {tgt : Nat} (hd : decode M.2.1 pc = .ok (.goto off, 3)) (ht : (pc : Int) + off = (tgt : Int)) (k : cx G M tgt L st s Q) : cx G M pc L st s Q := fun h0 hr => bm_goto hd ht (k h0 hr)
theorem cx_if_eq {x : Int32} {off : Int} {tgt : Nat} (hd : decode M.2.1 pc = .ok (.ifCond .eq off, 3)) (ht : (pc : Int) + off = (tgt : Int)) (kt : x = 0 → cx G M tgt L st s Q) (kf : ¬ x = 0 → cx G M (pc + 3) L st s Q) : cx G M pc L (.int x :: st) s Q := fun h0 hr => bm_if_eq hd ht (fun q => kt q h0 hr) (fun q => kf q h0 hr)
theorem cx_icmp_eq {x y : Int32} {off : Int} {tgt : Nat} (hd : decode M.2.1 pc = .ok (.if_icmp .eq off, 3)) (ht : (pc : Int) + off = (tgt : Int)) (kt : x = y → cx G M tgt L st s Q) (kf : ¬ x = y → cx G M (pc + 3) L st s Q) : cx G M pc L (.int y :: .int x :: st) s Q := fun h0 hr => bm_icmp_eq hd ht (fun q => kt q h0 hr) (fun q => kf q h0 hr)
theorem cx_if_ne {x : Int32} {off : Int} {tgt : Nat} (hd : decode M.2.1 pc = .ok (.ifCond .ne off, 3)) (ht : (pc : Int) + off = (tgt : Int)) (kt : ¬ x = 0 → cx G M tgt L st s Q) (kf : x = 0 → cx G M (pc + 3) L st s Q) : cx G M pc L (.int x :: st) s Q := fun h0 hr => bm_if_ne hd ht (fun q => kt q h0 hr) (fun q => kf q h0 hr)
theorem cx_icmp_ne {x y : Int32} {off : Int} {tgt : Nat} (hd : decode M.2.1 pc = .ok (.if_icmp .ne off, 3)) (ht : (pc : Int) + off = (tgt : Int)) (kt : ¬ x = y → cx G M tgt L st s Q) (kf : x = y → cx G M (pc + 3) L st s Q) : cx G M pc L (.int y :: .int x :: st) s Q := fun h0 hr => bm_icmp_ne hd ht (fun q => kt q h0 hr) (fun q => kf q h0 hr)
theorem cx_if_lt {x : Int32} {off : Int} {tgt : Nat} (hd : decode M.2.1 pc = .ok (.ifCond .lt off, 3)) (ht : (pc : Int) + off = (tgt : Int)) (kt : x < 0 → cx G M tgt L st s Q) (kf : ¬ x < 0 → cx G M (pc + 3) L st s Q) : cx G M pc L (.int x :: st) s Q := fun h0 hr => bm_if_lt hd ht (fun q => kt q h0 hr) (fun q => kf q h0 hr)
theorem cx_icmp_lt {x y : Int32} {off : Int} {tgt : Nat} (hd : decode M.2.1 pc = .ok (.if_icmp .lt off, 3)) (ht : (pc : Int) + off = (tgt : Int)) (kt : x < y → cx G M tgt L st s Q) (kf : ¬ x < y → cx G M (pc + 3) L st s Q) : cx G M pc L (.int y :: .int x :: st) s Q := fun h0 hr => bm_icmp_lt hd ht (fun q => kt q h0 hr) (fun q => kf q h0 hr)
theorem cx_if_ge {x : Int32} {off : Int} {tgt : Nat} (hd : decode M.2.1 pc = .ok (.ifCond .ge off, 3)) (ht : (pc : Int) + off = (tgt : Int)) (kt : 0 ≤ x → cx G M tgt L st s Q) (kf : ¬ 0 ≤ x → cx G M (pc + 3) L st s Q) : cx G M pc L (.int x :: st) s Q := fun h0 hr => bm_if_ge hd ht (fun q => kt q h0 hr) (fun q => kf q h0 hr)
theorem cx_icmp_ge {x y : Int32} {off : Int} {tgt : Nat} (hd : decode M.2.1 pc = .ok (.if_icmp .ge off, 3)) (ht : (pc : Int) + off = (tgt : Int)) (kt : y ≤ x → cx G M tgt L st s Q) (kf : ¬ y ≤ x → cx G M (pc + 3) L st s Q) : cx G M pc L (.int y :: .int x :: st) s Q := fun h0 hr => bm_icmp_ge hd ht (fun q => kt q h0 hr) (fun q => kf q h0 hr)
theorem cx_if_gt {x : Int32} {off : Int} {tgt : Nat} (hd : decode M.2.1 pc = .ok (.ifCond .gt off, 3)) (ht : (pc : Int) + off = (tgt : Int)) (kt : 0 < x → cx G M tgt L st s Q) (kf : ¬ 0 < x → cx G M (pc + 3) L st s Q) : cx G M pc L (.int x :: st) s Q := fun h0 hr => bm_if_gt hd ht (fun q => kt q h0 hr) (fun q => kf q h0 hr)
theorem cx_icmp_gt {x y : Int32} {off : Int} {tgt : Nat} (hd : decode M.2.1 pc = .ok (.if_icmp .gt off, 3)) (ht : (pc : Int) + off = (tgt : Int)) (kt : y < x → cx G M tgt L st s Q) (kf : ¬ y < x → cx G M (pc + 3) L st s Q) : cx G M pc L (.int y :: .int x :: st) s Q := fun h0 hr => bm_icmp_gt hd ht (fun q => kt q h0 hr) (fun q => kf q h0 hr)
theorem cx_if_le {x : Int32} {off : Int} {tgt : Nat} (hd : decode M.2.1 pc = .ok (.ifCond .le off, 3)) (ht : (pc : Int) + off = (tgt : Int)) (kt : x ≤ 0 → cx G M tgt L st s Q) (kf : ¬ x ≤ 0 → cx G M (pc + 3) L st s Q) : cx G M pc L (.int x :: st) s Q := fun h0 hr => bm_if_le hd ht (fun q => kt q h0 hr) (fun q => kf q h0 hr)
theorem cx_icmp_le {x y : Int32} {off : Int} {tgt : Nat} (hd : decode M.2.1 pc = .ok (.if_icmp .le off, 3)) (ht : (pc : Int) + off = (tgt : Int)) (kt : x ≤ y → cx G M tgt L st s Q) (kf : ¬ x ≤ y → cx G M (pc + 3) L st s Q) : cx G M pc L (.int y :: .int x :: st) s Q := fun h0 hr => bm_icmp_le hd ht (fun q => kt q h0 hr) (fun q => kf q h0 hr)
theorem cx_iload_n {n : Fin 4} {x : Int32} (hd : decode M.2.1 pc = .ok (.iload_n n, 1)) (hl : L[(n : Nat)]? = some (some (.int x))) (k : cx G M (pc + 1) L (.int x :: st) s Q) : cx G M pc L st s Q := fun h0 hr => bm_iload_n hd hl (k h0 hr)
theorem cx_iload {i : Nat} {x : Int32} (hd : decode M.2.1 pc = .ok (.iload i, 2)) (hl : L[i]? = some (some (.int x))) (k : cx G M (pc + 2) L (.int x :: st) s Q) : cx G M pc L st s Q := fun h0 hr => bm_iload hd hl (k h0 hr)
theorem cx_tableIn {d lo hi : Int} {offs : Array Int} {len : Nat} {x : Int32} {off : Int} {tgt : Nat} (hd : decode M.2.1 pc = .ok (.tableswitch d lo hi offs, len)) (h1 : ¬ x.toInt < lo) (h2 : ¬ hi < x.toInt) (ho : offs[(x.toInt - lo).toNat]? = some off) (ht : (pc : Int) + off = (tgt : Int)) (k : cx G M tgt L st s Q) : cx G M pc L (.int x :: st) s Q := fun h0 hr => bm_tableIn hd h1 h2 ho ht (k h0 hr)
theorem cx_tableOut {d lo hi : Int} {offs : Array Int} {len : Nat} {x : Int32} {tgt : Nat} (hd : decode M.2.1 pc = .ok (.tableswitch d lo hi offs, len)) (hx : x.toInt < lo ∨ hi < x.toInt) (ht : (pc : Int) + d = (tgt : Int)) (k : cx G M tgt L st s Q) : cx G M pc L (.int x :: st) s Q := fun h0 hr => bm_tableOut hd hx ht (k h0 hr)
theorem cx_lookup {d : Int} {ps : Array (Int × Int)} {len : Nat} {x : Int32} {off : Int} {tgt : Nat} (hd : decode M.2.1 pc = .ok (.lookupswitch d ps, len)) (hp : (ps.toList.zip (ps.toList.drop 1)).all (fun (a, next) => a.1 < next.1) = true) (ho : Op.lookupswitch.offset ps.toList d x.toInt = off) (ht : (pc : Int) + off = (tgt : Int)) (k : cx G M tgt L st s Q) : cx G M pc L (.int x :: st) s Q := fun h0 hr => bm_lookup hd hp ho ht (k h0 hr)
theorem cx_istore_n {n : Fin 4} {x : Int32} (hd : decode M.2.1 pc = .ok (.istore_n n, 1)) (hn : (n : Nat) < M.2.2.1) (k : cx G M (pc + 1) (L.set n (some (.int x))) st s Q) : cx G M pc L (.int x :: st) s Q := fun h0 hr => bm_istore_n hd hn (k h0 hr)
theorem cx_istore {i : Nat} {x : Int32} (hd : decode M.2.1 pc = .ok (.istore i, 2)) (hn : i < M.2.2.1) (k : cx G M (pc + 2) (L.set i (some (.int x))) st s Q) : cx G M pc L (.int x :: st) s Q := fun h0 hr => bm_istore hd hn (k h0 hr)
theorem cx_iinc {i : Nat} {n : Int} {x : Int32} (hd : decode M.2.1 pc = .ok (.iinc i n, 3)) (hn : i < M.2.2.1) (hl : L[i]? = some (some (.int x))) (k : cx G M (pc + 3) (L.set i (some (.int (x + Int32.ofInt n)))) st s Q) : cx G M pc L st s Q := fun h0 hr => bm_iinc hd hn hl (k h0 hr)
theorem cx_iconst {n : Int} {v : Int32} (hd : decode M.2.1 pc = .ok (.iconst n, 1)) (hv : Int32.ofInt n = v) (k : cx G M (pc + 1) L (.int v :: st) s Q) : cx G M pc L st s Q := fun h0 hr => bm_iconst hd hv (k h0 hr)
theorem cx_bipush {n : Int} {v : Int32} (hd : decode M.2.1 pc = .ok (.bipush n, 2)) (hv : (Int8.ofInt n).toInt32 = v) (k : cx G M (pc + 2) L (.int v :: st) s Q) : cx G M pc L st s Q := fun h0 hr => bm_bipush hd hv (k h0 hr)
theorem cx_sipush {n : Int} {v : Int32} (hd : decode M.2.1 pc = .ok (.sipush n, 3)) (hv : (Int16.ofInt n).toInt32 = v) (k : cx G M (pc + 3) L (.int v :: st) s Q) : cx G M pc L st s Q := fun h0 hr => bm_sipush hd hv (k h0 hr)
theorem cx_iadd {x y : Int32} (hd : decode M.2.1 pc = .ok (.iadd, 1)) (k : cx G M (pc + 1) L (.int (x + y) :: st) s Q) : cx G M pc L (.int y :: .int x :: st) s Q := fun h0 hr => bm_iadd hd (k h0 hr)
theorem cx_aload_n {n : Fin 4} {o : Option Nat} (hd : decode M.2.1 pc = .ok (.aload_n n, 1)) (hl : L[(n : Nat)]? = some (some (va_rf o))) (k : cx G M (pc + 1) L (va_rf o :: st) s Q) : cx G M pc L st s Q := fun h0 hr => by
  cases o with
  | none => exact bm_aload_nN hd hl (k h0 hr)
  | some p => exact bm_aload_n hd hl (k h0 hr)
theorem cx_aload {i : Nat} {o : Option Nat} (hd : decode M.2.1 pc = .ok (.aload i, 2)) (hl : L[i]? = some (some (va_rf o))) (k : cx G M (pc + 2) L (va_rf o :: st) s Q) : cx G M pc L st s Q := fun h0 hr => by
  cases o with
  | none => exact bm_aloadN hd hl (k h0 hr)
  | some p => exact bm_aload hd hl (k h0 hr)
theorem cx_astore_n {n : Fin 4} {o : Option Nat} (hd : decode M.2.1 pc = .ok (.astore_n n, 1)) (hn : (n : Nat) < M.2.2.1) (k : cx G M (pc + 1) (L.set n (some (va_rf o))) st s Q) : cx G M pc L (va_rf o :: st) s Q := fun h0 hr => by
  cases o with
  | none => exact bm_astore_nN hd hn (k h0 hr)
  | some p => exact bm_astore_n hd hn (k h0 hr)
theorem cx_astore {i : Nat} {o : Option Nat} (hd : decode M.2.1 pc = .ok (.astore i, 2)) (hn : i < M.2.2.1) (k : cx G M (pc + 2) (L.set i (some (va_rf o))) st s Q) : cx G M pc L (va_rf o :: st) s Q := fun h0 hr => by
  cases o with
  | none => exact bm_astoreN hd hn (k h0 hr)
  | some p => exact bm_astore hd hn (k h0 hr)
theorem cx_ifnonnull {o : Option Nat} {off : Int} {tgt : Nat} (hd : decode M.2.1 pc = .ok (.ifnonnull off, 3)) (ht : (pc : Int) + off = (tgt : Int)) (kt : ¬ o = none → cx G M tgt L st s Q) (kf : o = none → cx G M (pc + 3) L st s Q) : cx G M pc L (va_rf o :: st) s Q := fun h0 hr => by
  cases o with
  | none => exact bm_ifnonnullN hd (kf rfl h0 hr)
  | some p => exact bm_ifnonnull hd ht (kt (by simp) h0 hr)
theorem cx_null (hd : decode M.2.1 pc = .ok (.aconst_null, 1)) (k : cx G M (pc + 1) L (va_rf none :: st) s Q) : cx G M pc L st s Q := fun h0 hr => bm_null hd (k h0 hr)
theorem cx_obj {h : bm_H} {p ci : Nat} (hr : cx_rep h s) (hc : ci < 400) (hs : cH s p = some (ci, 0)) : h[p]? = some (.inr (ci, cx_fs s p ci)) := by
  rw [hr.2.2.1 p _ hs]; unfold cx_cell; rw [if_pos hc]
theorem cx_geti {ci j p : Nat} {o : Option Nat} (F : Nat) (hF : 16 * ci + j = F) (hg : bm_gf M pc ci j) (hk : (cx_ks ci)[j]? = some true) (hc : ci < 400) (eo : o = some p) (hs : cH s p = some (ci, 0)) (kk : cx G M (pc + 3) L (.int (cI s F p 0) :: st) s Q) : cx G M pc L (va_rf o :: st) s Q := fun h0 hr => by
  subst eo hF
  exact bm_get hg (cx_obj hr hc hs) (cx_fs_get hk) (kk h0 hr)
theorem cx_getr {ci j p : Nat} {o : Option Nat} (F : Nat) (hF : 16 * ci + j = F) (hg : bm_gf M pc ci j) (hk : (cx_ks ci)[j]? = some false) (hc : ci < 400) (eo : o = some p) (hs : cH s p = some (ci, 0)) (kk : cx G M (pc + 3) L (va_rf (cR s F p 0) :: st) s Q) : cx G M pc L (va_rf o :: st) s Q := fun h0 hr => by
  subst eo hF
  exact bm_get hg (cx_obj hr hc hs) (cx_fs_get hk) (kk h0 hr)
theorem cx_s_obj {p ci : Nat} {fs : List Value} (hc : ci < 400) : bm_s (.inr (ci, fs)) = bm_s (cx_cell s p (ci, 0)) := by
  unfold cx_cell; rw [if_pos hc]; rfl
theorem cx_puti {ci j p : Nat} {o : Option Nat} {ty : FieldType} {x : Int32} (F : Nat) (hF : 16 * ci + j = F) (hg : bm_pf M pc ci j ty) (hk : (cx_ks ci)[j]? = some true) (hc : ci < 400) (hn : narrow ty (.int x) = .int x) (hf : fits ty (.int x) = true) (eo : o = some p) (hs : cH s p = some (ci, 0)) (kk : cx G M (pc + 3) L st (cx_ui s F p 0 x) Q) : cx G M pc L (.int x :: va_rf o :: st) s Q := fun h0 hr => by
  subst eo hF
  have hj := (List.getElem?_eq_some_iff.mp hk).1
  have e : cx_cell (cx_ui s (16 * ci + j) p 0 x) p (ci, 0) = .inr (ci, (cx_fs s p ci).set j (.int x)) := by
    unfold cx_cell
    rw [if_pos hc]
    show Sum.inr (ci, _) = _
    rw [cx_fs_set (c := s) hk (v := .int x) (by unfold cx_fv cx_ui; show Value.int (if _ then _ else _) = _; rw [if_pos ⟨rfl, rfl, rfl⟩]) (fun i b hi _ => cx_fv_ui (Or.inr (by omega)))]
  have w := cx_set (c2 := cx_ui s (16 * ci + j) p 0 x) hr hs rfl (fun p2 k2 h2 => cx_cell_ui h2) e (cx_s_obj hc)
  exact bm_put hg (cx_obj hr hc hs) (by rw [cx_fs_len]; exact hj) hn hf (cx_then w.2 (kk _ w.1))
theorem cx_putr {ci j p : Nat} {o : Option Nat} {ty : FieldType} {x : Option Nat} (F : Nat) (hF : 16 * ci + j = F) (hg : bm_pf M pc ci j ty) (hk : (cx_ks ci)[j]? = some false) (hc : ci < 400) (hn : narrow ty (va_rf x) = va_rf x) (hf : fits ty (va_rf x) = true) (eo : o = some p) (hs : cH s p = some (ci, 0)) (kk : cx G M (pc + 3) L st (cx_ur s F p 0 x) Q) : cx G M pc L (va_rf x :: va_rf o :: st) s Q := fun h0 hr => by
  subst eo hF
  have hj := (List.getElem?_eq_some_iff.mp hk).1
  have e : cx_cell (cx_ur s (16 * ci + j) p 0 x) p (ci, 0) = .inr (ci, (cx_fs s p ci).set j (va_rf x)) := by
    unfold cx_cell
    rw [if_pos hc]
    show Sum.inr (ci, _) = _
    rw [cx_fs_set (c := s) hk (v := va_rf x) (by unfold cx_fv cx_ur; show va_rf (if _ then _ else _) = _; rw [if_pos ⟨rfl, rfl, rfl⟩]) (fun i b hi _ => cx_fv_ur (Or.inr (by omega)))]
  have w := cx_set (c2 := cx_ur s (16 * ci + j) p 0 x) hr hs rfl (fun p2 k2 h2 => cx_cell_ur h2) e (cx_s_obj hc)
  exact bm_put hg (cx_obj hr hc hs) (by rw [cx_fs_len]; exact hj) hn hf (cx_then w.2 (kk _ w.1))
theorem cx_fitsO {C : String} {x : Option Nat} : fits (.object C) (va_rf x) = true := by cases x <;> rfl
theorem cx_fitsA {t : FieldType} {x : Option Nat} : fits (.array t) (va_rf x) = true := by cases x <;> rfl
theorem cx_narO {C : String} {x : Option Nat} : narrow (.object C) (va_rf x) = va_rf x := by cases x <;> rfl
theorem cx_narA {t : FieldType} {x : Option Nat} : narrow (.array t) (va_rf x) = va_rf x := by cases x <;> rfl
theorem cx_cellI {c : cx_S} {a n : Nat} : cx_cell c a (400, n) = .inl (0, n, .inl (cI c 400 a)) := by
  unfold cx_cell
  rw [if_neg (by show ¬ 400 < 400; omega), if_pos (by show 400 < 402; omega)]
  show (Sum.inl (400 - 400, n, Sum.inl (cI c 400 a)) : bm_C) = _
  rw [Nat.sub_self]
theorem cx_cellQ {c : cx_S} {a n t : Nat} (ht : 2 ≤ t) : cx_cell c a (400 + t, n) = bm_q t n (cR c (400 + t) a) := by
  unfold cx_cell
  rw [if_neg (by show ¬ 400 + t < 400; omega), if_neg (by show ¬ 400 + t < 402; omega)]
  show bm_q (400 + t - 400) _ _ = _
  rw [show 400 + t - 400 = t from by omega]
theorem cx_arI {h : bm_H} {a n : Nat} (hr : cx_rep h s) (hs : cH s a = some (400, n)) : h[a]? = some (.inl (0, n, .inl (cI s 400 a))) := by
  rw [hr.2.2.1 a _ hs, cx_cellI]
theorem cx_arQ {h : bm_H} {a n t : Nat} (hr : cx_rep h s) (ht : 2 ≤ t) (hs : cH s a = some (400 + t, n)) : h[a]? = some (bm_q t n (cR s (400 + t) a)) := by
  rw [hr.2.2.1 a _ hs, cx_cellQ ht]
theorem cx_vin {j n : Nat} (hj : j < n) (h31 : j < 2 ^ 31) : vp_in (nI j) n := by
  unfold vp_in
  rw [nI_clamp h31]
  intro q
  rcases q with q | q
  · exact nI_pos h31 q
  · omega
theorem cx_iald {a n j : Nat} {o : Option Nat} {i : Int32} (hd : decode M.2.1 pc = .ok (.iaload, 1)) (eo : o = some a) (hs : cH s a = some (400, n)) (hj : j < n) (h31 : j < 2 ^ 31) (ei : i = nI j) (kk : cx G M (pc + 1) L (.int (cI s 400 a j) :: st) s Q) : cx G M pc L (.int i :: va_rf o :: st) s Q := fun h0 hr => by
  subst eo ei
  refine bm_iald hd (cx_arI hr hs) (cx_vin hj h31) ?_
  rw [nI_clamp h31]
  exact kk h0 hr
theorem cx_aald {a n j t : Nat} {C : String} {o : Option Nat} {i : Int32} (T : Nat) (hT : 400 + t = T) (hd : decode M.2.1 pc = .ok (.aaload, 1)) (ht : 2 ≤ t) (hft : bm_ft[t]? = some (.object C)) (eo : o = some a) (hs : cH s a = some (T, n)) (hj : j < n) (h31 : j < 2 ^ 31) (ei : i = nI j) (kk : cx G M (pc + 1) L (va_rf (cR s T a j) :: st) s Q) : cx G M pc L (.int i :: va_rf o :: st) s Q := fun h0 hr => by
  subst eo ei hT
  refine bm_aald hd (cx_arQ hr ht hs) hft (cx_vin hj h31) ?_
  rw [nI_clamp h31]
  exact kk h0 hr
theorem cx_alen {a n : Nat} {o : Option Nat} (hd : decode M.2.1 pc = .ok (.arraylength, 1)) (eo : o = some a) (hs : cH s a = some (400, n)) (kk : cx G M (pc + 1) L (.int (nI n) :: st) s Q) : cx G M pc L (va_rf o :: st) s Q := fun h0 hr => by
  subst eo
  exact bm_alen hd (cx_arI hr hs) (by decide) (kk h0 hr)
theorem cx_iast {a n j : Nat} {o : Option Nat} {i x : Int32} (hd : decode M.2.1 pc = .ok (.iastore, 1)) (eo : o = some a) (hs : cH s a = some (400, n)) (hj : j < n) (h31 : j < 2 ^ 31) (ei : i = nI j) (kk : cx G M (pc + 1) L st (cx_ui s 400 a j x) Q) : cx G M pc L (.int x :: .int i :: va_rf o :: st) s Q := fun h0 hr => by
  subst eo ei
  have ha : 2 ≤ a := by
    rcases a with _ | _ | a
    · have := hr.2.2.2.2.1 _ hs
      cases this; omega
    · rw [hr.2.2.2.1] at hs; cases hs
    · omega
  have e : cx_cell (cx_ui s 400 a j x) a (400, n) = .inl (0, n, .inl (upd (cI s 400 a) j x)) := by
    rw [cx_cellI]
    have : cI (cx_ui s 400 a j x) 400 a = upd (cI s 400 a) j x := by
      funext i
      show (if 400 = 400 ∧ a = a ∧ i = j then x else cI s 400 a i) = if i = j then x else cI s 400 a i
      by_cases e : i = j
      · rw [if_pos ⟨rfl, rfl, e⟩, if_pos e]
      · rw [if_neg (fun q => e q.2.2), if_neg e]
    rw [this]
  have w := cx_set (c2 := cx_ui s 400 a j x) hr hs rfl (fun p2 k2 h2 => cx_cell_ui h2) e (by rw [cx_cellI]; rfl)
  refine bm_iast hd ha (cx_arI hr hs) (cx_vin hj h31) ?_
  rw [nI_clamp h31]
  exact cx_then w.2 (kk _ w.1)
theorem cx_aast {a n j t v ci : Nat} {r : vw_C} {o x : Option Nat} {i : Int32} (T : Nat) (hT : 400 + t = T) (hd : decode M.2.1 pc = .ok (.aastore, 1)) (ht : 2 ≤ t) (hcl : bm_cl[ci]? = some r) (hft : bm_ft[t]? = some (.object r.1)) (hc : ci < 400) (ev : x = some v) (hv : cH s v = some (ci, 0)) (eo : o = some a) (hs : cH s a = some (T, n)) (hj : j < n) (h31 : j < 2 ^ 31) (ei : i = nI j) (kk : cx G M (pc + 1) L st (cx_ur s T a j (some v)) Q) : cx G M pc L (va_rf x :: .int i :: va_rf o :: st) s Q := fun h0 hr => by
  subst eo ei hT ev
  have e : cx_cell (cx_ur s (400 + t) a j (some v)) a (400 + t, n) = bm_q t n (va_up (cR s (400 + t) a) j (some v)) := by
    rw [cx_cellQ ht]
    have : cR (cx_ur s (400 + t) a j (some v)) (400 + t) a = va_up (cR s (400 + t) a) j (some v) := by
      funext i
      show (if 400 + t = 400 + t ∧ a = a ∧ i = j then some v else cR s (400 + t) a i) = if i = j then some v else cR s (400 + t) a i
      by_cases e : i = j
      · rw [if_pos ⟨rfl, rfl, e⟩, if_pos e]
      · rw [if_neg (fun q => e q.2.2), if_neg e]
    rw [this]
  have e2 : bm_s (bm_q t n (va_up (cR s (400 + t) a) j (some v))) = bm_s (cx_cell s a (400 + t, n)) := by
    rw [cx_cellQ ht]; rfl
  have w := cx_set (c2 := cx_ur s (400 + t) a j (some v)) hr hs rfl (fun p2 k2 h2 => cx_cell_ur h2) e e2
  refine bm_aast hd (cx_arQ hr ht hs) hcl hft (cx_obj hr hc hv) (cx_vin hj h31) ?_
  rw [nI_clamp h31]
  exact cx_then w.2 (kk _ w.1)
theorem cx_new {ci z : Nat} {fs : List Value} (hg : bm_nw M pc ci fs) (hc : ci < 400) (hn : cN s < 52 ∨ 96 ≤ cN s) (h2 : 2 ≤ cN s) (hfs : fs = (cx_ks ci).map (fun b => if b then .int 0 else .null)) (hz : bm_ns ci = z) (kk : cx G M (pc + 3) L (va_rf (some (cN s)) :: st) (cx_mk s (ci, 0) z) Q) : cx G M pc L st s Q := fun h0 hr => by
  have e : cx_cell (cx_mk s (ci, 0) z) (cN s) (ci, 0) = .inr (ci, fs) := by
    unfold cx_cell
    rw [if_pos hc]
    show Sum.inr (ci, cx_fs _ _ ci) = _
    have : cx_fs (cx_mk s (ci, 0) z) (cN s) ci = fs := by
      rw [hfs]
      unfold cx_fs
      apply List.ext_getElem?
      intro i
      rw [List.getElem?_mapIdx, List.getElem?_map]
      cases (cx_ks ci)[i]? with
      | none => rfl
      | some b =>
        refine congrArg some ?_
        unfold cx_fv cx_mk
        cases b
        · show va_rf (if cN s = cN s then none else _) = _
          rw [if_pos rfl]; rfl
        · show Value.int (if cN s = cN s then 0 else _) = _
          rw [if_pos rfl]; rfl
    rw [this]
  have w := cx_push (k := (ci, 0)) (z := z) hr hn h2 e hz
  have kk2 := cx_then w.2 (kk _ w.1)
  rw [← hr.1] at kk2
  exact bm_new hg kk2
theorem cx_newI {N : Nat} {n : Int32} (hg : bm_na M pc 0 .int) (hc : cN s < 52 ∨ 96 ≤ cN s) (h2 : 2 ≤ cN s) (en : n = nI N) (hN : N ≤ 1000000) (kk : cx G M (pc + 2) L (va_rf (some (cN s)) :: st) (cx_mk s (400, N) N) Q) : cx G M pc L (.int n :: st) s Q := fun h0 hr => by
  subst en
  have h31 : N < 2 ^ 31 := by omega
  have e : cx_cell (cx_mk s (400, N) N) (cN s) (400, N) = .inl (0, N, .inl (fun _ => 0)) := by
    rw [cx_cellI]
    have : cI (cx_mk s (400, N) N) 400 (cN s) = fun _ => 0 := by
      funext i
      show (if cN s = cN s then 0 else _) = _
      rw [if_pos rfl]
    rw [this]
  have w := cx_push (k := (400, N)) (z := N) hr hc h2 e rfl
  have kk2 := cx_then w.2 (kk _ w.1)
  rw [← hr.1] at kk2
  exact bm_newa (a0 := (N, .inl (fun _ => 0))) hg (fun _ => rfl) rfl (fun _ => rfl) (nI_pos h31) (nI_clamp h31) hN kk2
theorem cx_newQ {t N : Nat} {n : Int32} (T : Nat) (hT : 400 + t = T) (ht : 2 ≤ t) (hg : bm_nq M pc t) (hc : cN s < 52 ∨ 96 ≤ cN s) (h2 : 2 ≤ cN s) (en : n = nI N) (hN : N ≤ 1000000) (kk : cx G M (pc + 3) L (va_rf (some (cN s)) :: st) (cx_mk s (T, N) N) Q) : cx G M pc L (.int n :: st) s Q := fun h0 hr => by
  subst en hT
  have h31 : N < 2 ^ 31 := by omega
  have e : cx_cell (cx_mk s (400 + t, N) N) (cN s) (400 + t, N) = bm_q t N (fun _ => none) := by
    rw [cx_cellQ ht]
    have : cR (cx_mk s (400 + t, N) N) (400 + t) (cN s) = fun _ => none := by
      funext i
      show (if cN s = cN s then none else _) = _
      rw [if_pos rfl]
    rw [this]
  have w := cx_push (k := (400 + t, N)) (z := N) hr hc h2 e rfl
  have kk2 := cx_then w.2 (kk _ w.1)
  rw [← hr.1] at kk2
  exact bm_newq hg (nI_pos h31) (nI_clamp h31) hN kk2
theorem cx_iret {x : Int32} (hd : decode M.2.1 pc = .ok (.ireturn, 1)) (hr : M.2.2.2.1 = some .int) (hp : Q (.inl (some (.int x))) s) : cx G M pc L [.int x] s Q := fun h0 h => bm_iret hd hr ⟨cx_same.rf h0, s, h, hp⟩
theorem cx_zret {x : Int32} (hd : decode M.2.1 pc = .ok (.ireturn, 1)) (hr : M.2.2.2.1 = some .boolean) (hn : narrow .boolean (.int x) = .int x) (hp : Q (.inl (some (.int x))) s) : cx G M pc L [.int x] s Q := fun h0 h => bm_zret hd hr hn ⟨cx_same.rf h0, s, h, hp⟩
theorem cx_vret (hd : decode M.2.1 pc = .ok (.return_, 1)) (hr : M.2.2.2.1 = none) (hp : Q (.inl none) s) : cx G M pc L [] s Q := fun h0 h => bm_vret hd hr ⟨cx_same.rf h0, s, h, hp⟩
theorem cx_aret {o : Option Nat} {rt : FieldType} (hd : decode M.2.1 pc = .ok (.areturn, 1)) (hr : M.2.2.2.1 = some rt) (hrt : (∃ n, rt = .object n) ∨ ∃ t, rt = .array t) (hp : Q (.inl (some (va_rf o))) s) : cx G M pc L [va_rf o] s Q := fun h0 h => bm_aret hd hr hrt (by cases o with
  | none => exact Or.inl rfl
  | some p => exact Or.inr ⟨p, rfl⟩) ⟨cx_same.rf h0, s, h, hp⟩
theorem cx_met {av : List Value} {Q : Option Value → cx_S → Prop} (hy : plainName M.1.cls = true) (hc : ∀ v ∈ av, v.category = 1) (hn : av.length ≤ M.2.2.1)
    (k : cx G M 0 (av.map some ++ List.replicate (M.2.2.1 - av.length) none) [] s (fun r s2 => ∃ v, r = .inl v ∧ Q v s2)) : cx_T G M av s Q := fun h hr => by
  refine bm_met hy hc hn ((k h hr).mono fun r hf w => ?_)
  obtain ⟨w1, s2, w2, v, e, w3⟩ := w
  exact ⟨v, e, w1, s2, w2, w3⟩
theorem cx_T.mono {av : List Value} {P Q : Option Value → cx_S → Prop} (k : cx_T G M av s P) (w : ∀ v s2, P v s2 → Q v s2) : cx_T G M av s Q := fun h hr => (k h hr).mono (fun v hf q => ⟨q.1, q.2.choose, q.2.choose_spec.1, w _ _ q.2.choose_spec.2⟩)
theorem cx.mono {P Q : bm_R → cx_S → Prop} (k : cx G M pc L st s P) (w : ∀ v s2, P v s2 → Q v s2) : cx G M pc L st s Q := fun h hr => (k h hr).mono (fun v hf q => ⟨q.1, q.2.choose, q.2.choose_spec.1, w _ _ q.2.choose_spec.2⟩)
theorem cx_callV {n ci p : Nat} {o : Option Nat} {av : List Value} (hg : bm_iv M K pc ci n) (hn : av.length = n) (hst : (st.map fun v => v.category).sum ≤ 8) (hci : ci < 400) (eo : o = some p) (hs : cH s p = some (ci, 0))
    (hc : cx_T G K (va_rf (some p) :: av) s (fun v s2 => cx G M (pc + 3) L (v.toList ++ st) s2 Q)) : cx G M pc L (av.reverse ++ va_rf o :: st) s Q := fun h hr => by
  subst eo
  exact bm_callV hg hn (cx_obj hr hci hs) hst ((hc h hr).mono fun v hf w => by
    obtain ⟨w1, s2, w2, w3⟩ := w
    exact cx_then w1 (w3 hf w2))
theorem cx_callS {n : Nat} {av : List Value} (hg : bm_is M K pc n) (hn : av.length = n) (hst : (st.map fun v => v.category).sum ≤ 8)
    (hc : cx_T G K av s (fun v s2 => cx G M (pc + 3) L (v.toList ++ st) s2 Q)) : cx G M pc L (av.reverse ++ st) s Q := fun h hr =>
  bm_callS hg hn hst ((hc h hr).mono fun v hf w => by
    obtain ⟨w1, s2, w2, w3⟩ := w
    exact cx_then w1 (w3 hf w2))
theorem cx_callI {n p : Nat} {o : Option Nat} {av : List Value} (hg : bm_ii M K pc n) (hn : av.length = n) (hst : (st.map fun v => v.category).sum ≤ 8) (eo : o = some p)
    (hc : cx_T G K (va_rf (some p) :: av) s (fun v s2 => cx G M (pc + 3) L (v.toList ++ st) s2 Q)) : cx G M pc L (av.reverse ++ va_rf o :: st) s Q := fun h hr => by
  subst eo
  exact bm_callI hg hn hst ((hc h hr).mono fun v hf w => by
    obtain ⟨w1, s2, w2, w3⟩ := w
    exact cx_then w1 (w3 hf w2))
theorem cx_objInit {p : Nat} {o : Option Nat} (hg : bm_io M pc) (hst : (st.map fun v => v.category).sum ≤ 8) (eo : o = some p) (k : cx G M (pc + 3) L st s Q) : cx G M pc L (va_rf o :: st) s Q := fun h hr => by
  subst eo
  exact bm_objInit hg hst (k h hr)
end CX
