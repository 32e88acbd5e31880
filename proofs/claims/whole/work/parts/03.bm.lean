/-! bm: the heap by places. A place i >= 2 is the cell i - 2 of those that the law's run has made, in the order of their making; 0 is the empty constant array of the system, 1 the script. Values and cells speak of places; bm_v, bm_c turn them into the machine's. bm_X: from here the method ends with r, and the heap is hf then. -/
abbrev bm_C : Type := (Nat × vp_A) ⊕ (Nat × List Value)
abbrev bm_H : Type := List bm_C
abbrev bm_R : Type := Option Value ⊕ Nat
abbrev bm_L : Type := List (Option Value)
abbrev bm_G : Type := Launch × va_G × (Nat → ClassId) × Nat × Nat × Nat × Nat × (Nat → Int32)
abbrev bm_M : Type := MethodName × ByteArray × Nat × Option FieldType × Nat × Nat
abbrev bm_D (G : bm_G) : va_G := G.2.1
abbrev bm_cA (G : bm_G) : Nat → ClassId := G.2.2.1
abbrev bm_B (G : bm_G) : Nat := G.2.2.2.1
abbrev bm_a0 (G : bm_G) : Nat := G.2.2.2.2.1
abbrev bm_a1 (G : bm_G) : Nat := G.2.2.2.2.2.1
abbrev bm_xl (G : bm_G) : Nat := G.2.2.2.2.2.2.1
abbrev bm_xs (G : bm_G) : Nat → Int32 := G.2.2.2.2.2.2.2
abbrev bm_A (G : bm_G) : Nat → Prop := fun q => bm_B G ≤ q
def bm_ad (G : bm_G) : Nat → Nat
  | 0 => bm_a0 G
  | 1 => bm_a1 G
  | k + 2 => bm_B G + k
def bm_v (G : bm_G) : Value → Value
  | .ref i => .ref (bm_ad G i)
  | v => v
def bm_arr (G : bm_G) : vp_A → vp_A
  | (n, .inr (.inr (.inr (.inr f)))) => (n, .inr (.inr (.inr (.inr (fun j => (f j).map (bm_ad G))))))
  | a => a
def bm_c (G : bm_G) : bm_C → va_E
  | .inl (t, a) => .inl (bm_cA G t, bm_arr G a)
  | .inr (c, fs) => .inr (c, fs.map (bm_v G))
def bm_w (G : bm_G) (h : bm_H) : va_W := (h.drop 2).mapIdx (fun k c => (bm_B G + k, bm_c G c))
def bm_s : bm_C → Nat
  | .inl (_, a) => a.1
  | .inr (c, _) => bm_ns c
def bm_sz (h : bm_H) : Nat := (h.map bm_s).sum
def bm_tys (G : bm_G) : List (ClassId × FieldType) := bm_ft.mapIdx (fun t ty => (bm_cA G t, ty))
/-- the old things: the constant array, the script -/
def bm_old (G : bm_G) (U : State) (H : Heap) : Prop :=
  va_Z "BatchHall" "NO_PARTS" "[I" (.ref (bm_a0 G)) (bm_A G) U H ∧ va_T .int (bm_a0 G) 0 (fun _ => .int 0) (bm_A G) U H ∧ va_T .int (bm_a1 G) (bm_xl G) (fun j => .int (bm_xs G j)) (bm_A G) U H ∧ (∀ w ∈ bm_Nx, va_Nw w U) ∧ bm_xt (bm_A G) U H
/-- the heap H holds h -/
def bm_rep (G : bm_G) (H : Heap) (h : bm_H) : Prop :=
  va_P (bm_D G) bm_cl (bm_w G h) H ∧ h[0]? = some (.inl (0, 0, .inl (fun _ => 0))) ∧ h[1]? = some (.inl (0, bm_xl G, .inl (bm_xs G)))
/-- what a method's frame knows, all along -/
def bm_S (G : bm_G) (M : bm_M) (p : Program) (R : Room) (s : State) (m : MethodId) (args : Array Value) (meth : Method) (c : Code) : Prop :=
  p.tables.exec = Jvm.exec ∧ c.code = M.2.1 ∧ c.maxLocals = M.2.2.1 ∧ s.vm.findClass M.1.cls = some m.cls ∧ (∀ w ∈ bm_Ts, w.before args s = true) ∧ meth.sig.returnType = M.2.2.2.1 ∧ meth.locks = false ∧ meth.name = M.1.name ∧
  M.2.2.2.2.1 ≤ R.frames ∧ M.2.2.2.2.2 ≤ R.locals ∧ va_K (bm_D G) bm_cl (bm_tys G) s ∧ bm_old G s s.heap ∧ s.methodNamed? M.1 = some m
/-- where it stands: the heap, what was written, how much was made since (c0, s0) -/
def bm_P (G : bm_G) (R : Room) (s : State) (H : Heap) (locs : List Loc) (c0 s0 : Nat) (h hf : bm_H) : Prop :=
  bm_rep G H h ∧ va_S (bm_A G) s.heap H locs ∧ c0 ≤ h.length ∧ s0 ≤ bm_sz h ∧ hf.length ≤ c0 + R.cells ∧ bm_sz hf ≤ s0 + R.slots ∧ 2 ≤ c0 ∧ s.heap.size + 2 = bm_B G + c0
def bm_Lc (G : bm_G) (n : Nat) (ls : Array Slot) (L : bm_L) : Prop :=
  L.length = n ∧ ls.size = n ∧ lv_wf ls ∧ ∀ (i : Nat) (v : Value), L[i]? = some (some v) → v.category = 1 ∧ ls[i]? = some (.val (bm_v G v))
/-- the method's end -/
def bm_Qc (G : bm_G) (v : Option Value) (hf : bm_H) : Array Value → State → Outcome → State → Prop := fun _ st o t =>
  o = .returned (v.map (bm_v G)) ∧ bm_rep G t.heap hf ∧ va_F (bm_A G) st t
/-- an end by a throw -/
def bm_Qx (G : bm_G) (x : Nat) (hf : bm_H) (below : List Frame) (s : State) (k n : Nat) : State → Prop := fun t =>
  t.status = .running ∧ Ended t below (.threw (bm_ad G x)) ∧ bm_rep G t.heap hf ∧ va_F (bm_A G) s t ∧ s.WarmedH t.vm ∧ ∃ L, s.sameButNew ({ t with vm := s.vm } : State) L k n ∧ ∀ q ∈ L, bm_A G q.base
def bm_E (G : bm_G) (below : List Frame) (args : Array Value) (s : State) (c0 s0 : Nat) (r : bm_R) (hf : bm_H) : State → Prop := match r with
  | .inl v => MQ below (bm_Qc G v hf) args s (hf.length - c0) (bm_sz hf - s0) (bm_A G)
  | .inr x => bm_Qx G x hf below s (hf.length - c0) (bm_sz hf - s0)
def bm_X (G : bm_G) (M : bm_M) (pc : Nat) (L : bm_L) (st : List Value) (h : bm_H) (r : bm_R) (hf : bm_H) : Prop :=
  h.length ≤ hf.length ∧ bm_sz h ≤ bm_sz hf ∧ ∀ (p : Program) (e : Env) (R : Room) (s : State) (m : MethodId) (args : Array Value) (below : List Frame) (meth : Method) (c : Code) (H : Heap) (locs : List Loc) (ls : Array Slot) (c0 s0 : Nat),
    bm_S G M p R s m args meth c → bm_P G R s H locs c0 s0 h hf → bm_Lc G M.2.2.1 ls L →
    W p G.1 e R s m args below meth c H locs (h.length - c0) (bm_sz h - s0) (bm_E G below args s c0 s0 r hf) (F0 m pc ls (st.map (bm_v G)))
/-- the judgement of the walks: from here the method ends so that P -/
def bm_W (G : bm_G) (M : bm_M) (pc : Nat) (L : bm_L) (st : List Value) (h : bm_H) (P : bm_R → bm_H → Prop) : Prop := ∃ r hf, bm_X G M pc L st h r hf ∧ P r hf

section BM0
variable {G : bm_G} {M : bm_M} {pc : Nat} {L L' : bm_L} {st : List Value} {h h1 : bm_H} {P : bm_R → bm_H → Prop}
/-- a step that leaves heap and locals -/
theorem bm_go {pc' : Nat} {st' : List Value}
    (step : ∀ (p : Program) (e : Env) (R : Room) (s : State) (m : MethodId) (args : Array Value) (below : List Frame) (meth : Method) (c : Code) (H : Heap) (locs : List Loc) (ls : Array Slot) (k n : Nat) (Q : State → Prop), bm_S G M p R s m args meth c → bm_rep G H h → va_S (bm_A G) s.heap H locs → bm_Lc G M.2.2.1 ls L →
      W p G.1 e R s m args below meth c H locs k n Q (F0 m pc' ls (st'.map (bm_v G))) → W p G.1 e R s m args below meth c H locs k n Q (F0 m pc ls (st.map (bm_v G))))
    (k : bm_W G M pc' L st' h P) : bm_W G M pc L st h P := by
  obtain ⟨r, hf, ⟨h1, h2, h3⟩, hP⟩ := k
  exact ⟨r, hf, ⟨h1, h2, fun p e R s m args below meth c H locs ls c0 s0 hS hp hl => step p e R s m args below meth c H locs ls _ _ _ hS hp.1 hp.2.1 hl (h3 p e R s m args below meth c H locs ls c0 s0 hS hp hl)⟩, hP⟩
theorem bm_int (x : Int32) : bm_v G (.int x) = .int x := rfl
theorem bm_iconst {n : Int} {v : Int32} (hd : decode M.2.1 pc = .ok (.iconst n, 1)) (hv : Int32.ofInt n = v) (k : bm_W G M (pc + 1) L (.int v :: st) h P) : bm_W G M pc L st h P :=
  bm_go (fun _ _ _ _ _ _ _ _ _ _ _ _ _ _ _ hS _ _ _ w => lv_iconst hS.1 hS.2.1 hd hv w) k
theorem bm_bipush {n : Int} {v : Int32} (hd : decode M.2.1 pc = .ok (.bipush n, 2)) (hv : (Int8.ofInt n).toInt32 = v) (k : bm_W G M (pc + 2) L (.int v :: st) h P) : bm_W G M pc L st h P :=
  bm_go (fun _ _ _ _ _ _ _ _ _ _ _ _ _ _ _ hS _ _ _ w => lv_bipush hS.1 hS.2.1 hd hv w) k
theorem bm_sipush {n : Int} {v : Int32} (hd : decode M.2.1 pc = .ok (.sipush n, 3)) (hv : (Int16.ofInt n).toInt32 = v) (k : bm_W G M (pc + 3) L (.int v :: st) h P) : bm_W G M pc L st h P :=
  bm_go (fun _ _ _ _ _ _ _ _ _ _ _ _ _ _ _ hS _ _ _ w => lv_sipush hS.1 hS.2.1 hd hv w) k
theorem bm_iadd {x y : Int32} (hd : decode M.2.1 pc = .ok (.iadd, 1)) (k : bm_W G M (pc + 1) L (.int (x + y) :: st) h P) : bm_W G M pc L (.int y :: .int x :: st) h P :=
  bm_go (fun _ _ _ _ _ _ _ _ _ _ _ _ _ _ _ hS _ _ _ w => lv_iadd hS.1 hS.2.1 hd w) k
end BM0
