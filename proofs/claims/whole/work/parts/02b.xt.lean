/-! what a throw needs of the old things: Throwable's statics, the String constants, who is no whom -/
def xt_Z (C n d : String) (A : Nat → Prop) (U : State) (H : Heap) : Prop := ∃ (c : ClassId) (k : Class) (i : Nat) (f : Field) (a : Nat) (cell : Cell) (v : Value), U.vm.findClass C = some c ∧ U.fieldFound? C n d = some (c, k, i, f) ∧ f.isStatic = true ∧ k.statics = some a ∧ H[a]? = some cell ∧ cell.vm.isStatics = true ∧ cell.cls = c ∧
  f.slot < cell.slots.size ∧ k.staticTypes[f.slot]? = some f.type ∧ cell.slots[f.slot]? = some v ∧ v.isRef = true ∧ ¬ A a
theorem xt_Z.moved {C n d : String} {A : Nat → Prop} {u U : State} {H : Heap} (hvm : u.vm.Alike U.vm) (h : xt_Z C n d A u H) : xt_Z C n d A U H := by
  obtain ⟨c, k, i, f, a, cell, v, h0, h1, h2, h3, h4, h5, h6, h7, h8, h9⟩ := h
  obtain ⟨k', hi', he⟩ := State.fieldFound?_setVm hvm h1
  exact ⟨c, k', i, f, a, cell, v, by rw [hvm.findClass]; exact h0, hi', h2, by rw [he]; exact h3, h4, h5, h6, h7, by rw [he]; exact h8, h9⟩
theorem xt_Z.kept {C n d : String} {A : Nat → Prop} {U : State} {H H1 : Heap} (h : xt_Z C n d A U H) (hq : ∀ a : Nat, a < H.size → ¬ A a → H1[a]? = H[a]?) : xt_Z C n d A U H1 := by
  obtain ⟨c, k, i, f, a, cell, v, h0, h1, h2, h3, h4, h5, h6, h7, h8, h9, h10, h11⟩ := h
  exact ⟨c, k, i, f, a, cell, v, h0, h1, h2, h3, by rw [hq a (Array.getElem?_eq_some_iff.mp h4).1 h11]; exact h4, h5, h6, h7, h8, h9, h10, h11⟩
theorem xt_Z.use {C n d : String} {A : Nat → Prop} {args : Array Value} {U : State} (h : xt_Z C n d A U U.heap) : (Cond.laysStatic C n d).before args U = true ∧ (Cond.isRef (.static C n d)).before args U = true := by
  obtain ⟨c, k, i, f, a, cell, v, h0, h1, h2, h3, h4, h5, h6, h7, h8, h9, h10, h11⟩ := h
  refine ⟨Cond.laysStatic_of h0 h1 h2 h3 h4 h5 h6 h7 h8, ?_⟩
  have hev : (Term.static C n d).eval args U none [] U = some v := by
    simp [Term.eval, State.fieldNamed?, h1, h2, h3, h4, h5, h9]
  cases v <;> simp_all [Cond.before, Cond.holds, Cond.value, Value.isRef]
theorem xt_Z.of {C n d : String} {A : Nat → Prop} {args : Array Value} {U : State} (hl : (Cond.laysStatic C n d).before args U = true) (hr : (Cond.isRef (.static C n d)).before args U = true) (hA : ∀ a : Nat, a < U.heap.size → ¬ A a) : xt_Z C n d A U U.heap := by
  obtain ⟨c, k, i, f, a, cell, hc, hi, hst, ha, hcell, hs, hcls, hlt, hty⟩ := Cond.laysStatic_spec hl
  refine ⟨c, k, i, f, a, cell, cell.slots[f.slot], hc, hi, hst, ha, hcell, hs, hcls, hlt, hty, Array.getElem?_eq_getElem hlt, ?_, hA a (Array.getElem?_eq_some_iff.mp hcell).1⟩
  have hev : (Term.static C n d).eval args U none [] U = some cell.slots[f.slot] := by
    simp [Term.eval, State.fieldNamed?, hi, hst, ha, hcell, hs, Array.getElem?_eq_getElem hlt]
  simp only [Cond.before, Cond.holds, Cond.value, hev] at hr
  cases hx : cell.slots[f.slot] <;> simp_all [Value.isRef]
def bm_sx : List (Nat × String) := [(91, "no such recipe"), (102, "the recipe is released"), (109, "no such recipe or size"), (114, "not released, or no batch left"), (241, "no such batch"), (126, "the batch is not MADE"), (146, "the batch is not RUNNING"), (148, "the batch is not HELD"), (150, "the batch is neither RUNNING nor HELD"), (159, "the batch is MADE, or over")]
def bm_xt (A : Nat → Prop) (U : State) (H : Heap) : Prop := xt_Z "java/lang/Throwable" "UNASSIGNED_STACK" "[Ljava/lang/StackTraceElement;" A U H ∧ xt_Z "java/lang/Throwable" "SUPPRESSED_SENTINEL" "Ljava/util/List;" A U H ∧
  (∀ q ∈ bm_sx, ∃ a, vk_R "BatchHall" q.1 q.2 a U) ∧ va_Nc "java/lang/IllegalStateException" "java/lang/IllegalArgumentException" U
theorem bm_xt.to {A : Nat → Prop} {s U : State} {H H1 : Heap} (hW : s.WarmedH U.vm) (hq : ∀ a : Nat, a < H.size → ¬ A a → H1[a]? = H[a]?) (h : bm_xt A s H) : bm_xt A U H1 :=
  ⟨(h.1.moved hW.alike).kept hq, (h.2.1.moved hW.alike).kept hq, fun q hq2 => (h.2.2.1 q hq2).imp fun a ha => vk_R.warm hW ha, h.2.2.2.moved hW.alike⟩
