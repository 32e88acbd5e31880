section XT4
variable {p : Program} {l : Launch} {e : Env} {R : Room} {s : State} {m : MethodId} {args : Array Value} {below : List Frame} {meth : Method} {c : Code} {T : State} {locs : List Loc} {cells slots : Nat}
/-- a call of an instance method, up to the callee's entry -/
theorem xt_invV (X : Stand p l e R s m args below meth c T locs cells slots) (hexec : p.tables.exec = Jvm.exec) {own C : String} {index : Nat} {y : MethodName} {bytes : ByteArray} {maxL : Nat} {ret : Option FieldType}
    (hown : s.vm.findClass own = some m.cls) (hlink : (Cond.methodLink own index y).before args s = true) (hinst : (Cond.instanceMethod y).before args s = true) (hsel : (Cond.selects C y y).before args s = true)
    (hcode : (Cond.code y bytes maxL ret).before args s = true) (hy : y.cls ≠ "java/lang/invoke/MethodHandle" ∧ y.cls ≠ "java/lang/invoke/VarHandle")
    {b : Addr} (hb : ∃ cellB : Cell, T.heap[b]? = some cellB ∧ cellB.vm.isStatics = false ∧ s.vm.findClass C = some cellB.cls)
    {g : JFrame} (hg : g.method = m) {argsL rest : List Value} (hlen : ∀ sig, parseMethodDescriptor y.desc = some sig → argsL.length = sig.parameters.length)
    (hstack : g.stack = argsL.reverse ++ .ref b :: rest) (hdg : decode c.code g.pc = .ok (.invokevirtual index, 3)) :
    ∃ (mk : MethodId) (vm₁ : Vm), (T.setVm vm₁).methodNamed? y = some mk ∧ s.WarmedH vm₁ ∧ Stand p l e R s m args below meth c (T.setVm vm₁) locs cells slots ∧
      ∀ target, Steps p.tables e below (doInvoke e ((T.setVm vm₁).setTop { g with stack := rest }) [] mk (Value.ref b :: argsL).toArray).1 target → Steps p.tables e below (T.setTop g) target := by
  obtain ⟨cellB, hcell, hobj, hcls⟩ := hb
  obtain ⟨mk, methM, hnamed, hmethM, hstM, habM⟩ := Cond.instanceMethod_spec hinst
  obtain ⟨methM', cM, hmethM', -, -, -, -, -, -, hsigM⟩ := Cond.code_spec hnamed hcode
  cases hmethM.symm.trans hmethM'
  obtain ⟨c2, r2, m2, q1, q2, q3, q4, kP, hkP, hkPi⟩ := Cond.selects_spec hsel
  cases hcls.symm.trans q1
  cases (State.methodFound?_of_named hnamed hy).symm.trans q2
  cases hnamed.symm.trans q3
  have hselP : selectMethod e.platform s.vm cellB.cls mk = .method mk := by rw [Launch.admits_selectMethod X.admits]; exact q4
  obtain ⟨vm₁, X₁, hstep₁⟩ := X.invokevirtual hexec hown hlink hnamed hmethM hstM hkP hkPi hy (a := b) (cell := cellB) hcell
    (fun z h => by rw [h] at hobj; cases hobj) hselP hmethM habM hkP hkPi (g := g) hg (argsL := argsL) (rest := rest) (hlen _ hsigM) hstack hdg
  exact ⟨mk, vm₁, X₁.named hnamed, X₁.warmed, X₁, fun target h => hstep₁ _ fun acts => by rw [doInvoke_state]; exact h⟩
/-! the search for a handler that may have to link its class first -/
theorem xt_goes {Q : Handler → Pre} {E : CtlPost} {d : Bool} {acts : List Action} {u : State} {f : JFrame} {a : Addr} {x : ExceptionTableEntry} {t : List ExceptionTableEntry} {cT : ClassId} {cell : Cell} (hx : covers x f.pc = true) (h0 : x.catchType ≠ 0)
    (hl : u.vm.ClassLinks e.platform f.method.cls x.catchType cT) (hcell : u.heap[a]? = some cell) (hobj : ∀ k, cell.vm ≠ .statics k) (hk : ∃ k, u.vm.classes[cell.cls]? = some k) (hc : ∃ k, u.vm.classes[cT]? = some k) :
    wp (findHandler.go f a (x :: t)) Q E e d acts u ↔ if u.vm.assignable cell.cls cT = true then Q (.found x.handlerPc) d acts (u.setVm (u.vm.noted f.method.cls x.catchType (.cls cT))) else wp (findHandler.go f a t) Q E e d acts (u.setVm (u.vm.noted f.method.cls x.catchType (.cls cT))) := by
  simp only [covers] at hx
  obtain ⟨q1, q2⟩ := (resolveClass_links e.toSetting hl).op (op := VmOp.resolveClass f.method.cls x.catchType) rfl
  have hal : u.vm.Alike (u.vm.noted f.method.cls x.catchType (.cls cT)) := (Vm.Alike.refl u.vm).noted _ _ _
  obtain ⟨k1, hk1⟩ := hk
  obtain ⟨k2, hk2⟩ := hc
  obtain ⟨k1', hk1', -⟩ := hal.2.2 _ _ hk1
  obtain ⟨k2', hk2', -⟩ := hal.2.2 _ _ hk2
  have has : (u.vm.noted f.method.cls x.catchType (.cls cT)).assignable cell.cls cT = u.vm.assignable cell.cls cT := hal.assignable _ _
  cases hfit : u.vm.assignable cell.cls cT <;> rw [hfit] at has <;> simp [findHandler.go, hx, h0, q1, q2, hcell, hobj, hk1', hk2', has, VmOp.dirties, VmOp.acts]
theorem xt_lands {u target : State} {g : JFrame} {a : Addr} {pc : Nat} {vm' : Vm} (hat : At u g.method c below)
    (hfind : ∀ (Q : Handler → Pre) (E : CtlPost) (d : Bool) (acts : List Action), wp (findHandler g a) Q E e d acts ((u.setTop g).pushFrame (.throwing a)) ↔ Q (.found pc) d acts (((u.setTop g).pushFrame (.throwing a)).setVm vm'))
    (hrest : Steps p.tables e below ((u.setVm vm').setTop { g with pc := pc, stack := [.ref a] }) target) : Steps p.tables e below ((u.setTop g).pushFrame (.throwing a)) target := by
  obtain ⟨hgo, hw⟩ := hat.throwing a
  refine Steps.head hgo hw ?_
  have hst : (stepThrowing e ((u.setTop g).pushFrame (.throwing a)) a (.java g :: u.frames.tail)).Is ((((u.setTop g).pushFrame (.throwing a)).setVm vm').setFrames (.java { g with pc := pc, stack := [.ref a] } :: u.frames.tail)) [] := by
    simp only [stepThrowing, searchFrame, vmDo]
    generalize hr : Sem.go _ e false [] ((u.setTop g).pushFrame (.throwing a)) = res
    obtain ⟨as, rfl, ha⟩ := Sem.eq_ok_of hr (a := Handler.found pc) (s' := ((u.setTop g).pushFrame (.throwing a)).setVm vm') (acts' := []) (by simp [hfind])
    exact ⟨rfl, ha⟩
  rw [stepThread_throwing (frames_entered hat.top _), hst.1]
  obtain ⟨g₀, hg⟩ := Option.isSome_iff_exists.mp hat.top
  obtain ⟨r, hr⟩ := State.topJava?_eq_some.mp hg
  have hr' : (u.setVm vm').frames = .java g₀ :: r := hr
  rw [State.setTop_of_frames _ hr'] at hrest
  have key : ∀ (F H : List Frame), ((u.setFrames F).setVm vm').setFrames H = (u.setVm vm').setFrames H := fun F H => by
    have h1 : (u.setFrames F).setVm vm' = (u.setVm vm').setFrames F := rfl
    rw [h1, State.setFrames_setFrames]
  rw [hr, List.tail_cons]
  have h2 : (u.setTop g).pushFrame (.throwing a) = u.setFrames (.throwing a :: .java g :: r) := by
    rw [State.setTop_of_frames _ hr, State.pushFrame, State.setFrames_setFrames, State.frames_setFrames _ (State.cur_lt_of_frames hr)]
  rw [h2, key]
  exact hrest
/-- two handlers that cover the place, by their classes: the first that fits takes it -/
theorem xt_catch (X : Stand p l e R s m args below meth c T locs cells slots) {a : Addr} {g : JFrame} (hg : g.method = m) {own C1 C2 CX : String} (hown : s.vm.findClass own = some m.cls) {x1 x2 : ExceptionTableEntry} (htb : c.exceptionTable.toList = [x1, x2])
    (hc1 : covers x1 g.pc = true) (hc2 : covers x2 g.pc = true) (h1 : x1.catchType ≠ 0) (h2 : x2.catchType ≠ 0) (hl1 : (Cond.classLink own x1.catchType C1).before args s = true) (hl2 : (Cond.classLink own x2.catchType C2).before args s = true)
    {cell : Cell} (hcell : T.heap[a]? = some cell) (hobj : cell.vm.isStatics = false) (hX : s.vm.findClass CX = some cell.cls) {first : Bool}
    (hfit : match first with
      | true => ∃ t, s.vm.findClass C1 = some t ∧ s.vm.assignable cell.cls t = true
      | false => (∃ t, s.vm.findClass C1 = some t ∧ s.vm.assignable cell.cls t = false) ∧ ∃ t, s.vm.findClass C2 = some t ∧ s.vm.assignable cell.cls t = true) :
    ∃ vm', Stand p l e R s m args below meth c (T.setVm vm') locs cells slots ∧ ∀ target, Steps p.tables e below ((T.setVm vm').setTop { g with pc := if first then x1.handlerPc else x2.handlerPc, stack := [.ref a] }) target → Steps p.tables e below ((T.setTop g).pushFrame (.throwing a)) target := by
  have hpl : e.platform.magicAccessors = ({} : Platform).magicAccessors := by rw [X.admits.platform]
  obtain ⟨c1, hf1, hk1⟩ := Cond.classLink_spec hown hl1 e.platform hpl
  obtain ⟨c2, hf2, hk2⟩ := Cond.classLink_spec hown hl2 e.platform hpl
  obtain ⟨d1, _, _, t1, hd1, _, _, _, _, ht1, _, ho1⟩ := hk1.here
  obtain ⟨d2, _, _, t2, hd2, _, _, _, _, ht2, _, ho2⟩ := hk2.here
  obtain ⟨kX, hkX⟩ := Vm.classAt_of_findClass hX
  have hal := X.warmed.alike
  have hW1 : s.WarmedH (T.vm.noted m.cls x1.catchType (.cls c1)) := X.warmed.noted hd1 ho1 (State.rightAt_cls hk1)
  have hW2 : s.WarmedH ((T.vm.noted m.cls x1.catchType (.cls c1)).noted m.cls x2.catchType (.cls c2)) := hW1.noted hd2 ho2 (State.rightAt_cls hk2)
  obtain ⟨kX', hkX', -⟩ := hal.2.2 _ _ hkX
  obtain ⟨t1', ht1', -⟩ := hal.2.2 _ _ ht1
  obtain ⟨kX2, hkX2, -⟩ := hW1.alike.2.2 _ _ hkX
  obtain ⟨t2', ht2', -⟩ := hW1.alike.2.2 _ _ ht2
  have hno := VmData.ne_statics_of hobj
  subst hg
  cases first with
  | true =>
    obtain ⟨t, e1, e2⟩ := hfit
    cases hf1.symm.trans e1
    refine ⟨_, X.noted hW1, fun target hrest => xt_lands X.here (fun Q E d acts => ?_) hrest⟩
    rw [W.findHandler_eq (show ((T.setTop g).pushFrame (.throwing a)).vm.method? g.method = some meth from X.method') X.code, htb, xt_goes (u := (T.setTop g).pushFrame (.throwing a)) hc1 h1 (X.warmed.classLinks hk1) hcell hno ⟨kX', hkX'⟩ ⟨t1', ht1'⟩, if_pos (show ((T.setTop g).pushFrame (.throwing a)).vm.assignable cell.cls c1 = true by show T.vm.assignable _ _ = true; rw [hal.assignable]; exact e2)]
    exact Iff.rfl
  | false =>
    obtain ⟨⟨t, e1, e2⟩, t', e3, e4⟩ := hfit
    cases hf1.symm.trans e1
    cases hf2.symm.trans e3
    refine ⟨_, X.noted hW2, fun target hrest => xt_lands X.here (fun Q E d acts => ?_) hrest⟩
    rw [W.findHandler_eq (show ((T.setTop g).pushFrame (.throwing a)).vm.method? g.method = some meth from X.method') X.code, htb, xt_goes (u := (T.setTop g).pushFrame (.throwing a)) hc1 h1 (X.warmed.classLinks hk1) hcell hno ⟨kX', hkX'⟩ ⟨t1', ht1'⟩, if_neg (show ¬ ((T.setTop g).pushFrame (.throwing a)).vm.assignable cell.cls c1 = true by show ¬ T.vm.assignable _ _ = true; rw [hal.assignable, e2]; decide),
      xt_goes (u := ((T.setTop g).pushFrame (.throwing a)).setVm (((T.setTop g).pushFrame (.throwing a)).vm.noted g.method.cls x1.catchType (.cls c1))) hc2 h2 (hW1.classLinks hk2) hcell hno ⟨kX2, hkX2⟩ ⟨t2', ht2'⟩, if_pos (show (((T.setTop g).pushFrame (.throwing a)).setVm (((T.setTop g).pushFrame (.throwing a)).vm.noted g.method.cls x1.catchType (.cls c1))).vm.assignable cell.cls c2 = true by show (T.vm.noted g.method.cls x1.catchType (.cls c1)).assignable _ _ = true; rw [hW1.alike.assignable]; exact e4)]
    exact Iff.rfl
end XT4
