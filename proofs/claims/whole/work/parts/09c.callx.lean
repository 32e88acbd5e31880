section XT3
variable {G : bm_G} {M K : bm_M} {pc : Nat} {L : bm_L} {st : List Value} {h h1 : bm_H} {P : bm_R → bm_H → Prop}
def bm_Qt (G : bm_G) (x : Nat) (hf : bm_H) (k n : Nat) : Array Value → State → Outcome → State → Prop := fun _ s o t =>
  o = .threw (bm_ad G x) ∧ bm_rep G t.heap hf ∧ va_F (bm_A G) s t ∧ s.WarmedH t.vm ∧ ∃ L, s.sameButNew ({ t with vm := s.vm } : State) L k n ∧ ∀ q ∈ L, bm_A G q.base
/-- a method's contract, where it throws -/
def bm_Mx (G : bm_G) (M : bm_M) (av : List Value) (h : bm_H) (x : Nat) (hf : bm_H) : Prop :=
  h.length ≤ hf.length ∧ bm_sz h ≤ bm_sz hf ∧ MetFree G.1 M.1 (headSpec (bm_ws M) (bm_rm M (hf.length - h.length) (bm_sz hf - bm_sz h))) (bm_Pc G av h) (fun _ _ _ _ _ => True) (bm_Qt G x hf (hf.length - h.length) (bm_sz hf - bm_sz h))
def bm_M2 (G : bm_G) (M : bm_M) (av : List Value) (h : bm_H) (r : bm_R) (hf : bm_H) : Prop := match r with
  | .inl v => bm_Mt G M av h v hf
  | .inr x => bm_Mx G M av h x hf
/-- either way -/
def bm_T2 (G : bm_G) (M : bm_M) (av : List Value) (h : bm_H) (P : bm_R → bm_H → Prop) : Prop := ∃ r hf, bm_M2 G M av h r hf ∧ P r hf
theorem bm_met2 {av : List Value} (hy : plainName M.1.cls = true) (hc : ∀ v ∈ av, v.category = 1) (hn : av.length ≤ M.2.2.1)
    (k : bm_W G M 0 (av.map some ++ List.replicate (M.2.2.1 - av.length) none) [] h P) : bm_T2 G M av h P := by
  obtain ⟨r, hf, kx, hP⟩ := k
  refine ⟨r, hf, ?_, hP⟩
  cases r with
  | inl v =>
    obtain ⟨v', hf', hm, rfl, rfl⟩ := bm_met (P := fun v' hf' => v' = v ∧ hf' = hf) hy hc hn ⟨.inl v, hf, kx, v, rfl, rfl, rfl⟩
    exact hm
  | inr x =>
    obtain ⟨a1, a2, a3⟩ := kx
    refine ⟨a1, a2, ?_⟩
    refine MetFree.of_bodyS (code := M.2.1) (maxLocals := M.2.2.1) (ret := M.2.2.2.1) hy ?_ ?_
    · intro args s m hpre hnm
      obtain ⟨meth, c, h1, h2, h3, h4, h5, h6, -, -⟩ := Cond.code_spec hnm (atoms_spec (ws := bm_ws M) hpre _ List.mem_cons_self)
      exact ⟨meth, c, h1, h2, h3, h4, h5, h6⟩
    · intro p e s m args below meth c s₁ B hml hv _
      obtain ⟨rfl, hK, ho, hr, hz⟩ := hv
      have hts := atoms_spec (ws := bm_ws M) B.pre
      have hS : bm_S G M p (headSpec (bm_ws M) (bm_rm M (hf.length - h.length) (bm_sz hf - bm_sz h))).room s m (av.map (bm_v G)).toArray meth c :=
        ⟨B.exec, B.bytes, hml, findClass_of_methodNamed B.named, fun w hw => hts w (List.mem_cons_of_mem _ hw), B.returns, B.notSynchronized, (name_of_methodNamed B.named B.method).1, Nat.le_refl _, Nat.le_refl _, hK, ho, B.named⟩
      have h2 := bm_h2 hr
      have hR1 : (headSpec (bm_ws M) (bm_rm M (hf.length - h.length) (bm_sz hf - bm_sz h))).room.cells = hf.length - h.length := rfl
      have hR2 : (headSpec (bm_ws M) (bm_rm M (hf.length - h.length) (bm_sz hf - bm_sz h))).room.slots = bm_sz hf - bm_sz h := rfl
      have hh0 : s₁.heap = s.heap := by rw [B.state]; rfl
      have w := a3 p e _ s m _ below meth c s.heap [] _ h.length (bm_sz h) hS ⟨hr, va_S.rf, Nat.le_refl _, Nat.le_refl _, by rw [hR1]; omega, by rw [hR2]; omega, h2, hz⟩ (bm_entry av hc hn)
      rw [Nat.sub_self, Nat.sub_self] at w
      obtain ⟨t, t1, t2, t3, t4, t5, t6, t7⟩ := w s₁ hh0 (Stand.of_body B)
      refine ⟨t, .threw (bm_ad G x), ?_, t2, t3, rfl, t4, t5, t6, t7⟩
      rw [lg_entry_eq]
      exact t1
/-- a call whose callee throws: behind it the note lies over the caller's frame -/
theorem xt_back {p : Program} {e : Env} {R : Room} {s : State} {m : MethodId} {args : Array Value} {below : List Frame} {meth : Method} {c : Code} {T : State} {locs : List Loc} {cells slots : Nat} (X : Stand p G.1 e R s m args below meth c T locs cells slots)
    {av : List Value} {x : Nat} (hM : bm_Mx G K av h x h1) (hk1 : Cond.code K.1 K.2.1 K.2.2.1 K.2.2.2.1 ∈ bm_Ts) (hk2 : Cond.initialized K.1.cls ∈ bm_Ts) (hts : ∀ w ∈ bm_Ts, w.before args s = true) (hfr : K.2.2.2.2.1 + 1 ≤ R.frames) (hlo : 8 + (K.2.2.1 + 11) + K.2.2.2.2.2 ≤ R.locals)
    (hcl : cells + (h1.length - h.length) ≤ R.cells) (hsl : slots + (bm_sz h1 - bm_sz h) ≤ R.slots) {g : JFrame} (hg : g.method = m) (hsize : g.locals.size = c.maxLocals) {ig : Instr} {len : Nat} (hdg : decode c.code g.pc = .ok (ig, len)) (hW : 2 * g.monitorRoom + (g.stack.map fun v => v.category).sum ≤ 8)
    {mk : MethodId} (hn : T.methodNamed? K.1 = some mk) (hPc : bm_Pc G av h (av.map (bm_v G)).toArray T) :
    ∃ (T' : State) (Lc : List Loc), Stand p G.1 e R s m args below meth c T' (locs ++ Lc) (cells + (h1.length - h.length)) (slots + (bm_sz h1 - bm_sz h)) ∧ (∀ q ∈ Lc, bm_A G q.base) ∧ bm_rep G T'.heap h1 ∧ va_F (bm_A G) T T' ∧
      Steps p.tables e below (doInvoke e (T.setTop g) [] mk (av.map (bm_v G)).toArray).1 ((T'.setTop g).pushFrame (.throwing (bm_ad G x))) := by
  obtain ⟨a1, a2, hMf⟩ := hM
  have hts' : ∀ w ∈ bm_Ts, w.before (av.map (bm_v G)).toArray T = true := bm_Ts_to X.warmed hts
  obtain ⟨methY, cY, hmY, hcY, -, hlY, -, -, -, -⟩ := Cond.code_spec hn (hts' _ hk1)
  obtain ⟨kY, hkY, -⟩ := className_of_methodNamed hn
  have hinitY : kY.init = .initialized := Cond.initialized_spec (findClass_of_methodNamed hn) hkY (hts' _ hk2)
  have hat : At T g.method c below := by rw [hg]; exact X.here
  have hpre : (headSpec (bm_ws K) (bm_rm K (h1.length - h.length) (bm_sz h1 - bm_sz h))).pre.before (av.map (bm_v G)).toArray T = true := atoms_intro (fun w hw => hts' w ((bm_good hk1 w hw).1))
  have happ : (headSpec (bm_ws K) (bm_rm K (h1.length - h.length) (bm_sz h1 - bm_sz h))).appliesLoose K.1 e.platform (T.calling g mk (av.map (bm_v G)).toArray) = true :=
    Spec.appliesLoose_calling (g := g) hat hdg hn hkY hinitY
      (X.room_calling (g := g) (R' := (headSpec (bm_ws K) (bm_rm K (h1.length - h.length) (bm_sz h1 - bm_sz h))).room) hsize hmY hcY hfr (by rw [hlY]; show _ + _ + K.2.2.2.2.2 ≤ _; omega) hcl hsl) hpre
  obtain ⟨mid, hmid⟩ := hat.above
  have hfrm : (T.setTop g).frames = (.java g :: mid) ++ below := by rw [State.frames_setTop' g hat.top, hmid]; rfl
  obtain ⟨o, s₂, hsteps, -, hend, hq⟩ := Steps.callFree hMf p X.admits X.cas X.clock (acts := []) hfrm happ (bm_blind _ _ g mk hPc) trivial
  obtain ⟨rfl, r1, r2, r3, Lc, r4, r5⟩ := hq
  rw [State.frames_setTop' g hat.top, X.tail] at hend
  obtain ⟨T', X', w1, w2, w3⟩ := X.outOfThrown hg (mk := mk) (a := (av.map (bm_v G)).toArray) hend r3 r4
  have hhp : T'.heap = s₂.heap := by rw [w3]; rfl
  refine ⟨T', Lc, X', r5, by rw [hhp]; exact r1, ⟨by rw [hhp]; exact r2.1, fun q q1 q2 => by rw [hhp]; exact r2.2 q q1 q2⟩, ?_⟩
  rw [← w3]
  exact hsteps
end XT3
