section XT6
variable {G : bm_G} {M K : bm_M} {pc : Nat} {L : bm_L} {st : List Value} {h h1 : bm_H} {P : bm_R → bm_H → Prop}
def bm_wsW (M : bm_M) (hh : List (Nat × Nat × Nat × Nat)) : List Cond := Cond.codeWith M.1 M.2.1 M.2.2.1 M.2.2.2.1 hh :: bm_Ts
/-- the contract of a method with handlers: it returns -/
def bm_TW (G : bm_G) (M : bm_M) (hh : List (Nat × Nat × Nat × Nat)) (av : List Value) (h : bm_H) (P : Option Value → bm_H → Prop) : Prop := ∃ v hf, (h.length ≤ hf.length ∧ bm_sz h ≤ bm_sz hf ∧ Met G.1 M.1 (bm_wsW M hh) (bm_rm M (hf.length - h.length) (bm_sz hf - bm_sz h)) (bm_Pc G av h) (bm_Qc G v hf) (hf.length - h.length) (bm_sz hf - bm_sz h) (bm_A G)) ∧ P v hf
theorem bm_metW {hh : List (Nat × Nat × Nat × Nat)} {av : List Value} {P : Option Value → bm_H → Prop} (hy : plainName M.1.cls = true) (hc : ∀ v ∈ av, v.category = 1) (hn : av.length ≤ M.2.2.1)
    (k : bm_W G M 0 (av.map some ++ List.replicate (M.2.2.1 - av.length) none) [] h (fun r hf => ∃ v, r = .inl v ∧ P v hf)) : bm_TW G M hh av h P := by
  obtain ⟨r, hf, ⟨a1, a2, a3⟩, v, rfl, hP⟩ := k
  refine ⟨v, hf, ⟨a1, a2, ?_⟩, hP⟩
  refine va_MetW (cc := M.2.1) (maxL := M.2.2.1) (ret := M.2.2.2.1) (hh := hh) hy rfl ?_
  intro p e s m args below meth c s₁ B hml hv
  obtain ⟨rfl, hK, ho, hr, hz⟩ := hv
  have hts := atoms_spec (ws := bm_wsW M hh) B.pre
  have hS : bm_S G M p (headSpec (bm_wsW M hh) (bm_rm M (hf.length - h.length) (bm_sz hf - bm_sz h))).room s m (av.map (bm_v G)).toArray meth c :=
    ⟨B.exec, B.bytes, hml, findClass_of_methodNamed B.named, fun w hw => hts w (List.mem_cons_of_mem _ hw), B.returns, B.notSynchronized, (name_of_methodNamed B.named B.method).1, Nat.le_refl _, Nat.le_refl _, hK, ho, B.named⟩
  have h2 := bm_h2 hr
  have hR1 : (headSpec (bm_wsW M hh) (bm_rm M (hf.length - h.length) (bm_sz hf - bm_sz h))).room.cells = hf.length - h.length := rfl
  have hR2 : (headSpec (bm_wsW M hh) (bm_rm M (hf.length - h.length) (bm_sz hf - bm_sz h))).room.slots = bm_sz hf - bm_sz h := rfl
  have w := a3 p e _ s m _ below meth c s.heap [] _ h.length (bm_sz h) hS ⟨hr, va_S.rf, Nat.le_refl _, Nat.le_refl _, by rw [hR1]; omega, by rw [hR2]; omega, h2, hz⟩ (bm_entry av hc hn)
  rw [Nat.sub_self, Nat.sub_self] at w
  rw [lg_entry_eq]
  exact w
def bm_isW (M K : bm_M) (hh : List (Nat × Nat × Nat × Nat)) (pc n : Nat) : Prop := ∃ ix, decode M.2.1 pc = .ok (.invokestatic ix, 3) ∧ Cond.methodLink M.1.cls ix K.1 ∈ bm_Ts ∧ Cond.codeWith K.1 K.2.1 K.2.2.1 K.2.2.2.1 hh ∈ bm_Ts ∧ Cond.initialized K.1.cls ∈ bm_Ts ∧ Cond.static K.1 ∈ bm_Ts ∧
  (K.1.cls ≠ "java/lang/invoke/MethodHandle" ∧ K.1.cls ≠ "java/lang/invoke/VarHandle" ∧ (parseMethodDescriptor K.1.desc).map (fun d => d.parameters.length) = some n) ∧ K.2.2.2.2.1 + 1 ≤ M.2.2.2.2.1 ∧ 8 + (K.2.2.1 + 11) + K.2.2.2.2.2 ≤ M.2.2.2.2.2
theorem bm_callSW {n : Nat} {hh : List (Nat × Nat × Nat × Nat)} {av : List Value} (hg : bm_isW M K hh pc n) (hn : av.length = n) (hst : (st.map fun v => v.category).sum ≤ 8)
    (hc : bm_TW G K hh av h (fun v h1 => bm_W G M (pc + 3) L (v.toList ++ st) h1 P)) : bm_W G M pc L (av.reverse ++ st) h P := by
  obtain ⟨v, h1, ⟨a1, a2, hM⟩, kk⟩ := hc
  obtain ⟨ix, hd, hl, hk1, hk2, hi, hk3, hk4, hk5⟩ := hg
  refine bm_goH a1 a2 (fun p e R s m args below meth c H locs ls c0 s0 Q hS hr hV b1 b2 b3 b4 b5 b6 hL w T0 hT X => ?_) kk
  have hX := X.heapSize
  rw [hT] at hX
  have hz := bm_size hr hV b1 b5 b6 hX
  have hst0 : ((av.reverse ++ st).map (bm_v G)) = (av.map (bm_v G)).reverse ++ st.map (bm_v G) := by rw [List.map_append, List.map_reverse]
  have hroom : 2 * (F0 m pc ls (st.map (bm_v G))).monitorRoom + ((st.map (bm_v G)).map fun v => v.category).sum ≤ 8 := lv_room (bm_catL hst)
  have hws : ∀ w ∈ bm_wsW K hh, ∀ (a' : Array Value) (U : State), s.WarmedH U.vm → w.before a' U = true := by
    intro w hw a' U hW
    have hm : w ∈ bm_Ts := by
      rcases List.mem_cons.mp hw with rfl | hw
      · exact hk1
      · exact hw
    exact bm_Ts_to hW (bm_Sts hS) w hm
  have hK : Back G.1 R p e below s args K.1 3 8 (PreOf R (h1.length - h.length) (bm_sz h1 - bm_sz h) (bm_Pc G av h)) (PostOf (bm_Qc G v h1) (h1.length - h.length) (bm_sz h1 - bm_sz h) (bm_A G)) :=
    va_backW (bytes := K.2.1) (maxL := K.2.2.1) (ret := K.2.2.2.1) (hh := hh) hM bm_blind rfl rfl (Nat.le_trans hk4 (bm_Sfr hS)) (Nat.le_trans hk5 (bm_Slo hS)) hws List.mem_cons_self (fun a' U hW => bm_Ts_to hW (bm_Sts hS) _ hk2)
  rw [hst0]
  refine bm_back (st := st) (a := (av.map (bm_v G)).toArray) a1 a2 hV b1 b2 ?_ w T0 hT X
  intro T1 hT1 X1
  obtain ⟨mk, methM, cM, hnamed, hmethM, -, -, -, -, -, -, hsigM⟩ := Cond.codeWith_spec (bm_Sts hS _ hk1)
  have hstatic : methM.isStatic = true := Cond.static_spec hnamed hmethM (bm_Sts hS _ hi)
  obtain ⟨kP, hkP, -⟩ := className_of_methodNamed hnamed
  have hinitP : kP.init = .initialized := Cond.initialized_spec (findClass_of_methodNamed hnamed) hkP (bm_Sts hS _ hk2)
  have hlen : (av.map (bm_v G)).length = methM.sig.parameters.length := by
    have h2 := hk3.2.2
    rw [hsigM] at h2
    rw [List.length_map, hn]
    exact (Option.some.inj h2).symm
  obtain ⟨vm₁, X₁, hstep₁⟩ := X1.invokestatic hS.1 (bm_Sown hS) (bm_Sts hS _ hl) hnamed hmethM hstatic hkP hinitP ⟨hk3.1, hk3.2.1⟩ (g := F0 m pc ls ((av.map (bm_v G)).reverse ++ st.map (bm_v G))) rfl (argsL := av.map (bm_v G)) (rest := st.map (bm_v G)) hlen rfl (by rw [hS.2.1]; exact hd)
  obtain ⟨v', ⟨U', l2, c2, s2⟩, X', ⟨g', mk', t, L2, e1, e2, hq, h1', hL', h2', h3'⟩, hsteps⟩ := hK m meth c ⟨T1.setVm vm₁, locs, h.length - c0, bm_sz h - s0⟩ (F0 m pc ls (st.map (bm_v G))) (.invokestatic ix) mk (av.map (bm_v G)).toArray X₁ rfl (hL.2.1.trans hS.2.2.1.symm) (by rw [hS.2.1]; exact hd) hroom (X₁.named hnamed)
    ⟨by show h.length - c0 + (h1.length - h.length) ≤ R.cells; omega, by show bm_sz h - s0 + (bm_sz h1 - bm_sz h) ≤ R.slots; omega, bm_pre (av := av) (bm_SK hS) (bm_Sold hS) hV hr hz (T1.setVm vm₁) hT1 X₁.warmed⟩
  dsimp only [Pt.U, Pt.locs, Pt.cells, Pt.slots] at X' e1 e2 h1' h2' h3' hsteps
  subst h1'; subst h2'; subst h3'
  exact ⟨v', (T1.setVm vm₁).calling g' mk' (av.map (bm_v G)).toArray, t, U', L2, hT1, X', hL', e1, e2, hq, fun target hs => hstep₁ _ fun acts => by rw [doInvoke_state]; exact hsteps.trans hs⟩
end XT6
