section BM5
variable {G : bm_G} {M K : bm_M} {pc : Nat} {L L' : bm_L} {st : List Value} {h h1 : bm_H} {P : bm_R → bm_H → Prop}
def bm_ws (M : bm_M) : List Cond := Cond.code M.1 M.2.1 M.2.2.1 M.2.2.2.1 :: bm_Ts
def bm_rm (M : bm_M) (k n : Nat) : Room := { frames := M.2.2.2.2.1, cells := k, slots := n, locals := M.2.2.2.2.2 }
def bm_Pc (G : bm_G) (av : List Value) (h : bm_H) : Array Value → State → Prop := fun a U => a = (av.map (bm_v G)).toArray ∧ va_K (bm_D G) bm_cl (bm_tys G) U ∧ bm_old G U U.heap ∧ bm_rep G U.heap h ∧ U.heap.size + 2 = bm_B G + h.length
/-- a method's contract, where it returns: on the heap h with the arguments av it answers v and leaves hf -/
def bm_Mt (G : bm_G) (M : bm_M) (av : List Value) (h : bm_H) (v : Option Value) (hf : bm_H) : Prop :=
  h.length ≤ hf.length ∧ bm_sz h ≤ bm_sz hf ∧ Met G.1 M.1 (bm_ws M) (bm_rm M (hf.length - h.length) (bm_sz hf - bm_sz h)) (bm_Pc G av h) (bm_Qc G v hf) (hf.length - h.length) (bm_sz hf - bm_sz h) (bm_A G)
def bm_T (G : bm_G) (M : bm_M) (av : List Value) (h : bm_H) (P : Option Value → bm_H → Prop) : Prop := ∃ v hf, bm_Mt G M av h v hf ∧ P v hf
theorem bm_T.mono {av : List Value} {P Q : Option Value → bm_H → Prop} (k : bm_T G M av h P) (w : ∀ v hf, P v hf → Q v hf) : bm_T G M av h Q := by
  obtain ⟨v, hf, a, b⟩ := k
  exact ⟨v, hf, a, w v hf b⟩
theorem bm_W.mono {P Q : bm_R → bm_H → Prop} (k : bm_W G M pc L st h P) (w : ∀ r hf, P r hf → Q r hf) : bm_W G M pc L st h Q := by
  obtain ⟨v, hf, a, b⟩ := k
  exact ⟨v, hf, a, w v hf b⟩
theorem bm_old_to {s U : State} {H : Heap} {locs : List Loc} (ho : bm_old G s s.heap) (hV : va_S (bm_A G) s.heap H locs) (hW : s.WarmedH U.vm) (hU : U.heap = H) : bm_old G U U.heap := by
  obtain ⟨h1, h2, h3, h4, h5⟩ := ho
  have hq : ∀ a : Nat, a < s.heap.size → ¬ bm_A G a → U.heap[a]? = s.heap[a]? := by rw [hU]; exact hV.2.1
  exact ⟨(va_Z.moved hW.alike h1).kept hq, (va_T.moved hW.alike h2).kept hq, (va_T.moved hW.alike h3).kept hq, bm_Nx_warm hW h4, h5.to hW hq⟩
theorem bm_slv : ∀ (vs : List Value), (∀ v ∈ vs, v.category = 1) → lg_sl vs = vs.map Slot.val := by
  intro vs
  induction vs with
  | nil => intro _; rfl
  | cons v t ih =>
    intro hv
    have h1 := hv v List.mem_cons_self
    have h2 := ih (fun w hw => hv w (List.mem_cons_of_mem _ hw))
    unfold lg_sl at h2 ⊢
    rw [List.flatMap_cons, h2, if_neg (by omega)]
    rfl
theorem bm_entry {n : Nat} (av : List Value) (hc : ∀ v ∈ av, v.category = 1) (hn : av.length ≤ n) : bm_Lc G n ((lg_sl (av.map (bm_v G)) ++ List.replicate (n - (lg_sl (av.map (bm_v G))).length) Slot.unset).toArray) (av.map some ++ List.replicate (n - av.length) none) := by
  have hc2 : ∀ v ∈ av.map (bm_v G), v.category = 1 := by
    intro v hv
    obtain ⟨w, hw, rfl⟩ := List.mem_map.mp hv
    rw [bm_cat]; exact hc w hw
  have e := bm_slv _ hc2
  have hl := lv_entry (av.map (bm_v G)) (n := n) (by rw [e, List.length_map, List.length_map]; exact hn)
  refine ⟨by simp; omega, hl.1, hl.2.1, fun i v hi => ?_⟩
  by_cases hlt : i < av.length
  · rw [List.getElem?_append_left (by simpa using hlt), List.getElem?_map, List.getElem?_eq_getElem hlt] at hi
    have hv : av[i] = v := by simpa using hi
    refine ⟨by rw [← hv]; exact hc _ (List.getElem_mem hlt), ?_⟩
    rw [e, List.getElem?_toArray, List.getElem?_append_left (by simpa using hlt), List.getElem?_map, List.getElem?_map, List.getElem?_eq_getElem hlt, hv]
    rfl
  · rw [List.getElem?_append_right (by simpa using Nat.not_lt.mp hlt), List.getElem?_replicate] at hi
    split at hi <;> cases hi
theorem bm_met {av : List Value} {P : Option Value → bm_H → Prop} (hy : plainName M.1.cls = true) (hc : ∀ v ∈ av, v.category = 1) (hn : av.length ≤ M.2.2.1)
    (k : bm_W G M 0 (av.map some ++ List.replicate (M.2.2.1 - av.length) none) [] h (fun r hf => ∃ v, r = .inl v ∧ P v hf)) : bm_T G M av h P := by
  obtain ⟨r, hf, ⟨a1, a2, a3⟩, v, rfl, hP⟩ := k
  refine ⟨v, hf, ⟨a1, a2, ?_⟩, hP⟩
  refine Met.ofW (cc := M.2.1) (maxL := M.2.2.1) (ret := M.2.2.2.1) hy rfl ?_
  intro p e s m args below meth c s₁ B hml hv
  obtain ⟨rfl, hK, ho, hr, hz⟩ := hv
  have hts := atoms_spec (ws := bm_ws M) B.pre
  have hS : bm_S G M p (headSpec (bm_ws M) (bm_rm M (hf.length - h.length) (bm_sz hf - bm_sz h))).room s m (av.map (bm_v G)).toArray meth c :=
    ⟨B.exec, B.bytes, hml, findClass_of_methodNamed B.named, fun w hw => hts w (List.mem_cons_of_mem _ hw), B.returns, B.notSynchronized, (name_of_methodNamed B.named B.method).1, Nat.le_refl _, Nat.le_refl _, hK, ho, B.named⟩
  have h2 := bm_h2 hr
  have hR1 : (headSpec (bm_ws M) (bm_rm M (hf.length - h.length) (bm_sz hf - bm_sz h))).room.cells = hf.length - h.length := rfl
  have hR2 : (headSpec (bm_ws M) (bm_rm M (hf.length - h.length) (bm_sz hf - bm_sz h))).room.slots = bm_sz hf - bm_sz h := rfl
  have w := a3 p e _ s m _ below meth c s.heap [] _ h.length (bm_sz h) hS ⟨hr, va_S.rf, Nat.le_refl _, Nat.le_refl _, by rw [hR1]; omega, by rw [hR2]; omega, h2, hz⟩ (bm_entry av hc hn)
  rw [Nat.sub_self, Nat.sub_self] at w
  rw [lg_entry_eq]
  exact w
/-! calls -/
def bm_cw (M K : bm_M) (ix : Nat) : Prop := Cond.methodLink M.1.cls ix K.1 ∈ bm_Ts ∨ ∃ host, Cond.methodLinkNest M.1.cls ix K.1 host ∈ bm_Nx
def bm_ck (M K : bm_M) (n : Nat) : Prop := Cond.code K.1 K.2.1 K.2.2.1 K.2.2.2.1 ∈ bm_Ts ∧ Cond.initialized K.1.cls ∈ bm_Ts ∧ (K.1.cls ≠ "java/lang/invoke/MethodHandle" ∧ K.1.cls ≠ "java/lang/invoke/VarHandle" ∧ (parseMethodDescriptor K.1.desc).map (fun d => d.parameters.length) = some n) ∧ K.2.2.2.2.1 + 1 ≤ M.2.2.2.2.1 ∧ 8 + (K.2.2.1 + 11) + K.2.2.2.2.2 ≤ M.2.2.2.2.2
def bm_iv (M K : bm_M) (pc ci n : Nat) : Prop := ∃ ix, decode M.2.1 pc = .ok (.invokevirtual ix, 3) ∧ bm_cw M K ix ∧ bm_ck M K n ∧ Cond.instanceMethod K.1 ∈ bm_Ts ∧ Cond.selects K.1.cls K.1 K.1 ∈ bm_Ts ∧ ∃ T N, bm_cl[ci]? = some (K.1.cls, T, N)
def bm_is (M K : bm_M) (pc n : Nat) : Prop := ∃ ix, decode M.2.1 pc = .ok (.invokestatic ix, 3) ∧ bm_cw M K ix ∧ bm_ck M K n ∧ Cond.static K.1 ∈ bm_Ts
def bm_ii (M K : bm_M) (pc n : Nat) : Prop := ∃ ix, decode M.2.1 pc = .ok (.invokespecial ix, 3) ∧ bm_cw M K ix ∧ bm_ck M K n ∧ Cond.instanceMethod K.1 ∈ bm_Ts ∧ K.1.name = "<init>" ∧ K.2.2.2.1 = none
theorem bm_good {K : bm_M} (hk : Cond.code K.1 K.2.1 K.2.2.1 K.2.2.2.1 ∈ bm_Ts) : GoodIn bm_Ts (bm_ws K) := by
  intro w hw
  have hm : w ∈ bm_Ts := by
    rcases List.mem_cons.mp hw with rfl | hw
    · exact hk
    · exact hw
  exact ⟨hm, good_of_word (List.mem_filter.mp hm).2⟩
theorem bm_blind {av : List Value} : FrameBlind (bm_Pc G av h) := fun a U g mk hp => by
  obtain ⟨q0, qK, ⟨q1, q2, q3, q4, q5⟩, qr, qz⟩ := hp
  exact ⟨q0, va_K.moved (u := U) (U := U.calling g mk a) (Vm.Alike.refl U.vm) qK, ⟨va_Z.moved (u := U) (U := U.calling g mk a) (Vm.Alike.refl U.vm) q1, va_T.moved (u := U) (U := U.calling g mk a) (Vm.Alike.refl U.vm) q2, va_T.moved (u := U) (U := U.calling g mk a) (Vm.Alike.refl U.vm) q3, bm_Nx_warm (s := U) (U := U.calling g mk a) (State.WarmedH.refl U) q4, bm_xt.to (s := U) (U := U.calling g mk a) (State.WarmedH.refl U) (fun _ _ _ => rfl) q5⟩, qr, qz⟩
theorem bm_pre {s : State} {H : Heap} {locs : List Loc} {av : List Value} (hK : va_K (bm_D G) bm_cl (bm_tys G) s) (ho : bm_old G s s.heap) (hV : va_S (bm_A G) s.heap H locs) (hr : bm_rep G H h) (hz : H.size + 2 = bm_B G + h.length) : ∀ U : State, U.heap = H → s.WarmedH U.vm → bm_Pc G av h (av.map (bm_v G)).toArray U :=
  fun U hU hW => ⟨rfl, va_K.moved hW.alike hK, bm_old_to ho hV hW hU, by rw [hU]; exact hr, by rw [hU]; exact hz⟩
/-- behind a call that has come back -/
theorem bm_back {st0 : List Value} {v : Option Value} {p : Program} {e : Env} {R : Room} {s : State} {m : MethodId} {args : Array Value} {below : List Frame} {meth : Method} {c : Code} {H : Heap} {locs : List Loc} {ls : Array Slot} {c0 s0 : Nat} {Q : State → Prop} {a : Array Value} (a1 : h.length ≤ h1.length) (a2 : bm_sz h ≤ bm_sz h1)
    (hV : va_S (bm_A G) s.heap H locs) (hc0 : c0 ≤ h.length) (hs0 : s0 ≤ bm_sz h)
    (run : va_Run p G.1 e R s m args below meth c H locs (h.length - c0) (bm_sz h - s0) (h1.length - h.length) (bm_sz h1 - bm_sz h) (F0 m pc ls st0) (st.map (bm_v G)) (bm_Qc G v h1 a) (bm_A G))
    (w : ∀ (H1 : Heap) (locs1 : List Loc), bm_rep G H1 h1 → va_S (bm_A G) s.heap H1 locs1 → W p G.1 e R s m args below meth c H1 locs1 (h1.length - c0) (bm_sz h1 - s0) Q (F0 m (pc + 3) ls ((v.toList ++ st).map (bm_v G)))) :
    W p G.1 e R s m args below meth c H locs (h.length - c0) (bm_sz h - s0) Q (F0 m pc ls st0) := by
  intro T hT X
  obtain ⟨v', st1, t, T', Lc, h0, X', hL, e1, e2, ⟨hv, hr1, hF⟩, hst⟩ := run T hT X
  have hv' : v' = v.map (bm_v G) := by cases hv; rfl
  subst hv'
  have e3 : h.length - c0 + (h1.length - h.length) = h1.length - c0 := by omega
  have e4 : bm_sz h - s0 + (bm_sz h1 - bm_sz h) = bm_sz h1 - s0 := by omega
  rw [e3, e4] at X'
  have hF1 := hF.1
  rw [h0] at hF1
  have hV' : va_S (bm_A G) s.heap T'.heap (locs ++ Lc) := by
    refine ⟨by rw [e1]; exact Nat.le_trans hV.1 hF1, fun q q1 q2 => ?_, fun q hq => ?_⟩
    · have := hF.2 q (by rw [h0]; exact Nat.lt_of_lt_of_le q1 hV.1) q2
      rw [e1, this, h0]
      exact hV.2.1 q q1 q2
    · rcases List.mem_append.mp hq with hq | hq
      · exact hV.2.2 q hq
      · exact hL q hq
  obtain ⟨t2, q1, q2⟩ := w T'.heap (locs ++ Lc) (by rw [e1]; exact hr1) hV' T' rfl X'
  refine ⟨t2, hst t2 ?_, q2⟩
  have e5 : (v.toList ++ st).map (bm_v G) = (v.map (bm_v G)).toList ++ st.map (bm_v G) := by cases v <;> rfl
  rw [e5] at q1
  exact q1
theorem bm_callV {n ci b : Nat} {av fs : List Value} (hg : bm_iv M K pc ci n) (hn : av.length = n) (hb : h[b]? = some (.inr (ci, fs))) (hst : (st.map fun v => v.category).sum ≤ 8)
    (hc : bm_T G K (.ref b :: av) h (fun v h1 => bm_W G M (pc + 3) L (v.toList ++ st) h1 P)) : bm_W G M pc L (av.reverse ++ .ref b :: st) h P := by
  obtain ⟨v, h1, ⟨a1, a2, hM⟩, kk⟩ := hc
  obtain ⟨ix, hd, hcw, ⟨hk1, hk2, hk3, hk4, hk5⟩, hi, hse, T, N, hcl⟩ := hg
  refine bm_goH a1 a2 (fun p e R s m args below meth c H locs ls c0 s0 Q hS hr hV b1 b2 b3 b4 b5 b6 hL w T0 hT X => ?_) kk
  have hX := X.heapSize
  rw [hT] at hX
  have hz := bm_size hr hV b1 b5 b6 hX
  obtain ⟨z, rfl⟩ := bm_two hr hb
  have hcat : (((st.map (bm_v G)).map fun v => v.category).sum) ≤ 8 := by rw [List.map_map, show ((fun v : Value => v.category) ∘ bm_v G) = (fun v : Value => v.category) from funext (bm_cat G)]; exact hst
  have hst0 : ((av.reverse ++ .ref (z + 2) :: st).map (bm_v G)) = (av.map (bm_v G)).reverse ++ .ref (bm_B G + z) :: st.map (bm_v G) := by rw [List.map_append, List.map_reverse]; rfl
  have hp : PreV s H K.1.cls (bm_B G + z) (bm_Pc G (.ref (z + 2) :: av) h) (av.map (bm_v G)) := ⟨bm_blind, va_recv (bm_SK hS) hr.1 hcl (bm_w_at hb), bm_pre (av := .ref (z + 2) :: av) (bm_SK hS) (bm_Sold hS) hV hr hz⟩
  have hF : CallFix p m c M.2.1 M.2.2.1 s args bm_Ts M.1.cls := ⟨hS.1, hS.2.1, hS.2.2.1, bm_Sown hS, bm_Sts hS⟩
  have hRm : (bm_rm K (h1.length - h.length) (bm_sz h1 - bm_sz h)).frames + 1 ≤ R.frames ∧ 8 + (K.2.2.1 + 11) + (bm_rm K (h1.length - h.length) (bm_sz h1 - bm_sz h)).locals ≤ R.locals := ⟨Nat.le_trans hk4 (bm_Sfr hS), Nat.le_trans hk5 (bm_Slo hS)⟩
  have hroom : 2 * (F0 m pc ls ((av.map (bm_v G)).reverse ++ .ref (bm_B G + z) :: st.map (bm_v G))).monitorRoom + ((st.map (bm_v G)).map fun v => v.category).sum ≤ 8 := lv_room hcat
  rw [hst0]
  refine bm_back (st := st) (a := (Value.ref (bm_B G + z) :: av.map (bm_v G)).toArray) a1 a2 hV b1 b2 ?_ w T0 hT X
  rcases hcw with hl | ⟨host, hl⟩
  · exact va_runV hF hM ⟨callB_of n (bm_Sts hS) (bm_good hk1) rfl rfl rfl (bm_Sts hS _ hk2) (bm_Sts hS _ hl) hk3 hRm, bm_Sts hS _ hi, bm_Sts hS _ hse⟩ hp rfl (by rw [List.length_map]; exact hn) hL.2.1 rfl hroom hd (by omega)
  · exact va_runVN hF hM ⟨va_cnB n (bm_Sts hS) (bm_good hk1) rfl rfl rfl ((bm_Sold hS).2.2.2.1 _ hl) (bm_Sts hS _ hk2) hk3 hRm, bm_Sts hS _ hi, bm_Sts hS _ hse⟩ hp rfl (by rw [List.length_map]; exact hn) hL.2.1 rfl hroom hd (by omega)
theorem bm_callS {n : Nat} {av : List Value} (hg : bm_is M K pc n) (hn : av.length = n) (hst : (st.map fun v => v.category).sum ≤ 8)
    (hc : bm_T G K av h (fun v h1 => bm_W G M (pc + 3) L (v.toList ++ st) h1 P)) : bm_W G M pc L (av.reverse ++ st) h P := by
  obtain ⟨v, h1, ⟨a1, a2, hM⟩, kk⟩ := hc
  obtain ⟨ix, hd, hcw, ⟨hk1, hk2, hk3, hk4, hk5⟩, hi⟩ := hg
  refine bm_goH a1 a2 (fun p e R s m args below meth c H locs ls c0 s0 Q hS hr hV b1 b2 b3 b4 b5 b6 hL w T0 hT X => ?_) kk
  have hX := X.heapSize
  rw [hT] at hX
  have hz := bm_size hr hV b1 b5 b6 hX
  have hcat : (((st.map (bm_v G)).map fun v => v.category).sum) ≤ 8 := by rw [List.map_map, show ((fun v : Value => v.category) ∘ bm_v G) = (fun v : Value => v.category) from funext (bm_cat G)]; exact hst
  have hst0 : ((av.reverse ++ st).map (bm_v G)) = (av.map (bm_v G)).reverse ++ st.map (bm_v G) := by rw [List.map_append, List.map_reverse]
  have hp : PreS s H (bm_Pc G av h) (av.map (bm_v G)) := ⟨bm_blind, bm_pre (av := av) (bm_SK hS) (bm_Sold hS) hV hr hz⟩
  have hF : CallFix p m c M.2.1 M.2.2.1 s args bm_Ts M.1.cls := ⟨hS.1, hS.2.1, hS.2.2.1, bm_Sown hS, bm_Sts hS⟩
  have hRm : (bm_rm K (h1.length - h.length) (bm_sz h1 - bm_sz h)).frames + 1 ≤ R.frames ∧ 8 + (K.2.2.1 + 11) + (bm_rm K (h1.length - h.length) (bm_sz h1 - bm_sz h)).locals ≤ R.locals := ⟨Nat.le_trans hk4 (bm_Sfr hS), Nat.le_trans hk5 (bm_Slo hS)⟩
  have hroom : 2 * (F0 m pc ls ((av.map (bm_v G)).reverse ++ st.map (bm_v G))).monitorRoom + ((st.map (bm_v G)).map fun v => v.category).sum ≤ 8 := lv_room hcat
  rw [hst0]
  refine bm_back (st := st) (a := (av.map (bm_v G)).toArray) a1 a2 hV b1 b2 ?_ w T0 hT X
  rcases hcw with hl | ⟨host, hl⟩
  · exact va_runS hF hM ⟨callB_of n (bm_Sts hS) (bm_good hk1) rfl rfl rfl (bm_Sts hS _ hk2) (bm_Sts hS _ hl) hk3 hRm, bm_Sts hS _ hi⟩ hp rfl (by rw [List.length_map]; exact hn) hL.2.1 rfl hroom hd (by omega)
  · exact va_runSN hF hM ⟨va_cnB n (bm_Sts hS) (bm_good hk1) rfl rfl rfl ((bm_Sold hS).2.2.2.1 _ hl) (bm_Sts hS _ hk2) hk3 hRm, bm_Sts hS _ hi, trivial⟩ hp rfl (by rw [List.length_map]; exact hn) hL.2.1 rfl hroom hd (by omega)
theorem bm_callI {n b : Nat} {av : List Value} (hg : bm_ii M K pc n) (hn : av.length = n) (hst : (st.map fun v => v.category).sum ≤ 8)
    (hc : bm_T G K (.ref b :: av) h (fun v h1 => bm_W G M (pc + 3) L (v.toList ++ st) h1 P)) : bm_W G M pc L (av.reverse ++ .ref b :: st) h P := by
  obtain ⟨v, h1, ⟨a1, a2, hM⟩, kk⟩ := hc
  obtain ⟨ix, hd, hcw, ⟨hk1, hk2, hk3, hk4, hk5⟩, hi, hnm, hrt⟩ := hg
  refine bm_goH a1 a2 (fun p e R s m args below meth c H locs ls c0 s0 Q hS hr hV b1 b2 b3 b4 b5 b6 hL w T0 hT X => ?_) kk
  have hX := X.heapSize
  rw [hT] at hX
  have hz := bm_size hr hV b1 b5 b6 hX
  have hcat : (((st.map (bm_v G)).map fun v => v.category).sum) ≤ 8 := by rw [List.map_map, show ((fun v : Value => v.category) ∘ bm_v G) = (fun v : Value => v.category) from funext (bm_cat G)]; exact hst
  have hst0 : ((av.reverse ++ .ref b :: st).map (bm_v G)) = (av.map (bm_v G)).reverse ++ .ref (bm_ad G b) :: st.map (bm_v G) := by rw [List.map_append, List.map_reverse]; rfl
  have hp : PreS s H (bm_Pc G (.ref b :: av) h) (.ref (bm_ad G b) :: av.map (bm_v G)) := ⟨bm_blind, bm_pre (av := .ref b :: av) (bm_SK hS) (bm_Sold hS) hV hr hz⟩
  have hF : CallFix p m c M.2.1 M.2.2.1 s args bm_Ts M.1.cls := ⟨hS.1, hS.2.1, hS.2.2.1, bm_Sown hS, bm_Sts hS⟩
  have hRm : (bm_rm K (h1.length - h.length) (bm_sz h1 - bm_sz h)).frames + 1 ≤ R.frames ∧ 8 + (K.2.2.1 + 11) + (bm_rm K (h1.length - h.length) (bm_sz h1 - bm_sz h)).locals ≤ R.locals := ⟨Nat.le_trans hk4 (bm_Sfr hS), Nat.le_trans hk5 (bm_Slo hS)⟩
  have hroom : 2 * (F0 m pc ls ((av.map (bm_v G)).reverse ++ .ref (bm_ad G b) :: st.map (bm_v G))).monitorRoom + ((st.map (bm_v G)).map fun v => v.category).sum ≤ 8 := lv_room hcat
  have hw1 : bm_ws K = Cond.code K.1 K.2.1 K.2.2.1 none :: bm_Ts := by unfold bm_ws; rw [hrt]
  rw [hst0]
  refine bm_back (st := st) (a := (Value.ref (bm_ad G b) :: av.map (bm_v G)).toArray) a1 a2 hV b1 b2 ?_ w T0 hT X
  rcases hcw with hl | ⟨host, hl⟩
  · exact va_runI hF hM ⟨callB_of n (bm_Sts hS) (bm_good hk1) hw1 rfl rfl (bm_Sts hS _ hk2) (bm_Sts hS _ hl) hk3 hRm, hnm, bm_Sts hS _ hi⟩ hp rfl (by rw [List.length_map]; exact hn) hL.2.1 rfl hroom hd (by omega)
  · exact va_runIN hF hM ⟨va_cnB n (bm_Sts hS) (bm_good hk1) hw1 rfl rfl ((bm_Sold hS).2.2.2.1 _ hl) (bm_Sts hS _ hk2) hk3 hRm, hnm, bm_Sts hS _ hi⟩ hp rfl (by rw [List.length_map]; exact hn) hL.2.1 rfl hroom hd (by omega)
def bm_io (M : bm_M) (pc : Nat) : Prop := ∃ ix, decode M.2.1 pc = .ok (.invokespecial ix, 3) ∧ Cond.methodLink M.1.cls ix Lib.objectInit ∈ bm_Ts ∧ Cond.instanceMethod Lib.objectInit ∈ bm_Ts ∧ Cond.code Lib.objectInit ⟨#[0xb1]⟩ 1 none ∈ bm_Ts ∧ 1 ≤ M.2.2.2.2.1 ∧ 20 ≤ M.2.2.2.2.2
theorem bm_objInit {b : Nat} (hg : bm_io M pc) (hst : (st.map fun v => v.category).sum ≤ 8) (k : bm_W G M (pc + 3) L st h P) : bm_W G M pc L (.ref b :: st) h P := by
  obtain ⟨ix, hd, h1, h2, h3, h4, h5⟩ := hg
  refine bm_go (fun p e R s m args below meth c H locs ls n1 n2 Q hS hr hV hL w => ?_) k
  have hcat : (((st.map (bm_v G)).map fun v => v.category).sum) ≤ 8 := by rw [List.map_map, show ((fun v : Value => v.category) ∘ bm_v G) = (fun v : Value => v.category) from funext (bm_cat G)]; exact hst
  have hlo := bm_Slo hS
  have hmr : (F0 m pc ls (.ref (bm_ad G b) :: st.map (bm_v G))).monitorRoom = 0 := rfl
  exact W.objInit hS.1 hS.2.1 (bm_Sown hS) (bm_Sts hS _ h1) (bm_Sts hS _ h2) (bm_Sts hS _ h3) rfl (hL.2.1.trans hS.2.2.1.symm) rfl hd (Nat.le_trans h4 (bm_Sfr hS)) (by rw [hmr]; omega) w
end BM5
