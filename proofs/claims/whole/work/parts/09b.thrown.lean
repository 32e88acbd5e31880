section XT2
variable {G : bm_G} {M K : bm_M} {pc : Nat} {L : bm_L} {st : List Value} {h h1 : bm_H} {P : bm_R → bm_H → Prop}
def bm_tw (M : bm_M) (pc ci : Nat) : Prop := ∃ (ixC idx ic : Nat) (C tx : String), decode M.2.1 pc = .ok (.new ixC, 3) ∧ decode M.2.1 (pc + 3) = .ok (.dup, 1) ∧ decode M.2.1 (pc + 4) = .ok (.ldc idx, 2) ∧ decode M.2.1 (pc + 6) = .ok (.invokespecial ic, 3) ∧ decode M.2.1 (pc + 9) = .ok (.athrow, 1) ∧
  bm_cl[ci]? = some (C, tT_0, 0) ∧ Cond.classLink M.1.cls ixC C ∈ bm_Ts ∧ Cond.instantiable C 6 ∈ bm_Ts ∧ Cond.initialized C ∈ bm_Ts ∧ (idx, tx) ∈ bm_sx ∧ M.1.cls = "BatchHall" ∧ (∀ a ∈ xt_atoms M.1.cls ic C, a ∈ bm_Ts ∨ a ∈ bm_Nx ∨ a ∈ xt_four) ∧ Bundle.fit C = true ∧ 7 ≤ M.2.2.2.2.1 ∧ 100 ≤ M.2.2.2.2.2 ∧ bm_ns ci = 6 ∧ Cond.code M.1 M.2.1 M.2.2.1 M.2.2.2.1 ∈ bm_Ts
theorem bm_Snamed {p : Program} {R : Room} {s : State} {m : MethodId} {args : Array Value} {meth : Method} {c : Code} (h : bm_S G M p R s m args meth c) : s.methodNamed? M.1 = some m := h.2.2.2.2.2.2.2.2.2.2.2.2
theorem xt_noh {p : Program} {l : Launch} {e : Env} {R R' : Room} {s : State} {m : MethodId} {args : Array Value} {below : List Frame} {meth : Method} {c : Code} {T : State} {locs : List Loc} {cells slots : Nat} (X : Stand p l e R' s m args below meth c T locs cells slots) (hS : bm_S G M p R s m args meth c) (wc : Cond.code M.1 M.2.1 M.2.2.1 M.2.2.2.1 ∈ bm_Ts) (pc : Nat) : ∀ x ∈ c.exceptionTable.toList, covers x pc = false := by
  obtain ⟨meth', c', hm', hc', -, -, -, -, he', -⟩ := Cond.code_spec (bm_Snamed hS) (bm_Sts hS _ wc)
  cases X.method.symm.trans hm'
  cases X.code.symm.trans hc'
  intro x hx
  have : c.exceptionTable = #[] := by simpa using he'
  rw [this] at hx
  cases hx
theorem bm_Ts_to {s U : State} {args a' : Array Value} (hW : s.WarmedH U.vm) (h : ∀ w ∈ bm_Ts, w.before args s = true) : ∀ w ∈ bm_Ts, w.before a' U = true :=
  fun w hw => word_at hW (good_of_word (List.mem_filter.mp hw).2) (h w hw)
set_option maxHeartbeats 1000000 in
theorem bm_throw {ci : Nat} (hfl : G.1.flags = pinnedFlags ++ [noTraceFlag]) (hg : bm_tw M pc ci) (hp : P (.inr h.length) (h ++ [.inr (ci, [])])) : bm_W G M pc L [] h P := by
  obtain ⟨ixC, idx, ic, C, tx, d1, d2, d3, d4, d5, hc, w1, w2, w3, hsx, hH, hat, hfit, hfr, hlo, hns, wc⟩ := hg
  have e1 : (h ++ [(Sum.inr (ci, []) : bm_C)]).length = h.length + 1 := by simp
  have e2 : bm_sz (h ++ [(Sum.inr (ci, []) : bm_C)]) = bm_sz h + 6 := by rw [bm_sz_push]; show _ + bm_ns ci = _; rw [hns]
  refine ⟨.inr h.length, h ++ [.inr (ci, [])], ⟨by omega, by omega, fun p e R s m args below meth c H locs ls c0 s0 hS hq hL T hT X => ?_⟩, hp⟩
  obtain ⟨hr, hV, b1, b2, b3, b4, b5, b6⟩ := hq
  have hX := X.heapSize
  rw [hT] at hX
  have hz := bm_size hr hV b1 b5 b6 hX
  have h2 := bm_h2 hr
  have htr : e.platform.stackTraces = false := Launch.traces_off hfl X.admits
  have X' := xt_rebase X (by omega) (by omega)
  have hout := xt_noh X hS wc
  have hlk := bm_Slk hS
  generalize hs' : T.setFrames (.invoking m args :: below) = s' at X'
  have hvm : s'.vm = T.vm := by rw [← hs']; rfl
  have hhp : s'.heap = H := by rw [← hs', ← hT]; rfl
  have hW' : s.WarmedH s'.vm := by rw [hvm]; exact X.warmed
  have hts' : ∀ w ∈ bm_Ts, w.before args s' = true := bm_Ts_to hW' (bm_Sts hS)
  have ho' : bm_old G s' s'.heap := bm_old_to (bm_Sold hS) hV hW' hhp
  have hown' : s'.vm.findClass M.1.cls = some m.cls := by rw [hW'.alike.findClass]; exact bm_Sown hS
  have hK' := va_K.moved hW'.alike (bm_SK hS)
  have hfrR := bm_Sfr hS
  have hloR := bm_Slo hS
  obtain ⟨q, hqs⟩ := ho'.2.2.2.2.2.2.1 (idx, tx) hsx
  have key : W p G.1 e { frames := R.frames, cells := R.cells - (h.length - c0), slots := R.slots - (bm_sz h - s0), locals := R.locals } s' m args below meth c H [] 0 0 (fun U => U.status = .running ∧ Ended U below (.threw H.size) ∧ s'.WarmedH U.vm ∧ s'.sameButNew ({ U with vm := s'.vm } : State) [] 1 6 ∧ ∃ ce, U.heap[H.size]? = some ce ∧ s'.vm.findClass C = some ce.cls ∧ ce.vm = .none) (F0 m pc ls []) := by
    refine W.newc hS.1 hS.2.1 hown' (hts' _ w1) (hts' _ w2) (hts' _ w3) rfl d1 (by show 0 + 1 ≤ R.cells - (h.length - c0); omega) (by show 0 + 6 ≤ R.slots - (bm_sz h - s0); omega) (fun cC kC k1 k2 k3 k4 => ?_)
    refine lv_dup hS.1 hS.2.1 d2 rfl ?_
    refine va_ldcS hS.1 hS.2.1 (own := "BatchHall") (by rw [← hH]; exact hown') hqs d3 ?_
    intro T2 hT2 X2
    obtain ⟨U, u1, u2, u3, u4, u5, ce, u6, u7⟩ := X2.ctorThrowS hS.1 htr (own := M.1.cls) (cls := C) (names := ["java/lang/RuntimeException", "java/lang/Exception"]) (ic := ic) hown' hfit (by decide) (xt_hold hat hts' ho') (fun x hx => by cases hx) (a := H.size) k1 k2
      (by rw [hT2, Array.getElem?_push_size]) (by rw [hhp]; exact Nat.le_refl _) (msg := .ref q) rfl (g := F0 m (pc + 6) ls [.ref q, .ref H.size, .ref H.size]) rfl (hL.2.1.trans hS.2.2.1.symm) rfl rfl (rest := []) rfl (by rw [hS.2.1]; exact d4) (by rw [hS.2.1]; exact d5) (hout _)
      (by show 2 + 3 < R.frames; omega) (by show 2 * (F0 m (pc + 6) ls [.ref q, .ref H.size, .ref H.size]).monitorRoom + _ + _ ≤ R.locals; rw [show (F0 m (pc + 6) ls [.ref q, .ref H.size, .ref H.size]).monitorRoom = 0 from rfl]; simp [Value.category]; omega) hlk
    exact ⟨U, u1, u2, u3, u4, u5, ce, u6, u7.cls, u7.vm⟩
  obtain ⟨U, u0, u1, u2, u3, u4, ce, u5, u6, u7⟩ := key T hT X'
  have hold : ∀ z, z < H.size → U.heap[z]? = H[z]? := by
    intro z hz2
    have := xt_eq u4 (q := z) (by rw [hhp]; exact hz2)
    rw [hhp] at this
    exact this
  have hsz1 : H.size ≤ U.heap.size := Nat.le_of_lt (Array.getElem?_eq_some_iff.mp u5).1
  have hcls : ce.cls = (bm_D G).1 ci := by
    have h9 := (hK'.1 ci _ hc).2.1
    exact Option.some.inj (u6.symm.trans h9)
  have had : bm_ad G h.length = H.size := by rw [bm_adl h2]; omega
  refine ⟨U, u0, ?_⟩
  show bm_Qx G h.length _ below s _ _ U
  refine ⟨u1, by rw [had]; exact u2, ?_, ⟨Nat.le_trans hV.1 hsz1, fun z q1 q2 => ?_⟩, State.WarmedH.trans X.warmed (by rw [← hs'] at u3; exact u3), locs, ?_, hV.2.2⟩
  · refine bm_rep_push (q := H.size) hr (by omega) ((hr.1.kept (fun k x hk => hold _ ((hr.1 k x hk).lt))).app (fun k x hk => ?_))
    have hk1 : k < 1 := (List.getElem?_eq_some_iff.mp hk).1
    rw [show k = 0 by omega] at hk
    cases hk
    exact ⟨_, hc, ce, u5, hcls, u7, fun k hk => absurd hk (Nat.not_lt_zero k)⟩
  · rw [hold z (Nat.lt_of_lt_of_le q1 hV.1)]
    exact hV.2.1 z q1 q2
  · have hB : T.sameButNew ({ U with vm := T.vm } : State) [] 1 6 := by
      obtain ⟨q1, q2, q3, q4, q5, q6⟩ := u4
      rw [hvm] at q1
      rw [← hs'] at q1 q2 q3 q4 q5 q6
      refine ⟨?_, q2, q3, q4, q5, q6⟩
      have q1' : ({ U with vm := T.vm } : State) = { (T.setFrames (.invoking m args :: below)).setFrames U.frames with heap := U.heap, slotsUsed := U.slotsUsed } := q1
      rw [State.setFrames_setFrames] at q1'
      exact q1'
    have hres := X.same.trans (hB.setVm s.vm)
    rw [List.append_nil] at hres
    rw [e1, e2]
    have e3 : h.length - c0 + 1 = h.length + 1 - c0 := by omega
    have e4 : bm_sz h - s0 + 6 = bm_sz h + 6 - s0 := by omega
    rw [e3, e4] at hres
    exact hres
end XT2
