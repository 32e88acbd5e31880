section XT5
variable {G : bm_G} {M K : bm_M} {pc : Nat} {L : bm_L} {st : List Value} {h h1 : bm_H} {P : bm_R → bm_H → Prop}
theorem bm_catL {st : List Value} (hst : (st.map fun v => v.category).sum ≤ 8) : (((st.map (bm_v G)).map fun v => v.category).sum) ≤ 8 := by
  rw [List.map_map, show ((fun v : Value => v.category) ∘ bm_v G) = (fun v : Value => v.category) from funext (bm_cat G)]; exact hst
/-- a virtual call whose callee throws, up to the note over the caller's own frame -/
theorem xt_fromV {p : Program} {e : Env} {R : Room} {s : State} {m : MethodId} {args : Array Value} {below : List Frame} {meth : Method} {c : Code} {H : Heap} {locs : List Loc} {ls : Array Slot} {c0 s0 n ci b x : Nat} {av fs : List Value} {T0 : State} (hg : bm_iv M K pc ci n) (hnl : ∃ ix, decode M.2.1 pc = .ok (.invokevirtual ix, 3) ∧ Cond.methodLink M.1.cls ix K.1 ∈ bm_Ts)
    (hn : av.length = n) (hb : h[b]? = some (.inr (ci, fs))) (hst : (st.map fun v => v.category).sum ≤ 8) (hc : bm_Mx G K (.ref b :: av) h x h1)
    (hS : bm_S G M p R s m args meth c) (hr : bm_rep G H h) (hV : va_S (bm_A G) s.heap H locs) (b1 : c0 ≤ h.length) (b2 : s0 ≤ bm_sz h) (b3 : h1.length ≤ c0 + R.cells) (b4 : bm_sz h1 ≤ s0 + R.slots) (b5 : 2 ≤ c0) (b6 : s.heap.size + 2 = bm_B G + c0) (hL : bm_Lc G M.2.2.1 ls L)
    (hT : T0.heap = H) (X : Stand p G.1 e R s m args below meth c T0 locs (h.length - c0) (bm_sz h - s0)) :
    ∃ (T' : State) (Lc : List Loc), Stand p G.1 e R s m args below meth c T' (locs ++ Lc) (h1.length - c0) (bm_sz h1 - s0) ∧ bm_rep G T'.heap h1 ∧ va_S (bm_A G) s.heap T'.heap (locs ++ Lc) ∧
      ∀ target, Steps p.tables e below ((T'.setTop (F0 m pc ls (st.map (bm_v G)))).pushFrame (.throwing (bm_ad G x))) target → Steps p.tables e below (T0.setTop (F0 m pc ls ((av.reverse ++ .ref b :: st).map (bm_v G)))) target := by
  obtain ⟨ix0, hd, hcw, ⟨hk1, hk2, hk3, hk4, hk5⟩, hi, hse, Tt, N, hcl⟩ := hg
  obtain ⟨ix, hd2, hl⟩ := hnl
  have hix : ix0 = ix := by rw [hd] at hd2; cases hd2; rfl
  subst hix
  have hX := X.heapSize
  rw [hT] at hX
  have hz := bm_size hr hV b1 b5 b6 hX
  obtain ⟨z, rfl⟩ := bm_two hr hb
  have a1 := hc.1
  have a2 := hc.2.1
  have hrv := va_recv (bm_SK hS) hr.1 hcl (bm_w_at hb)
  rw [← hT] at hrv
  obtain ⟨mk, vm₁, hnm, hW1, X1, st1⟩ := xt_invV X hS.1 (own := M.1.cls) (C := K.1.cls) (index := ix0) (y := K.1) (bytes := K.2.1) (maxL := K.2.2.1) (ret := K.2.2.2.1) (bm_Sown hS) (bm_Sts hS _ hl) (bm_Sts hS _ hi) (bm_Sts hS _ hse) (bm_Sts hS _ hk1) ⟨hk3.1, hk3.2.1⟩ (b := bm_B G + z) hrv
    (g := F0 m pc ls ((av.reverse ++ .ref (z + 2) :: st).map (bm_v G))) rfl (argsL := av.map (bm_v G)) (rest := st.map (bm_v G)) (fun sig h => by have h2 := hk3.2.2; rw [h] at h2; rw [List.length_map, hn]; exact (Option.some.inj h2).symm) (by show (av.reverse ++ .ref (z + 2) :: st).map (bm_v G) = _; rw [List.map_append, List.map_reverse]; rfl) (by rw [hS.2.1]; exact hd)
  have hPc : bm_Pc G (.ref (z + 2) :: av) h ((Value.ref (z + 2) :: av).map (bm_v G)).toArray (T0.setVm vm₁) := bm_pre (bm_SK hS) (bm_Sold hS) hV hr hz (T0.setVm vm₁) hT hW1
  obtain ⟨T', Lc, X2, hLc, hr2, hF, st2⟩ := xt_back X1 hc hk1 hk2 (bm_Sts hS) (Nat.le_trans hk4 (bm_Sfr hS)) (Nat.le_trans hk5 (bm_Slo hS)) (by omega) (by omega) (g := F0 m pc ls (st.map (bm_v G))) rfl (hL.2.1.trans hS.2.2.1.symm) (by rw [hS.2.1]; exact hd) (lv_room (bm_catL hst)) hnm hPc
  have e3 : h.length - c0 + (h1.length - h.length) = h1.length - c0 := by omega
  have e4 : bm_sz h - s0 + (bm_sz h1 - bm_sz h) = bm_sz h1 - s0 := by omega
  rw [e3, e4] at X2
  have hF1 : T0.heap.size ≤ T'.heap.size := hF.1
  have hF2 : ∀ q, q < T0.heap.size → ¬ bm_A G q → T'.heap[q]? = T0.heap[q]? := hF.2
  rw [hT] at hF1 hF2
  refine ⟨T', Lc, X2, hr2, ⟨Nat.le_trans hV.1 hF1, fun q q1 q2 => ?_, fun q hq => ?_⟩, fun target hs => st1 target (st2.trans hs)⟩
  · rw [hF2 q (Nat.lt_of_lt_of_le q1 hV.1) q2]
    exact hV.2.1 q q1 q2
  · rcases List.mem_append.mp hq with hq | hq
    · exact hV.2.2 q hq
    · exact hLc q hq
theorem bm_callVx {n ci b x : Nat} {av fs : List Value} (hg : bm_iv M K pc ci n) (hnl : ∃ ix, decode M.2.1 pc = .ok (.invokevirtual ix, 3) ∧ Cond.methodLink M.1.cls ix K.1 ∈ bm_Ts) (wc : Cond.code M.1 M.2.1 M.2.2.1 M.2.2.2.1 ∈ bm_Ts)
    (hn : av.length = n) (hb : h[b]? = some (.inr (ci, fs))) (hst : (st.map fun v => v.category).sum ≤ 8) (hc : bm_Mx G K (.ref b :: av) h x h1) (hp : P (.inr x) h1) : bm_W G M pc L (av.reverse ++ .ref b :: st) h P := by
  refine ⟨.inr x, h1, ⟨hc.1, hc.2.1, fun p e R s m args below meth c H locs ls c0 s0 hS hq hL T0 hT X => ?_⟩, hp⟩
  obtain ⟨hr, hV, b1, b2, b3, b4, b5, b6⟩ := hq
  obtain ⟨T', Lc, X2, hr2, hV2, stp⟩ := xt_fromV hg hnl hn hb hst hc hS hr hV b1 b2 b3 b4 b5 b6 hL hT X
  obtain ⟨q1, q2, q3, q4, q5⟩ := X2.leaveThrown (bm_ad G x) (g := F0 m pc ls (st.map (bm_v G))) rfl rfl rfl (xt_noh X2 hS wc _) (bm_Slk hS)
  refine ⟨_, stp _ q1, ?_⟩
  exact ⟨q2, q3, hr2, hV2.F rfl, q4, _, q5, hV2.2.2⟩
/-- a method with two handlers that cover a call, for IllegalArgumentException and IllegalStateException -/
def bm_hw (M : bm_M) (pc p1 p2 : Nat) : Prop := ∃ (s1 e1 t1 s2 e2 t2 : Nat), Cond.codeWith M.1 M.2.1 M.2.2.1 M.2.2.2.1 [(s1, e1, p1, t1), (s2, e2, p2, t2)] ∈ bm_Ts ∧ (s1 ≤ pc ∧ pc < e1) ∧ (s2 ≤ pc ∧ pc < e2) ∧ t1 ≠ 0 ∧ t2 ≠ 0 ∧ Cond.classLink M.1.cls t1 "java/lang/IllegalArgumentException" ∈ bm_Ts ∧ Cond.classLink M.1.cls t2 "java/lang/IllegalStateException" ∈ bm_Ts
theorem xt_two {α β : Type} {l : List α} {f : α → β} {a b : β} (h : l.map f = [a, b]) : ∃ x y, l = [x, y] ∧ f x = a ∧ f y = b := by
  match l, h with
  | [x, y], h => simp at h; exact ⟨x, y, rfl, h.1, h.2⟩
theorem bm_callVc {n ci b x p1 p2 : Nat} {av fs : List Value} (first : Bool) (hg : bm_iv M K pc ci n) (hnl : ∃ ix, decode M.2.1 pc = .ok (.invokevirtual ix, 3) ∧ Cond.methodLink M.1.cls ix K.1 ∈ bm_Ts) (hw : bm_hw M pc p1 p2)
    (hn : av.length = n) (hb : h[b]? = some (.inr (ci, fs))) (hst : (st.map fun v => v.category).sum ≤ 8) (hc : bm_Mx G K (.ref b :: av) h x h1) (hx : h1[x]? = some (.inr (if first then 12 else 13, [])))
    (k : bm_W G M (if first then p1 else p2) L [.ref x] h1 P) : bm_W G M pc L (av.reverse ++ .ref b :: st) h P := by
  refine bm_goH hc.1 hc.2.1 (fun p e R s m args below meth c H locs ls c0 s0 Q hS hr hV b1 b2 b3 b4 b5 b6 hL w T0 hT X => ?_) k
  obtain ⟨T', Lc, X2, hr2, hV2, stp⟩ := xt_fromV hg hnl hn hb hst hc hS hr hV b1 b2 b3 b4 b5 b6 hL hT X
  obtain ⟨s1, e1, t1, s2, e2, t2, w1, w2, w3, w4, w5, w6, w7⟩ := hw
  obtain ⟨m', meth', c', g1, g2, g3, -, -, g4, -⟩ := Cond.codeWith_spec (bm_Sts hS _ w1)
  cases (bm_Snamed hS).symm.trans g1
  cases X2.method.symm.trans g2
  cases X2.code.symm.trans g3
  obtain ⟨x1, x2, htb, hx1, hx2⟩ := xt_two g4
  simp only [Prod.mk.injEq] at hx1 hx2
  obtain ⟨r1, r2, r3, r4⟩ := hx1
  obtain ⟨r5, r6, r7, r8⟩ := hx2
  obtain ⟨z, rfl⟩ := bm_two hr2 hx
  have hcl : bm_cl[if first then 12 else 13]? = some (if first then "java/lang/IllegalArgumentException" else "java/lang/IllegalStateException", tT_0, 0) := by cases first <;> rfl
  obtain ⟨cell, hcell, hobj, hfc⟩ := va_recv (bm_SK hS) hr2.1 hcl (bm_w_at hx)
  have hA : va_Nw (.castable "java/lang/IllegalArgumentException" "java/lang/IllegalArgumentException") s := (bm_Sold hS).2.2.2.1 _ (by decide +kernel)
  have hB : va_Nw (.castable "java/lang/IllegalStateException" "java/lang/IllegalStateException") s := (bm_Sold hS).2.2.2.1 _ (by decide +kernel)
  obtain ⟨a3, a4, hc3, hc4, hasg⟩ := Cond.castable_spec hA
  obtain ⟨a5, a6, hc5, hc6, hasg2⟩ := Cond.castable_spec hB
  obtain ⟨a7, a8, hc7, hc8, hno⟩ := (bm_Sold hS).2.2.2.2.2.2.2
  obtain ⟨vm', X3, st3⟩ := xt_catch X2 (a := bm_B G + z) (g := F0 m pc ls (st.map (bm_v G))) rfl (own := M.1.cls) (C1 := "java/lang/IllegalArgumentException") (C2 := "java/lang/IllegalStateException") (bm_Sown hS) htb
    (by simp [covers, r1, r2, w2]) (by simp [covers, r5, r6, w3]) (by rw [r4]; exact w4) (by rw [r8]; exact w5) (by rw [r4]; exact bm_Sts hS _ w6) (by rw [r8]; exact bm_Sts hS _ w7) hcell hobj hfc (first := first)
    (by
      cases first with
      | true =>
        cases hc3.symm.trans hfc
        exact ⟨a4, hc4, hasg⟩
      | false =>
        cases hc7.symm.trans hfc
        cases hc5.symm.trans hc7
        exact ⟨⟨a8, hc8, hno⟩, a6, hc6, hasg2⟩)
  obtain ⟨t, q1, q2⟩ := w T'.heap (locs ++ Lc) hr2 hV2 (T'.setVm vm') rfl X3
  refine ⟨t, stp t (st3 t ?_), q2⟩
  cases first with
  | true => rw [if_pos rfl] at q1 ⊢; rw [r3]; exact q1
  | false => rw [if_neg (by decide)] at q1 ⊢; rw [r7]; exact q1
end XT5
