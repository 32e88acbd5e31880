section XT
variable {p : Program} {l : Launch} {e : Env} {R : Room} {s : State} {m : MethodId} {args : Array Value} {below : List Frame} {meth : Method} {c : Code} {T : State} {locs : List Loc} {cells slots : Nat}
theorem xt_hears {a b : State} (h : ∀ m', b.vm.method? m' = a.vm.method? m') (ha : a.hears m below = true) : b.hears m below = true := by
  have hc : ∀ m', b.code? m' = a.code? m' := fun m' => by rw [State.code?_eq, State.code?_eq, h]
  unfold State.hears at ha ⊢
  split at ha
  · next g r => rw [hc]; exact ha
  · rfl
  · rfl
  · rw [h]; exact ha
/-- the walk, as one that begins here -/
theorem xt_rebase (X : Stand p l e R s m args below meth c T locs cells slots) (hc : cells ≤ R.cells) (hs : slots ≤ R.slots) :
    Stand p l e { frames := R.frames, cells := R.cells - cells, slots := R.slots - slots, locals := R.locals } (T.setFrames (.invoking m args :: below)) m args below meth c T [] 0 0 := by
  obtain ⟨g₀, hg⟩ := X.frames_eq
  have hcur : T.cur < T.threads.size := State.cur_lt_of_frames hg
  have hf : (T.setFrames (.invoking m args :: below)).frames = .invoking m args :: below := State.frames_setFrames _ hcur
  have hm : (T.setFrames (.invoking m args :: below)).vm.method? m = some meth := X.method'
  obtain ⟨th, hth, -⟩ := State.frames_cons hg
  have hlim : e.platform.stackLimits (T.setFrames (.invoking m args :: below)).me = e.platform.stackLimits s.me := by rw [State.stackLimits_setFrames]; exact X.limits
  have hby : (T.setFrames (.invoking m args :: below)).me.stackBytes = s.me.stackBytes := by rw [State.stackBytes_setFrames]; exact X.bytes
  have hloc : (T.setFrames (.invoking m args :: below)).localsInUse = s.localsInUse := by rw [State.localsInUse_invoking hf hm X.code, State.localsInUse_invoking X.frames X.method X.code]
  have hroom := X.room
  have h1 := X.heapSize
  have h2 := X.used
  have hb := X.book
  simp only [State.hasRoom, Bool.and_eq_true, decide_eq_true_eq] at hroom
  obtain ⟨⟨⟨⟨r0, r1, r2, r3, r4, r5⟩, r6⟩, r7⟩, r8⟩ := hroom
  refine ⟨X.admits, X.cas, X.clock, hf, ?_, xt_hears (fun m' => X.warmed.alike.method? m') X.hears, hm, X.code, X.here, X.tail, State.WarmedH.refl _, by rw [State.stackLimits_setFrames], by rw [State.stackBytes_setFrames], ?_⟩
  · simp only [State.hasRoom, Bool.and_eq_true, decide_eq_true_eq]
    rw [hloc, hlim, hf, hby, ← X.frames]
    refine ⟨⟨⟨⟨r0, r1, r2, r3, r4, r5⟩, ?_⟩, ?_⟩, hb⟩
    · show T.heap.size + (R.cells - cells) ≤ _
      omega
    · show T.slotsUsed + (R.slots - slots) ≤ _
      omega
  · refine ⟨?_, Nat.le_refl _, Nat.le_refl _, ?_, ?_, ?_⟩
    · show T = { (T.setFrames (.invoking m args :: below)).setFrames T.frames with heap := T.heap, slotsUsed := T.slotsUsed }
      rw [State.setFrames_setFrames, State.setFrames_self hth]
    · show T.slotsUsed = T.slotsUsed + ((T.heap.toList.drop T.heap.size).map (·.slots.size)).sum
      rw [List.drop_eq_nil_of_le (by simp)]
      rfl
    · show ((T.heap.toList.drop T.heap.size).map (·.slots.size)).sum ≤ 0
      rw [List.drop_eq_nil_of_le (by simp)]
      exact Nat.le_refl _
    · exact fun a c hc => ⟨c, hc, rfl, rfl, fun _ _ => rfl⟩
/-- what a method throws -/
def xt_atoms (own : String) (ic : Nat) (X : String) : List Cond := Bundle.ownAtoms own ic X ["java/lang/RuntimeException", "java/lang/Exception"]
def xt_four : List Cond := [.laysStatic "java/lang/Throwable" "UNASSIGNED_STACK" "[Ljava/lang/StackTraceElement;", .isRef (.static "java/lang/Throwable" "UNASSIGNED_STACK" "[Ljava/lang/StackTraceElement;"), .laysStatic "java/lang/Throwable" "SUPPRESSED_SENTINEL" "Ljava/util/List;", .isRef (.static "java/lang/Throwable" "SUPPRESSED_SENTINEL" "Ljava/util/List;")]
theorem xt_hold {G : bm_G} {own X : String} {ic : Nat} {U : State} {av : Array Value} (hin : ∀ a ∈ xt_atoms own ic X, a ∈ bm_Ts ∨ a ∈ bm_Nx ∨ a ∈ xt_four) (hts : ∀ w ∈ bm_Ts, w.before av U = true) (ho : bm_old G U U.heap) : ∀ a ∈ xt_atoms own ic X, a.before av U = true := by
  intro a ha
  rcases hin a ha with h | h | h
  · exact hts a h
  · have h1 := ho.2.2.2.1 a h
    simp only [bm_Nx, List.mem_cons, List.not_mem_nil, or_false] at h
    rcases h with rfl | rfl | rfl | rfl | rfl | rfl | rfl | rfl | rfl | rfl | rfl | rfl | rfl | rfl | rfl | rfl | rfl | rfl | rfl | rfl | rfl | rfl | rfl <;> first | exact va_Nw.use rfl h1 | exact va_AO.use h1
  · simp only [xt_four, List.mem_cons, List.not_mem_nil, or_false] at h
    rcases h with rfl | rfl | rfl | rfl
    · exact ho.2.2.2.2.1.use.1
    · exact ho.2.2.2.2.1.use.2
    · exact ho.2.2.2.2.2.1.use.1
    · exact ho.2.2.2.2.2.1.use.2
theorem xt_eq {a : State} {b : State} {k n : Nat} (h : a.sameButNew b [] k n) {q : Nat} (hq : q < a.heap.size) : b.heap[q]? = a.heap[q]? := by
  rw [Array.getElem?_eq_getElem hq]
  exact h.old_cell (Array.getElem?_eq_getElem hq)
end XT
