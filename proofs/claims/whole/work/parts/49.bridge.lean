/-! from the law's start to the bm layer -/
theorem br_arr {args : Array Value} {s : State} {t : Term} {ty : FieldType} (h : (Cond.arrayOf t ty).before args s = true) : ∃ (a : Addr) (cell : Cell), t.eval args s none [] s = some (.ref a) ∧ s.heap[a]? = some cell := by
  simp only [Cond.before, Cond.holds, Cond.value] at h
  cases he : t.eval args s none [] s with
  | none => simp [he] at h
  | some v =>
    cases v with
    | ref a =>
      cases hc : s.heap[a]? with
      | none => simp [he, hc] at h
      | some cell => exact ⟨a, cell, rfl, hc⟩
    | _ => simp [he] at h
theorem br_K {s : State} {args : Array Value} (hts : ∀ w ∈ bm_Ts, w.before args s = true) : ∃ D : va_G, ∀ (c : Nat) (q : vw_C), bm_cl[c]? = some q → u_Kn s q.1 q.2.1 q.2.2 (D.1 c) (D.2 c) := by
  have key : ∀ c : Nat, ∃ w : ClassId × (Nat → Nat), ∀ q, bm_cl[c]? = some q → u_Kn s q.1 q.2.1 q.2.2 w.1 w.2 := by
    intro c
    cases e : bm_cl[c]? with
    | none => exact ⟨(0, fun _ => 0), fun q hq => by cases hq⟩
    | some q0 =>
      have h : ∃ (cC : ClassId) (iS : Nat → Nat), u_Kn s q0.1 q0.2.1 q0.2.2 cC iS := by
        have hm : q0 ∈ bm_cl := List.mem_of_getElem? e
        simp only [bm_cl, List.mem_cons, List.not_mem_nil, or_false] at hm
        rcases hm with rfl | rfl | rfl | rfl | rfl | rfl | rfl | rfl | rfl | rfl | rfl | rfl | rfl | rfl
        · exact u_known hts uw_H (hts _ ic_BatchHall)
        · exact u_known hts uw_B (hts _ ic_BatchHall_Batch)
        · exact u_known hts uw_F (hts _ ic_BatchHall_Floor)
        · exact u_known hts uw_L (hts _ ic_BatchHall_Lot)
        · exact u_known hts uw_K (hts _ ic_BatchHall_LotBook)
        · exact u_known hts uw_V (hts _ ic_BatchHall_Mover)
        · exact u_known hts uw_R (hts _ ic_BatchHall_Recipe)
        · exact u_known hts uw_C (hts _ ic_BatchHall_ReleaseCheck)
        · exact u_known hts uw_S (hts _ ic_BatchHall_Step)
        · exact u_known hts uw_T (hts _ ic_BatchHall_Token)
        · exact u_known hts uw_U (hts _ ic_BatchHall_Unit)
        · exact u_known hts uw_M (hts _ ic_BatchHallModel)
        · exact u_known hts (fun w hw => by cases hw) (hts _ ic_X_12)
        · exact u_known hts (fun w hw => by cases hw) (hts _ ic_X_13)
      obtain ⟨cC, iS, h⟩ := h
      exact ⟨(cC, iS), fun q hq => by cases hq; exact h⟩
  obtain ⟨f, hf⟩ := Classical.skolem.mp key
  exact ⟨(fun c => (f c).1, fun c => (f c).2), fun c q hq => hf c q hq⟩
theorem br_A {s : State} {args : Array Value} (hts : ∀ w ∈ bm_Ts, w.before args s = true) (hnx : ∀ w ∈ bm_Nx, w.before args s = true) : ∃ cA : Nat → ClassId, ∀ (t : Nat) (ty : FieldType), bm_ft[t]? = some ty → ArrOfT s (cA t) ty ∧ va_RA s (cA t) ty := by
  have key : ∀ t : Nat, ∃ cA : ClassId, ∀ ty, bm_ft[t]? = some ty → ArrOfT s cA ty ∧ va_RA s cA ty := by
    intro t
    cases e : bm_ft[t]? with
    | none => exact ⟨0, fun q hq => by cases hq⟩
    | some ty0 =>
      have hp : ∀ ty, (Cond.arrayClass ty).before args s = true → (∀ C, ty ≠ .object C) → ∃ cA : ClassId, ArrOfT s cA ty ∧ va_RA s cA ty := by
        intro ty h hne
        obtain ⟨c, k, comp, h1, h2, h3⟩ := Cond.arrayClass_spec h
        refine ⟨c, fun n z => ⟨fun k hk => ?_, k, h2, comp, h3⟩, ?_⟩
        · cases hk
        · cases ty with
          | object C => exact absurd rfl (hne C)
          | _ => exact h1
      have ho : ∀ C, (Cond.arrayOver (.object C)).before args s = true → ∃ cA : ClassId, ArrOfT s cA (.object C) ∧ va_RA s cA (.object C) := by
        intro C h
        obtain ⟨comp, c, k, h1, h2, h3, h4, h5⟩ := Cond.arrayOver_spec h
        exact ⟨c, fun n z => ⟨fun k hk => (by cases hk), k, h3, comp, h4⟩, k, comp, h3, h4, h1, h5⟩
      have h : ∃ cA : ClassId, ArrOfT s cA ty0 ∧ va_RA s cA ty0 := by
        have hm : ty0 ∈ bm_ft := List.mem_of_getElem? e
        simp only [bm_ft, List.mem_cons, List.not_mem_nil, or_false] at hm
        rcases hm with rfl | rfl | rfl | rfl | rfl | rfl | rfl | rfl | rfl
        · exact hp _ (hts _ ac_int) (fun C q => by cases q)
        · exact hp _ (hts _ ac_boolean) (fun C q => by cases q)
        · exact hp _ (hts _ ac_long) (fun C q => by cases q)
        all_goals exact ho _ (hnx _ (by decide +kernel))
      obtain ⟨cA, h⟩ := h
      exact ⟨cA, fun q hq => by cases hq; exact h⟩
  exact Classical.skolem.mp key
theorem br_old {s : State} {args : Array Value} {b L : Nat} {xs : Nat → Int32} (htb : ∀ w ∈ lw_tbl, w.before args s = true) (hX : va_X b L xs s s.heap) (hL : L ≤ 3072) (hgv : (Jvm.Cond.and given_1 narrow_1).before args s = true) :
    ∃ a0 : Nat, ∀ G : bm_G, bm_B G = s.heap.size → bm_a0 G = a0 → bm_a1 G = b → bm_xl G = L → bm_xs G = xs → bm_old G s s.heap := by
  have hs := flat_of_before _ hgv
  have h1 : (Cond.arrayOf (.static "BatchHall" "NO_PARTS" "[I") .int).before args s = true := hs _ (by decide +kernel)
  have h2 : (Cond.eq (.length (.static "BatchHall" "NO_PARTS" "[I")) (.int 0)).before args s = true := hs _ (by decide +kernel)
  obtain ⟨a0, cell, e1, e2⟩ := br_arr h1
  have hof := Cond.arrayOf_spec h1 e1 e2
  have hin : ∀ a : Nat, a < s.heap.size → ¬ s.heap.size ≤ a := fun a ha => by omega
  have hlen : (cell.slots.size.toInt32 = Int32.ofNat 0) := by
    cases he : (Term.length (.static "BatchHall" "NO_PARTS" "[I")).eval args s none [] s with
    | none =>
      exfalso
      simp only [Cond.before, Cond.holds, Cond.value, he] at h2
      simp at h2
    | some v =>
      obtain ⟨a1, cell1, f1, f2, f3⟩ := Term.length_spec he
      cases f1.symm.trans e1
      cases (State.arrayAt?_spec f2).1.symm.trans e2
      subst f3
      have hv := Cond.eq_ints he (show (Term.int 0).eval args s none [] s = some (.int 0) from rfl)
      simpa [Cond.before, Cond.holds, hv] using h2
  refine ⟨a0, fun G g1 g2 g3 g4 g5 => ⟨?_, ?_, ?_, ?_, ?_⟩⟩
  · have := va_Zref (A := bm_A G) (htb (.laysStatic "BatchHall" "NO_PARTS" "[I") (by decide +kernel)) (htb (.initialized "BatchHall") (by decide +kernel)) e1 (fun a ha => by show ¬ bm_B G ≤ a; rw [g1]; exact hin a ha)
    rw [g2]; exact this
  · rw [g2]
    exact ⟨cell, e2, hof.1, hof.2, Nat.zero_le _, hlen, fun j hj => absurd hj (Nat.not_lt_zero _), by show ¬ bm_B G ≤ a0; rw [g1]; exact hin a0 (Array.getElem?_eq_some_iff.mp e2).1⟩
  · rw [g3, g4, g5]
    obtain ⟨scr, q1, q2, q3, q4, q5⟩ := hX
    exact ⟨scr, q1, q2, q3, by omega, by rw [q4], q5, by show ¬ bm_B G ≤ b; rw [g1]; exact hin b (Array.getElem?_eq_some_iff.mp q1).1⟩
  · intro w hw
    have hb := htb w (bm_Nx_in w hw)
    simp only [bm_Nx, List.mem_cons, List.not_mem_nil, or_false] at hw
    rcases hw with rfl | rfl | rfl | rfl | rfl | rfl | rfl | rfl | rfl | rfl | rfl | rfl | rfl | rfl | rfl | rfl | rfl | rfl | rfl | rfl | rfl | rfl | rfl <;> first | exact va_Nw.of rfl hb | exact va_AO.of hb
  · have hA : ∀ a : Nat, a < s.heap.size → ¬ bm_A G a := fun a ha => by show ¬ bm_B G ≤ a; rw [g1]; exact hin a ha
    refine ⟨xt_Z.of (htb _ (by decide +kernel)) (hs _ (by decide +kernel)) hA, xt_Z.of (htb _ (by decide +kernel)) (hs _ (by decide +kernel)) hA, ?_, va_Nc.of (hs _ (by decide +kernel))⟩
    intro q hq
    have hw : (Cond.stringRef "BatchHall" q.1 q.2).before args s = true := by
      simp only [bm_sx, List.mem_cons, List.not_mem_nil, or_false] at hq
      rcases hq with rfl | rfl | rfl | rfl | rfl | rfl | rfl | rfl | rfl | rfl <;> exact htb _ (by decide +kernel)
    obtain ⟨cC, iS, hk⟩ := u_known (C := "BatchHall") (T := tT_H) (N := 7) (ws := lw_tbl) htb (fun w hw => (List.mem_filter.mp (uw_H w hw)).1) (htb _ (List.mem_filter.mp ic_BatchHall).1)
    obtain ⟨k, cf, i, a, -, -, -, -, -, e⟩ := Cond.stringRef_spec hk.2.1 hw
    exact ⟨a, vk_R.of hw e⟩
