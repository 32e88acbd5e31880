section BM2
variable {G : bm_G} {M : bm_M} {pc : Nat} {L L' : bm_L} {st : List Value} {h h1 : bm_H} {P : bm_R → bm_H → Prop}
/-! stores into locals -/
def bm_ll (G : bm_G) (L : bm_L) : List (Nat × Value) := (List.range L.length).filterMap (fun j => match L[j]? with
  | some (some v) => some (j, bm_v G v)
  | _ => none)
theorem bm_ll_mem {q : Nat × Value} : q ∈ bm_ll G L ↔ ∃ v, L[q.1]? = some (some v) ∧ q.2 = bm_v G v := by
  unfold bm_ll
  rw [List.mem_filterMap]
  constructor
  · rintro ⟨j, -, hj⟩
    split at hj
    · next v hv => cases hj; exact ⟨v, hv, rfl⟩
    · cases hj
  · rintro ⟨v, hv, e⟩
    refine ⟨q.1, List.mem_range.mpr (List.getElem?_eq_some_iff.mp hv).1, ?_⟩
    rw [hv]
    show some (q.1, bm_v G v) = some q
    rw [← e]
theorem bm_has {n : Nat} {ls : Array Slot} (hL : bm_Lc G n ls L) : lv_has ls n (bm_ll G L) := by
  refine ⟨hL.2.1, hL.2.2.1, fun q hq => ?_⟩
  obtain ⟨v, hv, e⟩ := bm_ll_mem.mp hq
  rw [e]
  exact (hL.2.2.2 _ _ hv).2
theorem bm_stored {n i : Nat} {v : Value} {ls ls' : Array Slot} (hL : bm_Lc G n ls L) (hv : v.category = 1)
    (h' : lv_has ls' n ((i, bm_v G v) :: (bm_ll G L).filter (fun q => !(q.1 == i) && !(q.1 + 1 == i && q.2.category == 2)))) : bm_Lc G n ls' (L.set i (some v)) := by
  refine ⟨by rw [List.length_set]; exact hL.1, h'.1, h'.2.1, fun j w hj => ?_⟩
  rw [List.getElem?_set] at hj
  split at hj
  · next e =>
    split at hj
    · cases hj
      subst e
      exact ⟨hv, h'.2.2 (i, bm_v G v) List.mem_cons_self⟩
    · cases hj
  · next e =>
    have hc := (hL.2.2.2 j w hj).1
    refine ⟨hc, h'.2.2 (j, bm_v G w) (List.mem_cons_of_mem _ (List.mem_filter.mpr ⟨bm_ll_mem.mpr ⟨w, hj, rfl⟩, ?_⟩))⟩
    have e' : (j == i) = false := by simpa using fun q => e q.symm
    have e2 : ((bm_v G w).category == 2) = false := by rw [bm_cat, hc]; rfl
    simp [e', e2]
theorem bm_goL {pc' : Nat} {st' : List Value}
    (step : ∀ (p : Program) (e : Env) (R : Room) (s : State) (m : MethodId) (args : Array Value) (below : List Frame) (meth : Method) (c : Code) (H : Heap) (locs : List Loc) (ls : Array Slot) (k n : Nat) (Q : State → Prop), bm_S G M p R s m args meth c → bm_Lc G M.2.2.1 ls L →
      (∀ ls' : Array Slot, bm_Lc G M.2.2.1 ls' L' → W p G.1 e R s m args below meth c H locs k n Q (F0 m pc' ls' (st'.map (bm_v G)))) → W p G.1 e R s m args below meth c H locs k n Q (F0 m pc ls (st.map (bm_v G))))
    (k : bm_W G M pc' L' st' h P) : bm_W G M pc L st h P := by
  obtain ⟨r, hf, ⟨h1, h2, h3⟩, hP⟩ := k
  exact ⟨r, hf, ⟨h1, h2, fun p e R s m args below meth c H locs ls c0 s0 hS hp hl => step p e R s m args below meth c H locs ls _ _ _ hS hl (fun ls' hl' => h3 p e R s m args below meth c H locs ls' c0 s0 hS hp hl')⟩, hP⟩
theorem bm_istore_n {n : Fin 4} {x : Int32} (hd : decode M.2.1 pc = .ok (.istore_n n, 1)) (hn : (n : Nat) < M.2.2.1) (k : bm_W G M (pc + 1) (L.set n (some (.int x))) st h P) : bm_W G M pc L (.int x :: st) h P :=
  bm_goL (fun _ _ _ _ _ _ _ _ _ _ _ _ _ _ _ hS hL w => lv_istore_n hS.1 hS.2.1 hd rfl (bm_has hL) hn rfl (fun ls' h' => w ls' (bm_stored (v := .int x) hL rfl h'))) k
theorem bm_istore {i : Nat} {x : Int32} (hd : decode M.2.1 pc = .ok (.istore i, 2)) (hn : i < M.2.2.1) (k : bm_W G M (pc + 2) (L.set i (some (.int x))) st h P) : bm_W G M pc L (.int x :: st) h P :=
  bm_goL (fun _ _ _ _ _ _ _ _ _ _ _ _ _ _ _ hS hL w => lv_istore hS.1 hS.2.1 hd (bm_has hL) hn rfl (fun ls' h' => w ls' (bm_stored (v := .int x) hL rfl h'))) k
theorem bm_astore_n {n : Fin 4} {x : Nat} (hd : decode M.2.1 pc = .ok (.astore_n n, 1)) (hn : (n : Nat) < M.2.2.1) (k : bm_W G M (pc + 1) (L.set n (some (.ref x))) st h P) : bm_W G M pc L (.ref x :: st) h P :=
  bm_goL (fun _ _ _ _ _ _ _ _ _ _ _ _ _ _ _ hS hL w => lv_astore_n hS.1 hS.2.1 hd rfl (bm_has hL) hn rfl (fun ls' h' => w ls' (bm_stored (v := .ref x) hL rfl h'))) k
theorem bm_astore {i : Nat} {x : Nat} (hd : decode M.2.1 pc = .ok (.astore i, 2)) (hn : i < M.2.2.1) (k : bm_W G M (pc + 2) (L.set i (some (.ref x))) st h P) : bm_W G M pc L (.ref x :: st) h P :=
  bm_goL (fun _ _ _ _ _ _ _ _ _ _ _ _ _ _ _ hS hL w => lv_astore hS.1 hS.2.1 hd (bm_has hL) hn rfl (fun ls' h' => w ls' (bm_stored (v := .ref x) hL rfl h'))) k
theorem bm_astore_nN {n : Fin 4} (hd : decode M.2.1 pc = .ok (.astore_n n, 1)) (hn : (n : Nat) < M.2.2.1) (k : bm_W G M (pc + 1) (L.set n (some .null)) st h P) : bm_W G M pc L (.null :: st) h P :=
  bm_goL (fun _ _ _ _ _ _ _ _ _ _ _ _ _ _ _ hS hL w => lv_astore_nN hS.1 hS.2.1 hd rfl (bm_has hL) hn rfl (fun ls' h' => w ls' (bm_stored (v := .null) hL rfl h'))) k
theorem bm_astoreN {i : Nat} (hd : decode M.2.1 pc = .ok (.astore i, 2)) (hn : i < M.2.2.1) (k : bm_W G M (pc + 2) (L.set i (some .null)) st h P) : bm_W G M pc L (.null :: st) h P :=
  bm_goL (fun _ _ _ _ _ _ _ _ _ _ _ _ _ _ _ hS hL w => lv_astoreN hS.1 hS.2.1 hd (bm_has hL) hn rfl (fun ls' h' => w ls' (bm_stored (v := .null) hL rfl h'))) k
theorem bm_iinc {i : Nat} {n : Int} {x : Int32} (hd : decode M.2.1 pc = .ok (.iinc i n, 3)) (hn : i < M.2.2.1) (hl : L[i]? = some (some (.int x))) (k : bm_W G M (pc + 3) (L.set i (some (.int (x + Int32.ofInt n)))) st h P) : bm_W G M pc L st h P :=
  bm_goL (fun _ _ _ _ _ _ _ _ _ _ _ _ _ _ _ hS hL w => by
    obtain ⟨k, hk⟩ := List.getElem?_of_mem (bm_ll_mem.mpr ⟨_, hl, rfl⟩ : (i, bm_v G (.int x)) ∈ bm_ll G L)
    exact lv_iinc hS.1 hS.2.1 hd (bm_has hL) hk rfl hn rfl (fun ls' h' => w ls' (bm_stored (v := .int (x + Int32.ofInt n)) hL rfl h'))) k
/-! the world of a heap -/
theorem bm_w_get {k : Nat} : (bm_w G h)[k]? = (h[k + 2]?).map (fun c => (bm_B G + k, bm_c G c)) := by
  unfold bm_w
  rw [List.getElem?_mapIdx, List.getElem?_drop, Nat.add_comm 2 k]
theorem bm_w_at {k : Nat} {c : bm_C} (hk : h[k + 2]? = some c) : (bm_w G h)[k]? = some (bm_B G + k, bm_c G c) := by rw [bm_w_get, hk]; rfl
theorem bm_w_fst {k : Nat} {q : Nat × va_E} (hk : (bm_w G h)[k]? = some q) : q.1 = bm_B G + k := by
  rw [bm_w_get] at hk
  cases hc : h[k + 2]? with
  | none => rw [hc] at hk; cases hk
  | some c => rw [hc] at hk; cases hk; rfl
theorem bm_w_D : va_D (bm_A G) (bm_w G h) :=
  ⟨fun i j p q hp hq e => by have := bm_w_fst hp; have := bm_w_fst hq; omega, fun k q hk => by rw [bm_w_fst hk]; exact Nat.le_add_right _ _⟩
theorem bm_w_set {k : Nat} {c : bm_C} : bm_w G (h.set (k + 2) c) = (bm_w G h).set k (bm_B G + k, bm_c G c) := by
  apply List.ext_getElem?
  intro j
  rw [bm_w_get, List.getElem?_set, List.getElem?_set]
  have hl : (bm_w G h).length = h.length - 2 := by unfold bm_w; rw [List.length_mapIdx, List.length_drop]
  by_cases e : k = j
  · subst e
    rw [if_pos rfl, if_pos rfl, hl]
    by_cases hk : k + 2 < h.length
    · rw [if_pos hk, if_pos (by omega)]; rfl
    · rw [if_neg hk, if_neg (by omega)]; rfl
  · rw [if_neg (by omega), if_neg e, bm_w_get]
theorem bm_w_len : (bm_w G h).length = h.length - 2 := by unfold bm_w; rw [List.length_mapIdx, List.length_drop]
theorem bm_w_push {c : bm_C} (h2 : 2 ≤ h.length) : bm_w G (h ++ [c]) = bm_w G h ++ [(bm_B G + (h.length - 2), bm_c G c)] := by
  apply List.ext_getElem?
  intro j
  rw [bm_w_get]
  by_cases hj : j + 2 < h.length
  · rw [List.getElem?_append_left hj, List.getElem?_append_left (by rw [bm_w_len]; omega), bm_w_get]
  · rw [List.getElem?_append_right (by omega), List.getElem?_append_right (by rw [bm_w_len]; omega), bm_w_len]
    by_cases e : j + 2 = h.length
    · have e1 : j + 2 - h.length = 0 := by omega
      have e2 : j - (h.length - 2) = 0 := by omega
      have e3 : j = h.length - 2 := by omega
      rw [e1, e2]
      simp [e3]
    · obtain ⟨z, hz⟩ : ∃ z, j + 2 - h.length = z + 1 := ⟨j + 2 - h.length - 1, by omega⟩
      have e2 : j - (h.length - 2) = z + 1 := by omega
      rw [hz, e2]
      rfl
theorem bm_two {i : Nat} {o : Nat × List Value} {H : Heap} (hr : bm_rep G H h) (hi : h[i]? = some (.inr o)) : ∃ k, i = k + 2 := by
  match i, hi with
  | 0, hi => rw [hr.2.1] at hi; cases hi
  | 1, hi => rw [hr.2.2] at hi; cases hi
  | k + 2, _ => exact ⟨k, rfl⟩
theorem bm_h2 {H : Heap} (hr : bm_rep G H h) : 2 ≤ h.length := (List.getElem?_eq_some_iff.mp hr.2.2).1
theorem bm_rep_set {H H1 : Heap} {k : Nat} {c : bm_C} (hr : bm_rep G H h) (hP : va_P (bm_D G) bm_cl ((bm_w G h).set k (bm_B G + k, bm_c G c)) H1) : bm_rep G H1 (h.set (k + 2) c) := by
  refine ⟨by rw [bm_w_set]; exact hP, ?_, ?_⟩
  · rw [List.getElem?_set, if_neg (by omega)]; exact hr.2.1
  · rw [List.getElem?_set, if_neg (by omega)]; exact hr.2.2
theorem bm_rep_push {H H1 : Heap} {q : Nat} {c : bm_C} (hr : bm_rep G H h) (hq : q = bm_B G + (h.length - 2)) (hP : va_P (bm_D G) bm_cl (bm_w G h ++ [(q, bm_c G c)]) H1) : bm_rep G H1 (h ++ [c]) := by
  subst hq
  have h2 := bm_h2 hr
  refine ⟨by rw [bm_w_push h2]; exact hP, ?_, ?_⟩
  · rw [List.getElem?_append_left (by omega)]; exact hr.2.1
  · rw [List.getElem?_append_left (by omega)]; exact hr.2.2
theorem bm_goH {pc' : Nat} {st' : List Value} (e1 : h.length ≤ h1.length) (e2 : bm_sz h ≤ bm_sz h1)
    (step : ∀ (p : Program) (e : Env) (R : Room) (s : State) (m : MethodId) (args : Array Value) (below : List Frame) (meth : Method) (c : Code) (H : Heap) (locs : List Loc) (ls : Array Slot) (c0 s0 : Nat) (Q : State → Prop), bm_S G M p R s m args meth c → bm_rep G H h → va_S (bm_A G) s.heap H locs → c0 ≤ h.length → s0 ≤ bm_sz h → h1.length ≤ c0 + R.cells → bm_sz h1 ≤ s0 + R.slots → 2 ≤ c0 → s.heap.size + 2 = bm_B G + c0 → bm_Lc G M.2.2.1 ls L →
      (∀ (H1 : Heap) (locs1 : List Loc), bm_rep G H1 h1 → va_S (bm_A G) s.heap H1 locs1 → W p G.1 e R s m args below meth c H1 locs1 (h1.length - c0) (bm_sz h1 - s0) Q (F0 m pc' ls (st'.map (bm_v G)))) → W p G.1 e R s m args below meth c H locs (h.length - c0) (bm_sz h - s0) Q (F0 m pc ls (st.map (bm_v G))))
    (k : bm_W G M pc' L st' h1 P) : bm_W G M pc L st h P := by
  obtain ⟨r, hf, ⟨a1, a2, a3⟩, hP⟩ := k
  exact ⟨r, hf, ⟨Nat.le_trans e1 a1, Nat.le_trans e2 a2, fun p e R s m args below meth c H locs ls c0 s0 hS hp hl => step p e R s m args below meth c H locs ls c0 s0 _ hS hp.1 hp.2.1 hp.2.2.1 hp.2.2.2.1 (Nat.le_trans a1 hp.2.2.2.2.1) (Nat.le_trans a2 hp.2.2.2.2.2.1) hp.2.2.2.2.2.2.1 hp.2.2.2.2.2.2.2 hl
    (fun H1 locs1 r1 s1 => a3 p e R s m args below meth c H1 locs1 ls c0 s0 hS ⟨r1, s1, Nat.le_trans hp.2.2.1 e1, Nat.le_trans hp.2.2.2.1 e2, hp.2.2.2.2.1, hp.2.2.2.2.2.1, hp.2.2.2.2.2.2.1, hp.2.2.2.2.2.2.2⟩ hl)⟩, hP⟩
theorem bm_sz_set {i : Nat} {c c' : bm_C} (hi : h[i]? = some c) (hs : bm_s c' = bm_s c) : bm_sz (h.set i c') = bm_sz h := by
  unfold bm_sz
  rw [List.map_set]
  congr 1
  apply List.ext_getElem?
  intro j
  rw [List.getElem?_set, List.length_map]
  by_cases e : i = j
  · subst e
    rw [if_pos rfl, if_pos (List.getElem?_eq_some_iff.mp hi).1, List.getElem?_map, hi, hs]; rfl
  · rw [if_neg e]
theorem bm_sz_push {c : bm_C} : bm_sz (h ++ [c]) = bm_sz h + bm_s c := by simp [bm_sz]
/-- the same, where a cell is written -/
theorem bm_goS {pc' i : Nat} {st' : List Value} {c0 c1 : bm_C} (hi : h[i]? = some c0) (hs : bm_s c1 = bm_s c0)
    (step : ∀ (p : Program) (e : Env) (R : Room) (s : State) (m : MethodId) (args : Array Value) (below : List Frame) (meth : Method) (c : Code) (H : Heap) (locs : List Loc) (ls : Array Slot) (k n : Nat) (Q : State → Prop), bm_S G M p R s m args meth c → bm_rep G H h → va_S (bm_A G) s.heap H locs →
      (∀ (H1 : Heap) (locs1 : List Loc), bm_rep G H1 (h.set i c1) → va_S (bm_A G) s.heap H1 locs1 → W p G.1 e R s m args below meth c H1 locs1 k n Q (F0 m pc' ls (st'.map (bm_v G)))) → W p G.1 e R s m args below meth c H locs k n Q (F0 m pc ls (st.map (bm_v G))))
    (k : bm_W G M pc' L st' (h.set i c1) P) : bm_W G M pc L st h P := by
  have e1 : (h.set i c1).length = h.length := List.length_set
  have e2 : bm_sz (h.set i c1) = bm_sz h := bm_sz_set hi hs
  refine bm_goH (by rw [e1]; exact Nat.le_refl _) (by rw [e2]; exact Nat.le_refl _) (fun p e R s m args below meth c H locs ls c0 s0 Q hS hr hv _ _ _ _ _ _ _ w => ?_) k
  rw [e1, e2] at w
  exact step p e R s m args below meth c H locs ls _ _ Q hS hr hv w
end BM2
