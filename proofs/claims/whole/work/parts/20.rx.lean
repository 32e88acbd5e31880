/-! rx: the reference by its state. s k j: element j of its array field k; a field that is no array stands at s k 0. Its object lies at place 52, its arrays behind it. -/
abbrev rx_S : Type := Nat → Nat → Int32
abbrev rx_o : Nat := 52
def rx_n : Nat → Nat := fun k => match k with
  | 1 => 6
  | 2 => 6
  | 3 => 6
  | 4 => 600
  | 5 => 600
  | 6 => 12
  | 7 => 4
  | 8 => 4
  | 9 => 48
  | 10 => 48
  | 11 => 48
  | 12 => 48
  | 13 => 48
  | 14 => 48
  | 16 => 16
  | 17 => 16
  | 18 => 16
  | 19 => 16
  | 20 => 64
  | 21 => 192
  | 22 => 48
  | 23 => 128
  | 24 => 128
  | 25 => 128
  | 26 => 128
  | 27 => 128
  | 29 => 16
  | 33 => 100
  | 34 => 100
  | 35 => 101
  | 36 => 5000
  | 37 => 5000
  | 38 => 100
  | 39 => 100
  | 40 => 100
  | 41 => 12
  | 42 => 12
  | 43 => 12
  | 44 => 12
  | 45 => 12
  | 46 => 12
  | 47 => 12
  | _ => 0
def rx_t : Nat → Nat := fun k => match k with
  | 8 => 1
  | 26 => 1
  | 27 => 1
  | 40 => 1
  | 47 => 1
  | _ => 0
def rx_a : Nat → Nat := fun k => match k with
  | 1 => 53
  | 2 => 54
  | 3 => 55
  | 4 => 56
  | 5 => 57
  | 6 => 58
  | 7 => 59
  | 8 => 60
  | 9 => 61
  | 10 => 62
  | 11 => 63
  | 12 => 64
  | 13 => 65
  | 14 => 66
  | 16 => 67
  | 17 => 68
  | 18 => 69
  | 19 => 70
  | 20 => 71
  | 21 => 72
  | 22 => 73
  | 23 => 74
  | 24 => 75
  | 25 => 76
  | 26 => 77
  | 27 => 78
  | 29 => 79
  | 33 => 80
  | 34 => 81
  | 35 => 82
  | 36 => 83
  | 37 => 84
  | 38 => 85
  | 39 => 86
  | 40 => 87
  | 41 => 88
  | 42 => 89
  | 43 => 90
  | 44 => 91
  | 45 => 92
  | 46 => 93
  | 47 => 94
  | _ => 0
abbrev rx_e : Nat := 95
def rx_fv (s : rx_S) (k : Nat) : Value := if rx_n k = 0 then .int (s k 0) else .ref (rx_a k)
def rx_f (s : rx_S) : List Value := (List.range 48).map (rx_fv s)
def rx_rep (h : bm_H) (s : rx_S) : Prop := h[rx_o]? = some (.inr (11, rx_f s)) ∧ ∀ k, rx_n k ≠ 0 → h[rx_a k]? = some (.inl (rx_t k, rx_n k, .inl (s k)))
def rx_up (s : rx_S) (k j : Nat) (x : Int32) : rx_S := fun k2 => if k2 = k then upd (s k) j x else s k2
def rx_same (h hf : bm_H) : Prop := hf.length = h.length ∧ bm_sz hf = bm_sz h ∧ ∀ j, j < rx_o ∨ rx_e ≤ j → hf[j]? = h[j]?
def rx_P (h : bm_H) (Q : bm_R → rx_S → Prop) : bm_R → bm_H → Prop := fun r hf => rx_same h hf ∧ ∃ s2, rx_rep hf s2 ∧ Q r s2
def rx (G : bm_G) (M : bm_M) (pc : Nat) (L : bm_L) (st : List Value) (s : rx_S) (Q : bm_R → rx_S → Prop) : Prop := ∀ h, rx_rep h s → bm_W G M pc L st h (rx_P h Q)
def rx_T (G : bm_G) (M : bm_M) (av : List Value) (s : rx_S) (Q : Option Value → rx_S → Prop) : Prop := ∀ h, rx_rep h s → bm_T G M av h (fun v hf => rx_same h hf ∧ ∃ s2, rx_rep hf s2 ∧ Q v s2)
theorem rx_same.rf (h : bm_H) : rx_same h h := ⟨rfl, rfl, fun _ _ => rfl⟩
theorem rx_same.tr {a b c : bm_H} (h1 : rx_same a b) (h2 : rx_same b c) : rx_same a c := ⟨h2.1.trans h1.1, h2.2.1.trans h1.2.1, fun j hj => (h2.2.2 j hj).trans (h1.2.2 j hj)⟩
theorem rx_an : ∀ k, rx_n k ≠ 0 → k < 48 := by
  intro k hk
  by_cases h : k < 48
  · exact h
  · exfalso
    apply hk
    unfold rx_n
    split <;> first | omega | rfl
theorem rx_ad : ∀ k, k < 48 → rx_n k ≠ 0 → rx_o < rx_a k ∧ rx_a k < rx_e := by decide +kernel
theorem rx_aj : ∀ k, k < 48 → ∀ j, j < 48 → rx_n k ≠ 0 → rx_n j ≠ 0 → rx_a k = rx_a j → k = j := by decide +kernel
theorem rx_rep.lo {h : bm_H} {s : rx_S} (hr : rx_rep h s) : rx_o < h.length := (List.getElem?_eq_some_iff.mp hr.1).1
theorem rx_f_get (s : rx_S) {k : Nat} (hk : k < 48) : (rx_f s)[k]? = some (rx_fv s k) := by
  unfold rx_f
  rw [List.getElem?_map, List.getElem?_range hk]; rfl
theorem rx_f_up {s : rx_S} {k j : Nat} {x : Int32} (hk : rx_n k ≠ 0) : rx_f (rx_up s k j x) = rx_f s := by
  unfold rx_f
  apply List.map_congr_left
  intro i _
  unfold rx_fv rx_up
  by_cases e : i = k
  · subst e; rw [if_neg hk, if_neg hk]
  · rw [if_neg e]
theorem rx_f_set {s : rx_S} {k : Nat} {x : Int32} (h48 : k < 48) (hk : rx_n k = 0) : (rx_f s).set k (.int x) = rx_f (rx_up s k 0 x) := by
  apply List.ext_getElem?
  intro i
  have hl : (rx_f s).length = 48 := by simp [rx_f]
  rw [List.getElem?_set, hl]
  by_cases e : k = i
  · subst e
    rw [if_pos rfl, if_pos h48, rx_f_get _ h48]
    unfold rx_fv rx_up
    rw [if_pos hk, if_pos rfl]
    simp [upd]
  · rw [if_neg e]
    by_cases hi : i < 48
    · have e2 : ¬ i = k := fun q => e q.symm
      rw [rx_f_get _ hi, rx_f_get _ hi]
      simp only [rx_fv, rx_up, if_neg e2]
    · rw [List.getElem?_eq_none (by rw [hl]; omega), List.getElem?_eq_none (by simp [rx_f]; omega)]
theorem rx_set {h : bm_H} {s : rx_S} {k j : Nat} {x : Int32} (hr : rx_rep h s) (hk : rx_n k ≠ 0) : rx_rep (h.set (rx_a k) (.inl (rx_t k, rx_n k, .inl (upd (s k) j x)))) (rx_up s k j x) ∧ rx_same h (h.set (rx_a k) (.inl (rx_t k, rx_n k, .inl (upd (s k) j x)))) := by
  have h48 := rx_an k hk
  have hb := rx_ad k h48 hk
  have hl : rx_a k < h.length := (List.getElem?_eq_some_iff.mp (hr.2 k hk)).1
  refine ⟨⟨?_, fun i hi => ?_⟩, List.length_set, bm_sz_set (hr.2 k hk) rfl, fun i hi => ?_⟩
  · rw [List.getElem?_set, if_neg (by omega), rx_f_up hk]; exact hr.1
  · rw [List.getElem?_set]
    by_cases e : rx_a k = rx_a i
    · have e2 := rx_aj k h48 i (rx_an i hi) hk hi e
      subst e2
      rw [if_pos rfl, if_pos hl]
      show _ = some (Sum.inl (rx_t k, rx_n k, Sum.inl (rx_up s k j x k)))
      unfold rx_up
      rw [if_pos rfl]
    · rw [if_neg e, hr.2 i hi]
      have e2 : i ≠ k := fun q => e (by rw [q])
      unfold rx_up
      rw [if_neg e2]
  · rw [List.getElem?_set, if_neg (by omega)]
theorem rx_setF {h : bm_H} {s : rx_S} {k : Nat} {x : Int32} (hr : rx_rep h s) (h48 : k < 48) (hk : rx_n k = 0) : rx_rep (h.set rx_o (.inr (11, (rx_f s).set k (.int x)))) (rx_up s k 0 x) ∧ rx_same h (h.set rx_o (.inr (11, (rx_f s).set k (.int x)))) := by
  refine ⟨⟨?_, fun i hi => ?_⟩, List.length_set, bm_sz_set hr.1 rfl, fun i hi => ?_⟩
  · rw [List.getElem?_set, if_pos rfl, if_pos hr.lo, rx_f_set h48 hk]
  · have hb := rx_ad i (rx_an i hi) hi
    rw [List.getElem?_set, if_neg (by omega), hr.2 i hi]
    have e2 : i ≠ k := fun q => by subst q; exact hi hk
    unfold rx_up
    rw [if_neg e2]
  · rw [List.getElem?_set, if_neg (by have h1 : rx_o < rx_e := by decide
                                      omega)]
section RX
variable {G : bm_G} {M K : bm_M} {pc : Nat} {L L' : bm_L} {st : List Value} {s : rx_S} {Q : bm_R → rx_S → Prop}
theorem rx_isub {x y : Int32} (hd : decode M.2.1 pc = .ok (.isub, 1)) (k : rx G M (pc + 1) L (.int (x - y) :: st) s Q) : rx G M pc L (.int y :: .int x :: st) s Q := fun h0 hr => bm_isub hd (k h0 hr)
theorem rx_imul {x y : Int32} (hd : decode M.2.1 pc = .ok (.imul, 1)) (k : rx G M (pc + 1) L (.int (x * y) :: st) s Q) : rx G M pc L (.int y :: .int x :: st) s Q := fun h0 hr => bm_imul hd (k h0 hr)
theorem rx_iand {x y : Int32} (hd : decode M.2.1 pc = .ok (.iand, 1)) (k : rx G M (pc + 1) L (.int (x &&& y) :: st) s Q) : rx G M pc L (.int y :: .int x :: st) s Q := fun h0 hr => bm_iand hd (k h0 hr)
theorem rx_ior {x y : Int32} (hd : decode M.2.1 pc = .ok (.ior, 1)) (k : rx G M (pc + 1) L (.int (x ||| y) :: st) s Q) : rx G M pc L (.int y :: .int x :: st) s Q := fun h0 hr => bm_ior hd (k h0 hr)
theorem rx_ishl {x y : Int32} (hd : decode M.2.1 pc = .ok (.ishl, 1)) (k : rx G M (pc + 1) L (.int (x <<< (y &&& 31)) :: st) s Q) : rx G M pc L (.int y :: .int x :: st) s Q := fun h0 hr => bm_ishl hd (k h0 hr)
theorem rx_ishr {x y : Int32} (hd : decode M.2.1 pc = .ok (.ishr, 1)) (k : rx G M (pc + 1) L (.int (x >>> (y &&& 31)) :: st) s Q) : rx G M pc L (.int y :: .int x :: st) s Q := fun h0 hr => bm_ishr hd (k h0 hr)
theorem rx_idiv {x y : Int32} (hd : decode M.2.1 pc = .ok (.idiv, 1)) (hne : ¬ y = 0) (k : rx G M (pc + 1) L (.int (x / y) :: st) s Q) : rx G M pc L (.int y :: .int x :: st) s Q := fun h0 hr => bm_idiv hd hne (k h0 hr)
theorem rx_irem {x y : Int32} (hd : decode M.2.1 pc = .ok (.irem, 1)) (hne : ¬ y = 0) (k : rx G M (pc + 1) L (.int (x - x / y * y) :: st) s Q) : rx G M pc L (.int y :: .int x :: st) s Q := fun h0 hr => bm_irem hd hne (k h0 hr)
theorem rx_i2l {x : Int32} (hd : decode M.2.1 pc = .ok (.i2l, 1)) (k : rx G M (pc + 1) L (.long x.toInt64 :: st) s Q) : rx G M pc L (.int x :: st) s Q := fun h0 hr => bm_i2l hd (k h0 hr)
theorem rx_lcmp {x y : Int64} (hd : decode M.2.1 pc = .ok (.lcmp, 1)) (k : rx G M (pc + 1) L (.int (lg_cmp x y) :: st) s Q) : rx G M pc L (.long y :: .long x :: st) s Q := fun h0 hr => bm_lcmp hd (k h0 hr)
theorem rx_dup {v : Value} (hd : decode M.2.1 pc = .ok (.dup, 1)) (hv : v.category = 1) (k : rx G M (pc + 1) L (v :: v :: st) s Q) : rx G M pc L (v :: st) s Q := fun h0 hr => bm_dup hd hv (k h0 hr)
theorem rx_pop {v : Value} (hd : decode M.2.1 pc = .ok (.pop, 1)) (hv : v.category = 1) (k : rx G M (pc + 1) L (st) s Q) : rx G M pc L (v :: st) s Q := fun h0 hr => bm_pop hd hv (k h0 hr)
theorem rx_dup_x1 {v u : Value} (hd : decode M.2.1 pc = .ok (.dup_x1, 1)) (hv : v.category = 1) (hu : u.category = 1) (k : rx G M (pc + 1) L (v :: u :: v :: st) s Q) : rx G M pc L (v :: u :: st) s Q := fun h0 hr => bm_dup_x1 hd hv hu (k h0 hr)
theorem rx_dup2 {v u : Value} (hd : decode M.2.1 pc = .ok (.dup2, 1)) (hv : v.category = 1) (hu : u.category = 1) (k : rx G M (pc + 1) L (v :: u :: v :: u :: st) s Q) : rx G M pc L (v :: u :: st) s Q := fun h0 hr => bm_dup2 hd hv hu (k h0 hr)
theorem rx_dup_x2 {v u t : Value} (hd : decode M.2.1 pc = .ok (.dup_x2, 1)) (hv : v.category = 1) (hu : u.category = 1) (ht : t.category = 1) (k : rx G M (pc + 1) L (v :: u :: t :: v :: st) s Q) : rx G M pc L (v :: u :: t :: st) s Q := fun h0 hr => bm_dup_x2 hd hv hu ht (k h0 hr)
theorem rx_null  (hd : decode M.2.1 pc = .ok (.aconst_null, 1)) (k : rx G M (pc + 1) L (.null :: st) s Q) : rx G M pc L st s Q := fun h0 hr => bm_null hd (k h0 hr)
theorem rx_goto {off : Int} {tgt : Nat} (hd : decode M.2.1 pc = .ok (.goto off, 3)) (ht : (pc : Int) + off = (tgt : Int)) (k : rx G M tgt L st s Q) : rx G M pc L st s Q := fun h0 hr => bm_goto hd ht (k h0 hr)
theorem rx_if_eq {x : Int32} {off : Int} {tgt : Nat} (hd : decode M.2.1 pc = .ok (.ifCond .eq off, 3)) (ht : (pc : Int) + off = (tgt : Int)) (kt : x = 0 → rx G M tgt L st s Q) (kf : ¬ x = 0 → rx G M (pc + 3) L st s Q) : rx G M pc L (.int x :: st) s Q := fun h0 hr => bm_if_eq hd ht (fun q => kt q h0 hr) (fun q => kf q h0 hr)
theorem rx_icmp_eq {x y : Int32} {off : Int} {tgt : Nat} (hd : decode M.2.1 pc = .ok (.if_icmp .eq off, 3)) (ht : (pc : Int) + off = (tgt : Int)) (kt : x = y → rx G M tgt L st s Q) (kf : ¬ x = y → rx G M (pc + 3) L st s Q) : rx G M pc L (.int y :: .int x :: st) s Q := fun h0 hr => bm_icmp_eq hd ht (fun q => kt q h0 hr) (fun q => kf q h0 hr)
theorem rx_if_ne {x : Int32} {off : Int} {tgt : Nat} (hd : decode M.2.1 pc = .ok (.ifCond .ne off, 3)) (ht : (pc : Int) + off = (tgt : Int)) (kt : ¬ x = 0 → rx G M tgt L st s Q) (kf : x = 0 → rx G M (pc + 3) L st s Q) : rx G M pc L (.int x :: st) s Q := fun h0 hr => bm_if_ne hd ht (fun q => kt q h0 hr) (fun q => kf q h0 hr)
theorem rx_icmp_ne {x y : Int32} {off : Int} {tgt : Nat} (hd : decode M.2.1 pc = .ok (.if_icmp .ne off, 3)) (ht : (pc : Int) + off = (tgt : Int)) (kt : ¬ x = y → rx G M tgt L st s Q) (kf : x = y → rx G M (pc + 3) L st s Q) : rx G M pc L (.int y :: .int x :: st) s Q := fun h0 hr => bm_icmp_ne hd ht (fun q => kt q h0 hr) (fun q => kf q h0 hr)
theorem rx_if_lt {x : Int32} {off : Int} {tgt : Nat} (hd : decode M.2.1 pc = .ok (.ifCond .lt off, 3)) (ht : (pc : Int) + off = (tgt : Int)) (kt : x < 0 → rx G M tgt L st s Q) (kf : ¬ x < 0 → rx G M (pc + 3) L st s Q) : rx G M pc L (.int x :: st) s Q := fun h0 hr => bm_if_lt hd ht (fun q => kt q h0 hr) (fun q => kf q h0 hr)
theorem rx_icmp_lt {x y : Int32} {off : Int} {tgt : Nat} (hd : decode M.2.1 pc = .ok (.if_icmp .lt off, 3)) (ht : (pc : Int) + off = (tgt : Int)) (kt : x < y → rx G M tgt L st s Q) (kf : ¬ x < y → rx G M (pc + 3) L st s Q) : rx G M pc L (.int y :: .int x :: st) s Q := fun h0 hr => bm_icmp_lt hd ht (fun q => kt q h0 hr) (fun q => kf q h0 hr)
theorem rx_if_ge {x : Int32} {off : Int} {tgt : Nat} (hd : decode M.2.1 pc = .ok (.ifCond .ge off, 3)) (ht : (pc : Int) + off = (tgt : Int)) (kt : 0 ≤ x → rx G M tgt L st s Q) (kf : ¬ 0 ≤ x → rx G M (pc + 3) L st s Q) : rx G M pc L (.int x :: st) s Q := fun h0 hr => bm_if_ge hd ht (fun q => kt q h0 hr) (fun q => kf q h0 hr)
theorem rx_icmp_ge {x y : Int32} {off : Int} {tgt : Nat} (hd : decode M.2.1 pc = .ok (.if_icmp .ge off, 3)) (ht : (pc : Int) + off = (tgt : Int)) (kt : y ≤ x → rx G M tgt L st s Q) (kf : ¬ y ≤ x → rx G M (pc + 3) L st s Q) : rx G M pc L (.int y :: .int x :: st) s Q := fun h0 hr => bm_icmp_ge hd ht (fun q => kt q h0 hr) (fun q => kf q h0 hr)
theorem rx_if_gt {x : Int32} {off : Int} {tgt : Nat} (hd : decode M.2.1 pc = .ok (.ifCond .gt off, 3)) (ht : (pc : Int) + off = (tgt : Int)) (kt : 0 < x → rx G M tgt L st s Q) (kf : ¬ 0 < x → rx G M (pc + 3) L st s Q) : rx G M pc L (.int x :: st) s Q := fun h0 hr => bm_if_gt hd ht (fun q => kt q h0 hr) (fun q => kf q h0 hr)
theorem rx_icmp_gt {x y : Int32} {off : Int} {tgt : Nat} (hd : decode M.2.1 pc = .ok (.if_icmp .gt off, 3)) (ht : (pc : Int) + off = (tgt : Int)) (kt : y < x → rx G M tgt L st s Q) (kf : ¬ y < x → rx G M (pc + 3) L st s Q) : rx G M pc L (.int y :: .int x :: st) s Q := fun h0 hr => bm_icmp_gt hd ht (fun q => kt q h0 hr) (fun q => kf q h0 hr)
theorem rx_if_le {x : Int32} {off : Int} {tgt : Nat} (hd : decode M.2.1 pc = .ok (.ifCond .le off, 3)) (ht : (pc : Int) + off = (tgt : Int)) (kt : x ≤ 0 → rx G M tgt L st s Q) (kf : ¬ x ≤ 0 → rx G M (pc + 3) L st s Q) : rx G M pc L (.int x :: st) s Q := fun h0 hr => bm_if_le hd ht (fun q => kt q h0 hr) (fun q => kf q h0 hr)
theorem rx_icmp_le {x y : Int32} {off : Int} {tgt : Nat} (hd : decode M.2.1 pc = .ok (.if_icmp .le off, 3)) (ht : (pc : Int) + off = (tgt : Int)) (kt : x ≤ y → rx G M tgt L st s Q) (kf : ¬ x ≤ y → rx G M (pc + 3) L st s Q) : rx G M pc L (.int y :: .int x :: st) s Q := fun h0 hr => bm_icmp_le hd ht (fun q => kt q h0 hr) (fun q => kf q h0 hr)
theorem rx_iload_n {n : Fin 4} {x : Int32} (hd : decode M.2.1 pc = .ok (.iload_n n, 1)) (hl : L[(n : Nat)]? = some (some (.int x))) (k : rx G M (pc + 1) L (.int x :: st) s Q) : rx G M pc L st s Q := fun h0 hr => bm_iload_n hd hl (k h0 hr)
theorem rx_iload {i : Nat} {x : Int32} (hd : decode M.2.1 pc = .ok (.iload i, 2)) (hl : L[i]? = some (some (.int x))) (k : rx G M (pc + 2) L (.int x :: st) s Q) : rx G M pc L st s Q := fun h0 hr => bm_iload hd hl (k h0 hr)
theorem rx_aload_n {n : Fin 4} {x : Nat} (hd : decode M.2.1 pc = .ok (.aload_n n, 1)) (hl : L[(n : Nat)]? = some (some (.ref x))) (k : rx G M (pc + 1) L (.ref x :: st) s Q) : rx G M pc L st s Q := fun h0 hr => bm_aload_n hd hl (k h0 hr)
theorem rx_aload {i : Nat} {x : Nat} (hd : decode M.2.1 pc = .ok (.aload i, 2)) (hl : L[i]? = some (some (.ref x))) (k : rx G M (pc + 2) L (.ref x :: st) s Q) : rx G M pc L st s Q := fun h0 hr => bm_aload hd hl (k h0 hr)
theorem rx_aload_nN {n : Fin 4} (hd : decode M.2.1 pc = .ok (.aload_n n, 1)) (hl : L[(n : Nat)]? = some (some .null)) (k : rx G M (pc + 1) L (.null :: st) s Q) : rx G M pc L st s Q := fun h0 hr => bm_aload_nN hd hl (k h0 hr)
theorem rx_aloadN {i : Nat} (hd : decode M.2.1 pc = .ok (.aload i, 2)) (hl : L[i]? = some (some .null)) (k : rx G M (pc + 2) L (.null :: st) s Q) : rx G M pc L st s Q := fun h0 hr => bm_aloadN hd hl (k h0 hr)
theorem rx_ifnull {x : Nat} {off : Int} (hd : decode M.2.1 pc = .ok (.ifnull off, 3)) (k : rx G M (pc + 3) L st s Q) : rx G M pc L (.ref x :: st) s Q := fun h0 hr => bm_ifnull hd (k h0 hr)
theorem rx_ifnullN {off : Int} {tgt : Nat} (hd : decode M.2.1 pc = .ok (.ifnull off, 3)) (ht : (pc : Int) + off = (tgt : Int)) (k : rx G M tgt L st s Q) : rx G M pc L (.null :: st) s Q := fun h0 hr => bm_ifnullN hd ht (k h0 hr)
theorem rx_ifnonnull {x : Nat} {off : Int} {tgt : Nat} (hd : decode M.2.1 pc = .ok (.ifnonnull off, 3)) (ht : (pc : Int) + off = (tgt : Int)) (k : rx G M tgt L st s Q) : rx G M pc L (.ref x :: st) s Q := fun h0 hr => bm_ifnonnull hd ht (k h0 hr)
theorem rx_ifnonnullN {off : Int} (hd : decode M.2.1 pc = .ok (.ifnonnull off, 3)) (k : rx G M (pc + 3) L st s Q) : rx G M pc L (.null :: st) s Q := fun h0 hr => bm_ifnonnullN hd (k h0 hr)
theorem rx_tableIn {d lo hi : Int} {offs : Array Int} {len : Nat} {x : Int32} {off : Int} {tgt : Nat} (hd : decode M.2.1 pc = .ok (.tableswitch d lo hi offs, len)) (h1 : ¬ x.toInt < lo) (h2 : ¬ hi < x.toInt) (ho : offs[(x.toInt - lo).toNat]? = some off) (ht : (pc : Int) + off = (tgt : Int)) (k : rx G M tgt L st s Q) : rx G M pc L (.int x :: st) s Q := fun h0 hr => bm_tableIn hd h1 h2 ho ht (k h0 hr)
theorem rx_tableOut {d lo hi : Int} {offs : Array Int} {len : Nat} {x : Int32} {tgt : Nat} (hd : decode M.2.1 pc = .ok (.tableswitch d lo hi offs, len)) (hx : x.toInt < lo ∨ hi < x.toInt) (ht : (pc : Int) + d = (tgt : Int)) (k : rx G M tgt L st s Q) : rx G M pc L (.int x :: st) s Q := fun h0 hr => bm_tableOut hd hx ht (k h0 hr)
theorem rx_lookup {d : Int} {ps : Array (Int × Int)} {len : Nat} {x : Int32} {off : Int} {tgt : Nat} (hd : decode M.2.1 pc = .ok (.lookupswitch d ps, len)) (hp : (ps.toList.zip (ps.toList.drop 1)).all (fun (a, next) => a.1 < next.1) = true) (ho : Op.lookupswitch.offset ps.toList d x.toInt = off) (ht : (pc : Int) + off = (tgt : Int)) (k : rx G M tgt L st s Q) : rx G M pc L (.int x :: st) s Q := fun h0 hr => bm_lookup hd hp ho ht (k h0 hr)
theorem rx_istore_n {n : Fin 4} {x : Int32} (hd : decode M.2.1 pc = .ok (.istore_n n, 1)) (hn : (n : Nat) < M.2.2.1) (k : rx G M (pc + 1) (L.set n (some (.int x))) st s Q) : rx G M pc L (.int x :: st) s Q := fun h0 hr => bm_istore_n hd hn (k h0 hr)
theorem rx_istore {i : Nat} {x : Int32} (hd : decode M.2.1 pc = .ok (.istore i, 2)) (hn : i < M.2.2.1) (k : rx G M (pc + 2) (L.set i (some (.int x))) st s Q) : rx G M pc L (.int x :: st) s Q := fun h0 hr => bm_istore hd hn (k h0 hr)
theorem rx_astore_n {n : Fin 4} {x : Nat} (hd : decode M.2.1 pc = .ok (.astore_n n, 1)) (hn : (n : Nat) < M.2.2.1) (k : rx G M (pc + 1) (L.set n (some (.ref x))) st s Q) : rx G M pc L (.ref x :: st) s Q := fun h0 hr => bm_astore_n hd hn (k h0 hr)
theorem rx_astore {i : Nat} {x : Nat} (hd : decode M.2.1 pc = .ok (.astore i, 2)) (hn : i < M.2.2.1) (k : rx G M (pc + 2) (L.set i (some (.ref x))) st s Q) : rx G M pc L (.ref x :: st) s Q := fun h0 hr => bm_astore hd hn (k h0 hr)
theorem rx_astore_nN {n : Fin 4} (hd : decode M.2.1 pc = .ok (.astore_n n, 1)) (hn : (n : Nat) < M.2.2.1) (k : rx G M (pc + 1) (L.set n (some .null)) st s Q) : rx G M pc L (.null :: st) s Q := fun h0 hr => bm_astore_nN hd hn (k h0 hr)
theorem rx_astoreN {i : Nat} (hd : decode M.2.1 pc = .ok (.astore i, 2)) (hn : i < M.2.2.1) (k : rx G M (pc + 2) (L.set i (some .null)) st s Q) : rx G M pc L (.null :: st) s Q := fun h0 hr => bm_astoreN hd hn (k h0 hr)
theorem rx_iinc {i : Nat} {n : Int} {x : Int32} (hd : decode M.2.1 pc = .ok (.iinc i n, 3)) (hn : i < M.2.2.1) (hl : L[i]? = some (some (.int x))) (k : rx G M (pc + 3) (L.set i (some (.int (x + Int32.ofInt n)))) st s Q) : rx G M pc L st s Q := fun h0 hr => bm_iinc hd hn hl (k h0 hr)
theorem rx_iconst {n : Int} {v : Int32} (hd : decode M.2.1 pc = .ok (.iconst n, 1)) (hv : Int32.ofInt n = v) (k : rx G M (pc + 1) L (.int v :: st) s Q) : rx G M pc L st s Q := fun h0 hr => bm_iconst hd hv (k h0 hr)
theorem rx_bipush {n : Int} {v : Int32} (hd : decode M.2.1 pc = .ok (.bipush n, 2)) (hv : (Int8.ofInt n).toInt32 = v) (k : rx G M (pc + 2) L (.int v :: st) s Q) : rx G M pc L st s Q := fun h0 hr => bm_bipush hd hv (k h0 hr)
theorem rx_sipush {n : Int} {v : Int32} (hd : decode M.2.1 pc = .ok (.sipush n, 3)) (hv : (Int16.ofInt n).toInt32 = v) (k : rx G M (pc + 3) L (.int v :: st) s Q) : rx G M pc L st s Q := fun h0 hr => bm_sipush hd hv (k h0 hr)
theorem rx_iadd {x y : Int32} (hd : decode M.2.1 pc = .ok (.iadd, 1)) (k : rx G M (pc + 1) L (.int (x + y) :: st) s Q) : rx G M pc L (.int y :: .int x :: st) s Q := fun h0 hr => bm_iadd hd (k h0 hr)
theorem rx_gaf {k : Nat} (hg : bm_gf M pc 11 k) (hk : rx_n k ≠ 0) (kk : rx G M (pc + 3) L (.ref (rx_a k) :: st) s Q) : rx G M pc L (.ref rx_o :: st) s Q := fun h0 hr =>
  bm_get hg hr.1 (by rw [rx_f_get s (rx_an k hk)]; unfold rx_fv; rw [if_neg hk]) (kk h0 hr)
theorem rx_gsf {k : Nat} (hg : bm_gf M pc 11 k) (h48 : k < 48) (hk : rx_n k = 0) (kk : rx G M (pc + 3) L (.int (s k 0) :: st) s Q) : rx G M pc L (.ref rx_o :: st) s Q := fun h0 hr =>
  bm_get hg hr.1 (by rw [rx_f_get s h48]; unfold rx_fv; rw [if_pos hk]) (kk h0 hr)
theorem rx_then {h h1 : bm_H} (hs : rx_same h h1) (k : bm_W G M pc L st h1 (rx_P h1 Q)) : bm_W G M pc L st h1 (rx_P h Q) := k.mono (fun r hf w => ⟨hs.tr w.1, w.2⟩)
theorem rx_psf {k : Nat} {ty : FieldType} {x : Int32} (hg : bm_pf M pc 11 k ty) (h48 : k < 48) (hk : rx_n k = 0) (hn : narrow ty (.int x) = .int x) (hf : fits ty (.int x) = true) (kk : rx G M (pc + 3) L st (rx_up s k 0 x) Q) : rx G M pc L (.int x :: .ref rx_o :: st) s Q := fun h0 hr =>
  bm_put hg hr.1 (by simp [rx_f]; exact h48) hn hf (rx_then (rx_setF hr h48 hk).2 (kk _ (rx_setF hr h48 hk).1))
theorem rx_iald {k n : Nat} {i : Int32} (hd : decode M.2.1 pc = .ok (.iaload, 1)) (ht : rx_t k = 0) (hi : i = nI n) (hn : n < rx_n k) (kk : rx G M (pc + 1) L (.int (s k n) :: st) s Q) : rx G M pc L (.int i :: .ref (rx_a k) :: st) s Q := fun h0 hr => by
  subst hi
  have hb : ∀ k, k < 48 → rx_n k < 2 ^ 31 := by decide +kernel
  have h31 := hb k (rx_an k (by omega))
  refine bm_iald hd (by rw [hr.2 k (by omega), ht]) (vp_in_nI hn h31) ?_
  rw [nI_clamp (Nat.lt_trans hn h31)]
  exact kk h0 hr
theorem rx_zald {k n : Nat} {i : Int32} (hd : decode M.2.1 pc = .ok (.baload, 1)) (ht : rx_t k = 1) (hi : i = nI n) (hn : n < rx_n k) (kk : rx G M (pc + 1) L (.int (s k n) :: st) s Q) : rx G M pc L (.int i :: .ref (rx_a k) :: st) s Q := fun h0 hr => by
  subst hi
  have hb : ∀ k, k < 48 → rx_n k < 2 ^ 31 := by decide +kernel
  have h31 := hb k (rx_an k (by omega))
  refine bm_zald hd (by rw [hr.2 k (by omega), ht]) (vp_in_nI hn h31) ?_
  rw [nI_clamp (Nat.lt_trans hn h31)]
  exact kk h0 hr
theorem rx_iast {k n : Nat} {i x : Int32} (hd : decode M.2.1 pc = .ok (.iastore, 1)) (ht : rx_t k = 0) (hi : i = nI n) (hn : n < rx_n k) (kk : rx G M (pc + 1) L st (rx_up s k n x) Q) : rx G M pc L (.int x :: .int i :: .ref (rx_a k) :: st) s Q := fun h0 hr => by
  subst hi
  have hb : ∀ k, k < 48 → rx_n k < 2 ^ 31 := by decide +kernel
  have hk : rx_n k ≠ 0 := by omega
  have h31 := hb k (rx_an k hk)
  have h2 : 52 < rx_a k := (rx_ad k (rx_an k hk) hk).1
  have w := rx_set (j := n) (x := x) hr hk
  rw [ht] at w
  refine bm_iast hd (by omega) (by rw [hr.2 k hk, ht]) (vp_in_nI hn h31) ?_
  rw [nI_clamp (Nat.lt_trans hn h31)]
  exact rx_then w.2 (kk _ w.1)
theorem rx_zast {k n : Nat} {i x : Int32} (hd : decode M.2.1 pc = .ok (.bastore, 1)) (ht : rx_t k = 1) (hi : i = nI n) (hn : n < rx_n k) (hx : vp_nar .boolean x = x) (kk : rx G M (pc + 1) L st (rx_up s k n x) Q) : rx G M pc L (.int x :: .int i :: .ref (rx_a k) :: st) s Q := fun h0 hr => by
  subst hi
  have hb : ∀ k, k < 48 → rx_n k < 2 ^ 31 := by decide +kernel
  have hk : rx_n k ≠ 0 := by omega
  have h31 := hb k (rx_an k hk)
  have w := rx_set (j := n) (x := x) hr hk
  rw [ht] at w
  refine bm_zast hd (by rw [hr.2 k hk, ht]) (vp_in_nI hn h31) ?_
  rw [nI_clamp (Nat.lt_trans hn h31), hx]
  exact rx_then w.2 (kk _ w.1)
theorem rx_iret {x : Int32} (hd : decode M.2.1 pc = .ok (.ireturn, 1)) (hr : M.2.2.2.1 = some .int) (hp : Q (.inl (some (.int x))) s) : rx G M pc L [.int x] s Q := fun h0 h => bm_iret hd hr ⟨rx_same.rf h0, s, h, hp⟩
theorem rx_zret {x : Int32} (hd : decode M.2.1 pc = .ok (.ireturn, 1)) (hr : M.2.2.2.1 = some .boolean) (hn : narrow .boolean (.int x) = .int x) (hp : Q (.inl (some (.int x))) s) : rx G M pc L [.int x] s Q := fun h0 h => bm_zret hd hr hn ⟨rx_same.rf h0, s, h, hp⟩
theorem rx_vret (hd : decode M.2.1 pc = .ok (.return_, 1)) (hr : M.2.2.2.1 = none) (hp : Q (.inl none) s) : rx G M pc L [] s Q := fun h0 h => bm_vret hd hr ⟨rx_same.rf h0, s, h, hp⟩
theorem rx_met {av : List Value} {Q : Option Value → rx_S → Prop} (hy : plainName M.1.cls = true) (hc : ∀ v ∈ av, v.category = 1) (hn : av.length ≤ M.2.2.1)
    (k : rx G M 0 (av.map some ++ List.replicate (M.2.2.1 - av.length) none) [] s (fun r s2 => ∃ v, r = .inl v ∧ Q v s2)) : rx_T G M av s Q := fun h hr => by
  refine bm_met hy hc hn ((k h hr).mono fun r hf w => ?_)
  obtain ⟨w1, s2, w2, v, e, w3⟩ := w
  exact ⟨v, e, w1, s2, w2, w3⟩
theorem rx_T.mono {av : List Value} {P Q : Option Value → rx_S → Prop} (k : rx_T G M av s P) (w : ∀ v s2, P v s2 → Q v s2) : rx_T G M av s Q := fun h hr => (k h hr).mono (fun v hf q => ⟨q.1, q.2.choose, q.2.choose_spec.1, w _ _ q.2.choose_spec.2⟩)
theorem rx.mono {P Q : bm_R → rx_S → Prop} (k : rx G M pc L st s P) (w : ∀ v s2, P v s2 → Q v s2) : rx G M pc L st s Q := fun h hr => (k h hr).mono (fun v hf q => ⟨q.1, q.2.choose, q.2.choose_spec.1, w _ _ q.2.choose_spec.2⟩)
theorem rx_callV {n : Nat} {av : List Value} (hg : bm_iv M K pc 11 n) (hn : av.length = n) (hst : (st.map fun v => v.category).sum ≤ 8)
    (hc : rx_T G K (.ref rx_o :: av) s (fun v s2 => rx G M (pc + 3) L (v.toList ++ st) s2 Q)) : rx G M pc L (av.reverse ++ .ref rx_o :: st) s Q := fun h hr =>
  bm_callV hg hn hr.1 hst ((hc h hr).mono fun v hf w => by
    obtain ⟨w1, s2, w2, w3⟩ := w
    exact rx_then w1 (w3 hf w2))
theorem rx_callS {n : Nat} {av : List Value} (hg : bm_is M K pc n) (hn : av.length = n) (hst : (st.map fun v => v.category).sum ≤ 8)
    (hc : rx_T G K av s (fun v s2 => rx G M (pc + 3) L (v.toList ++ st) s2 Q)) : rx G M pc L (av.reverse ++ st) s Q := fun h hr =>
  bm_callS hg hn hst ((hc h hr).mono fun v hf w => by
    obtain ⟨w1, s2, w2, w3⟩ := w
    exact rx_then w1 (w3 hf w2))
end RX
