section BM1
variable {G : bm_G} {M : bm_M} {pc : Nat} {L L' : bm_L} {st : List Value} {h h1 : bm_H} {P : bm_R → bm_H → Prop}
theorem bm_isub {x y : Int32} (hd : decode M.2.1 pc = .ok (.isub, 1)) (k : bm_W G M (pc + 1) L (.int (x - y) :: st) h P) : bm_W G M pc L (.int y :: .int x :: st) h P :=
  bm_go (fun _ _ _ _ _ _ _ _ _ _ _ _ _ _ _ hS _ _ _ w => lv_isub hS.1 hS.2.1 hd w) k
theorem bm_imul {x y : Int32} (hd : decode M.2.1 pc = .ok (.imul, 1)) (k : bm_W G M (pc + 1) L (.int (x * y) :: st) h P) : bm_W G M pc L (.int y :: .int x :: st) h P :=
  bm_go (fun _ _ _ _ _ _ _ _ _ _ _ _ _ _ _ hS _ _ _ w => lv_imul hS.1 hS.2.1 hd w) k
theorem bm_iand {x y : Int32} (hd : decode M.2.1 pc = .ok (.iand, 1)) (k : bm_W G M (pc + 1) L (.int (x &&& y) :: st) h P) : bm_W G M pc L (.int y :: .int x :: st) h P :=
  bm_go (fun _ _ _ _ _ _ _ _ _ _ _ _ _ _ _ hS _ _ _ w => lv_iand hS.1 hS.2.1 hd w) k
theorem bm_ior {x y : Int32} (hd : decode M.2.1 pc = .ok (.ior, 1)) (k : bm_W G M (pc + 1) L (.int (x ||| y) :: st) h P) : bm_W G M pc L (.int y :: .int x :: st) h P :=
  bm_go (fun _ _ _ _ _ _ _ _ _ _ _ _ _ _ _ hS _ _ _ w => lv_ior hS.1 hS.2.1 hd w) k
theorem bm_ishl {x y : Int32} (hd : decode M.2.1 pc = .ok (.ishl, 1)) (k : bm_W G M (pc + 1) L (.int (x <<< (y &&& 31)) :: st) h P) : bm_W G M pc L (.int y :: .int x :: st) h P :=
  bm_go (fun _ _ _ _ _ _ _ _ _ _ _ _ _ _ _ hS _ _ _ w => lv_ishl hS.1 hS.2.1 hd w) k
theorem bm_ishr {x y : Int32} (hd : decode M.2.1 pc = .ok (.ishr, 1)) (k : bm_W G M (pc + 1) L (.int (x >>> (y &&& 31)) :: st) h P) : bm_W G M pc L (.int y :: .int x :: st) h P :=
  bm_go (fun _ _ _ _ _ _ _ _ _ _ _ _ _ _ _ hS _ _ _ w => lv_ishr hS.1 hS.2.1 hd w) k
theorem bm_idiv {x y : Int32} (hd : decode M.2.1 pc = .ok (.idiv, 1)) (hne : ¬ y = 0) (k : bm_W G M (pc + 1) L (.int (x / y) :: st) h P) : bm_W G M pc L (.int y :: .int x :: st) h P :=
  bm_go (fun _ _ _ _ _ _ _ _ _ _ _ _ _ _ _ hS _ _ _ w => lv_idiv hS.1 hS.2.1 hd hne w) k
theorem bm_irem {x y : Int32} (hd : decode M.2.1 pc = .ok (.irem, 1)) (hne : ¬ y = 0) (k : bm_W G M (pc + 1) L (.int (x - x / y * y) :: st) h P) : bm_W G M pc L (.int y :: .int x :: st) h P :=
  bm_go (fun _ _ _ _ _ _ _ _ _ _ _ _ _ _ _ hS _ _ _ w => lv_irem hS.1 hS.2.1 hd hne w) k
theorem bm_i2l {x : Int32} (hd : decode M.2.1 pc = .ok (.i2l, 1)) (k : bm_W G M (pc + 1) L (.long x.toInt64 :: st) h P) : bm_W G M pc L (.int x :: st) h P :=
  bm_go (fun _ _ _ _ _ _ _ _ _ _ _ _ _ _ _ hS _ _ _ w => lv_i2l hS.1 hS.2.1 hd rfl w) k
theorem bm_lcmp {x y : Int64} (hd : decode M.2.1 pc = .ok (.lcmp, 1)) (k : bm_W G M (pc + 1) L (.int (lg_cmp x y) :: st) h P) : bm_W G M pc L (.long y :: .long x :: st) h P :=
  bm_go (fun _ _ _ _ _ _ _ _ _ _ _ _ _ _ _ hS _ _ _ w => W.lcmp hS.1 hS.2.1 hd w) k
theorem bm_cat (G : bm_G) (v : Value) : (bm_v G v).category = v.category := by cases v <;> rfl
theorem bm_dup {v : Value} (hd : decode M.2.1 pc = .ok (.dup, 1)) (hv : v.category = 1) (k : bm_W G M (pc + 1) L (v :: v :: st) h P) : bm_W G M pc L (v :: st) h P :=
  bm_go (fun _ _ _ _ _ _ _ _ _ _ _ _ _ _ _ hS _ _ _ w => lv_dup hS.1 hS.2.1 hd (by rw [bm_cat]; exact hv) w) k
theorem bm_pop {v : Value} (hd : decode M.2.1 pc = .ok (.pop, 1)) (hv : v.category = 1) (k : bm_W G M (pc + 1) L (st) h P) : bm_W G M pc L (v :: st) h P :=
  bm_go (fun _ _ _ _ _ _ _ _ _ _ _ _ _ _ _ hS _ _ _ w => lv_pop hS.1 hS.2.1 hd (by rw [bm_cat]; exact hv) w) k
theorem bm_dup_x1 {v u : Value} (hd : decode M.2.1 pc = .ok (.dup_x1, 1)) (hv : v.category = 1) (hu : u.category = 1) (k : bm_W G M (pc + 1) L (v :: u :: v :: st) h P) : bm_W G M pc L (v :: u :: st) h P :=
  bm_go (fun _ _ _ _ _ _ _ _ _ _ _ _ _ _ _ hS _ _ _ w => lv_dup_x1 hS.1 hS.2.1 hd (by rw [bm_cat]; exact hv) (by rw [bm_cat]; exact hu) w) k
theorem bm_dup2 {v u : Value} (hd : decode M.2.1 pc = .ok (.dup2, 1)) (hv : v.category = 1) (hu : u.category = 1) (k : bm_W G M (pc + 1) L (v :: u :: v :: u :: st) h P) : bm_W G M pc L (v :: u :: st) h P :=
  bm_go (fun _ _ _ _ _ _ _ _ _ _ _ _ _ _ _ hS _ _ _ w => lv_dup2_11 hS.1 hS.2.1 hd (by rw [bm_cat]; exact hv) (by rw [bm_cat]; exact hu) w) k
theorem bm_dup_x2 {v u t : Value} (hd : decode M.2.1 pc = .ok (.dup_x2, 1)) (hv : v.category = 1) (hu : u.category = 1) (ht : t.category = 1) (k : bm_W G M (pc + 1) L (v :: u :: t :: v :: st) h P) : bm_W G M pc L (v :: u :: t :: st) h P :=
  bm_go (fun _ _ _ _ _ _ _ _ _ _ _ _ _ _ _ hS _ _ _ w => lv_dup_x2 hS.1 hS.2.1 hd (by rw [bm_cat]; exact hv) (by rw [bm_cat]; exact hu) (by rw [bm_cat]; exact ht) w) k
theorem bm_null  (hd : decode M.2.1 pc = .ok (.aconst_null, 1)) (k : bm_W G M (pc + 1) L (.null :: st) h P) : bm_W G M pc L (st) h P :=
  bm_go (fun _ _ _ _ _ _ _ _ _ _ _ _ _ _ _ hS _ _ _ w => lv_null hS.1 hS.2.1 hd w) k
theorem bm_goto {off : Int} {tgt : Nat} (hd : decode M.2.1 pc = .ok (.goto off, 3)) (ht : (pc : Int) + off = (tgt : Int)) (k : bm_W G M tgt L st h P) : bm_W G M pc L st h P :=
  bm_go (fun _ _ _ _ _ _ _ _ _ _ _ _ _ _ _ hS _ _ _ w => lv_goto hS.1 hS.2.1 hd ht w) k
theorem bm_if_eq {x : Int32} {off : Int} {tgt : Nat} (hd : decode M.2.1 pc = .ok (.ifCond .eq off, 3)) (ht : (pc : Int) + off = (tgt : Int)) (kt : x = 0 → bm_W G M tgt L st h P) (kf : ¬ x = 0 → bm_W G M (pc + 3) L st h P) : bm_W G M pc L (.int x :: st) h P := by
  by_cases hc : x = 0
  · exact bm_go (fun _ _ _ _ _ _ _ _ _ _ _ _ _ _ _ hS _ _ _ w => lv_if_eq hS.1 hS.2.1 hd ht (fun q => w) (fun q => absurd hc q)) (kt hc)
  · exact bm_go (fun _ _ _ _ _ _ _ _ _ _ _ _ _ _ _ hS _ _ _ w => lv_if_eq hS.1 hS.2.1 hd ht (fun q => absurd q hc) (fun q => w)) (kf hc)
theorem bm_icmp_eq {x y : Int32} {off : Int} {tgt : Nat} (hd : decode M.2.1 pc = .ok (.if_icmp .eq off, 3)) (ht : (pc : Int) + off = (tgt : Int)) (kt : x = y → bm_W G M tgt L st h P) (kf : ¬ x = y → bm_W G M (pc + 3) L st h P) : bm_W G M pc L (.int y :: .int x :: st) h P := by
  by_cases hc : x = y
  · exact bm_go (fun _ _ _ _ _ _ _ _ _ _ _ _ _ _ _ hS _ _ _ w => lv_icmp_eq hS.1 hS.2.1 hd ht (fun q => w) (fun q => absurd hc q)) (kt hc)
  · exact bm_go (fun _ _ _ _ _ _ _ _ _ _ _ _ _ _ _ hS _ _ _ w => lv_icmp_eq hS.1 hS.2.1 hd ht (fun q => absurd q hc) (fun q => w)) (kf hc)
theorem bm_if_ne {x : Int32} {off : Int} {tgt : Nat} (hd : decode M.2.1 pc = .ok (.ifCond .ne off, 3)) (ht : (pc : Int) + off = (tgt : Int)) (kt : ¬ x = 0 → bm_W G M tgt L st h P) (kf : x = 0 → bm_W G M (pc + 3) L st h P) : bm_W G M pc L (.int x :: st) h P := by
  by_cases hc : x = 0
  · exact bm_go (fun _ _ _ _ _ _ _ _ _ _ _ _ _ _ _ hS _ _ _ w => lv_if_ne hS.1 hS.2.1 hd ht (fun q => absurd hc q) (fun q => w)) (kf hc)
  · exact bm_go (fun _ _ _ _ _ _ _ _ _ _ _ _ _ _ _ hS _ _ _ w => lv_if_ne hS.1 hS.2.1 hd ht (fun q => w) (fun q => absurd q hc)) (kt hc)
theorem bm_icmp_ne {x y : Int32} {off : Int} {tgt : Nat} (hd : decode M.2.1 pc = .ok (.if_icmp .ne off, 3)) (ht : (pc : Int) + off = (tgt : Int)) (kt : ¬ x = y → bm_W G M tgt L st h P) (kf : x = y → bm_W G M (pc + 3) L st h P) : bm_W G M pc L (.int y :: .int x :: st) h P := by
  by_cases hc : x = y
  · exact bm_go (fun _ _ _ _ _ _ _ _ _ _ _ _ _ _ _ hS _ _ _ w => lv_icmp_ne hS.1 hS.2.1 hd ht (fun q => absurd hc q) (fun q => w)) (kf hc)
  · exact bm_go (fun _ _ _ _ _ _ _ _ _ _ _ _ _ _ _ hS _ _ _ w => lv_icmp_ne hS.1 hS.2.1 hd ht (fun q => w) (fun q => absurd q hc)) (kt hc)
theorem bm_if_lt {x : Int32} {off : Int} {tgt : Nat} (hd : decode M.2.1 pc = .ok (.ifCond .lt off, 3)) (ht : (pc : Int) + off = (tgt : Int)) (kt : x < 0 → bm_W G M tgt L st h P) (kf : ¬ x < 0 → bm_W G M (pc + 3) L st h P) : bm_W G M pc L (.int x :: st) h P := by
  by_cases hc : x < 0
  · exact bm_go (fun _ _ _ _ _ _ _ _ _ _ _ _ _ _ _ hS _ _ _ w => lv_if_lt hS.1 hS.2.1 hd ht (fun q => w) (fun q => absurd hc q)) (kt hc)
  · exact bm_go (fun _ _ _ _ _ _ _ _ _ _ _ _ _ _ _ hS _ _ _ w => lv_if_lt hS.1 hS.2.1 hd ht (fun q => absurd q hc) (fun q => w)) (kf hc)
theorem bm_icmp_lt {x y : Int32} {off : Int} {tgt : Nat} (hd : decode M.2.1 pc = .ok (.if_icmp .lt off, 3)) (ht : (pc : Int) + off = (tgt : Int)) (kt : x < y → bm_W G M tgt L st h P) (kf : ¬ x < y → bm_W G M (pc + 3) L st h P) : bm_W G M pc L (.int y :: .int x :: st) h P := by
  by_cases hc : x < y
  · exact bm_go (fun _ _ _ _ _ _ _ _ _ _ _ _ _ _ _ hS _ _ _ w => lv_icmp_lt hS.1 hS.2.1 hd ht (fun q => w) (fun q => absurd hc q)) (kt hc)
  · exact bm_go (fun _ _ _ _ _ _ _ _ _ _ _ _ _ _ _ hS _ _ _ w => lv_icmp_lt hS.1 hS.2.1 hd ht (fun q => absurd q hc) (fun q => w)) (kf hc)
theorem bm_if_ge {x : Int32} {off : Int} {tgt : Nat} (hd : decode M.2.1 pc = .ok (.ifCond .ge off, 3)) (ht : (pc : Int) + off = (tgt : Int)) (kt : 0 ≤ x → bm_W G M tgt L st h P) (kf : ¬ 0 ≤ x → bm_W G M (pc + 3) L st h P) : bm_W G M pc L (.int x :: st) h P := by
  by_cases hc : 0 ≤ x
  · exact bm_go (fun _ _ _ _ _ _ _ _ _ _ _ _ _ _ _ hS _ _ _ w => lv_if_ge hS.1 hS.2.1 hd ht (fun q => w) (fun q => absurd hc q)) (kt hc)
  · exact bm_go (fun _ _ _ _ _ _ _ _ _ _ _ _ _ _ _ hS _ _ _ w => lv_if_ge hS.1 hS.2.1 hd ht (fun q => absurd q hc) (fun q => w)) (kf hc)
theorem bm_icmp_ge {x y : Int32} {off : Int} {tgt : Nat} (hd : decode M.2.1 pc = .ok (.if_icmp .ge off, 3)) (ht : (pc : Int) + off = (tgt : Int)) (kt : y ≤ x → bm_W G M tgt L st h P) (kf : ¬ y ≤ x → bm_W G M (pc + 3) L st h P) : bm_W G M pc L (.int y :: .int x :: st) h P := by
  by_cases hc : y ≤ x
  · exact bm_go (fun _ _ _ _ _ _ _ _ _ _ _ _ _ _ _ hS _ _ _ w => lv_icmp_ge hS.1 hS.2.1 hd ht (fun q => w) (fun q => absurd hc q)) (kt hc)
  · exact bm_go (fun _ _ _ _ _ _ _ _ _ _ _ _ _ _ _ hS _ _ _ w => lv_icmp_ge hS.1 hS.2.1 hd ht (fun q => absurd q hc) (fun q => w)) (kf hc)
theorem bm_if_gt {x : Int32} {off : Int} {tgt : Nat} (hd : decode M.2.1 pc = .ok (.ifCond .gt off, 3)) (ht : (pc : Int) + off = (tgt : Int)) (kt : 0 < x → bm_W G M tgt L st h P) (kf : ¬ 0 < x → bm_W G M (pc + 3) L st h P) : bm_W G M pc L (.int x :: st) h P := by
  by_cases hc : 0 < x
  · exact bm_go (fun _ _ _ _ _ _ _ _ _ _ _ _ _ _ _ hS _ _ _ w => lv_if_gt hS.1 hS.2.1 hd ht (fun q => w) (fun q => absurd hc q)) (kt hc)
  · exact bm_go (fun _ _ _ _ _ _ _ _ _ _ _ _ _ _ _ hS _ _ _ w => lv_if_gt hS.1 hS.2.1 hd ht (fun q => absurd q hc) (fun q => w)) (kf hc)
theorem bm_icmp_gt {x y : Int32} {off : Int} {tgt : Nat} (hd : decode M.2.1 pc = .ok (.if_icmp .gt off, 3)) (ht : (pc : Int) + off = (tgt : Int)) (kt : y < x → bm_W G M tgt L st h P) (kf : ¬ y < x → bm_W G M (pc + 3) L st h P) : bm_W G M pc L (.int y :: .int x :: st) h P := by
  by_cases hc : y < x
  · exact bm_go (fun _ _ _ _ _ _ _ _ _ _ _ _ _ _ _ hS _ _ _ w => lv_icmp_gt hS.1 hS.2.1 hd ht (fun q => w) (fun q => absurd hc q)) (kt hc)
  · exact bm_go (fun _ _ _ _ _ _ _ _ _ _ _ _ _ _ _ hS _ _ _ w => lv_icmp_gt hS.1 hS.2.1 hd ht (fun q => absurd q hc) (fun q => w)) (kf hc)
theorem bm_if_le {x : Int32} {off : Int} {tgt : Nat} (hd : decode M.2.1 pc = .ok (.ifCond .le off, 3)) (ht : (pc : Int) + off = (tgt : Int)) (kt : x ≤ 0 → bm_W G M tgt L st h P) (kf : ¬ x ≤ 0 → bm_W G M (pc + 3) L st h P) : bm_W G M pc L (.int x :: st) h P := by
  by_cases hc : x ≤ 0
  · exact bm_go (fun _ _ _ _ _ _ _ _ _ _ _ _ _ _ _ hS _ _ _ w => lv_if_le hS.1 hS.2.1 hd ht (fun q => w) (fun q => absurd hc q)) (kt hc)
  · exact bm_go (fun _ _ _ _ _ _ _ _ _ _ _ _ _ _ _ hS _ _ _ w => lv_if_le hS.1 hS.2.1 hd ht (fun q => absurd q hc) (fun q => w)) (kf hc)
theorem bm_icmp_le {x y : Int32} {off : Int} {tgt : Nat} (hd : decode M.2.1 pc = .ok (.if_icmp .le off, 3)) (ht : (pc : Int) + off = (tgt : Int)) (kt : x ≤ y → bm_W G M tgt L st h P) (kf : ¬ x ≤ y → bm_W G M (pc + 3) L st h P) : bm_W G M pc L (.int y :: .int x :: st) h P := by
  by_cases hc : x ≤ y
  · exact bm_go (fun _ _ _ _ _ _ _ _ _ _ _ _ _ _ _ hS _ _ _ w => lv_icmp_le hS.1 hS.2.1 hd ht (fun q => w) (fun q => absurd hc q)) (kt hc)
  · exact bm_go (fun _ _ _ _ _ _ _ _ _ _ _ _ _ _ _ hS _ _ _ w => lv_icmp_le hS.1 hS.2.1 hd ht (fun q => absurd q hc) (fun q => w)) (kf hc)
theorem bm_iload_n {n : Fin 4} {x : Int32} (hd : decode M.2.1 pc = .ok (.iload_n n, 1)) (hl : L[(n : Nat)]? = some (some (.int x))) (k : bm_W G M (pc + 1) L (.int x :: st) h P) : bm_W G M pc L st h P :=
  bm_go (fun _ _ _ _ _ _ _ _ _ _ _ _ _ _ _ hS _ _ hL w => lv_iload_n hS.1 hS.2.1 hd rfl (hL.2.2.2 _ _ hl).2 w) k
theorem bm_iload {i : Nat} {x : Int32} (hd : decode M.2.1 pc = .ok (.iload i, 2)) (hl : L[i]? = some (some (.int x))) (k : bm_W G M (pc + 2) L (.int x :: st) h P) : bm_W G M pc L st h P :=
  bm_go (fun _ _ _ _ _ _ _ _ _ _ _ _ _ _ _ hS _ _ hL w => lv_iload hS.1 hS.2.1 hd (hL.2.2.2 _ _ hl).2 w) k
theorem bm_aload_n {n : Fin 4} {x : Nat} (hd : decode M.2.1 pc = .ok (.aload_n n, 1)) (hl : L[(n : Nat)]? = some (some (.ref x))) (k : bm_W G M (pc + 1) L (.ref x :: st) h P) : bm_W G M pc L st h P :=
  bm_go (fun _ _ _ _ _ _ _ _ _ _ _ _ _ _ _ hS _ _ hL w => lv_aload_n hS.1 hS.2.1 hd rfl (hL.2.2.2 _ _ hl).2 w) k
theorem bm_aload {i : Nat} {x : Nat} (hd : decode M.2.1 pc = .ok (.aload i, 2)) (hl : L[i]? = some (some (.ref x))) (k : bm_W G M (pc + 2) L (.ref x :: st) h P) : bm_W G M pc L st h P :=
  bm_go (fun _ _ _ _ _ _ _ _ _ _ _ _ _ _ _ hS _ _ hL w => lv_aload hS.1 hS.2.1 hd (hL.2.2.2 _ _ hl).2 w) k
theorem bm_aload_nN {n : Fin 4} (hd : decode M.2.1 pc = .ok (.aload_n n, 1)) (hl : L[(n : Nat)]? = some (some .null)) (k : bm_W G M (pc + 1) L (.null :: st) h P) : bm_W G M pc L st h P :=
  bm_go (fun _ _ _ _ _ _ _ _ _ _ _ _ _ _ _ hS _ _ hL w => lv_aload_nN hS.1 hS.2.1 hd rfl (hL.2.2.2 _ _ hl).2 w) k
theorem bm_aloadN {i : Nat} (hd : decode M.2.1 pc = .ok (.aload i, 2)) (hl : L[i]? = some (some .null)) (k : bm_W G M (pc + 2) L (.null :: st) h P) : bm_W G M pc L st h P :=
  bm_go (fun _ _ _ _ _ _ _ _ _ _ _ _ _ _ _ hS _ _ hL w => lv_aloadN hS.1 hS.2.1 hd (hL.2.2.2 _ _ hl).2 w) k
theorem bm_ifnull {x : Nat} {off : Int} (hd : decode M.2.1 pc = .ok (.ifnull off, 3)) (k : bm_W G M (pc + 3) L st h P) : bm_W G M pc L (.ref x :: st) h P :=
  bm_go (fun _ _ _ _ _ _ _ _ _ _ _ _ _ _ _ hS _ _ _ w => lv_ifnull hS.1 hS.2.1 hd w) k
theorem bm_ifnullN {off : Int} {tgt : Nat} (hd : decode M.2.1 pc = .ok (.ifnull off, 3)) (ht : (pc : Int) + off = (tgt : Int)) (k : bm_W G M tgt L st h P) : bm_W G M pc L (.null :: st) h P :=
  bm_go (fun _ _ _ _ _ _ _ _ _ _ _ _ _ _ _ hS _ _ _ w => lv_ifnullN hS.1 hS.2.1 hd ht w) k
theorem bm_ifnonnull {x : Nat} {off : Int} {tgt : Nat} (hd : decode M.2.1 pc = .ok (.ifnonnull off, 3)) (ht : (pc : Int) + off = (tgt : Int)) (k : bm_W G M tgt L st h P) : bm_W G M pc L (.ref x :: st) h P :=
  bm_go (fun _ _ _ _ _ _ _ _ _ _ _ _ _ _ _ hS _ _ _ w => lv_ifnonnull hS.1 hS.2.1 hd ht w) k
theorem bm_ifnonnullN {off : Int} (hd : decode M.2.1 pc = .ok (.ifnonnull off, 3)) (k : bm_W G M (pc + 3) L st h P) : bm_W G M pc L (.null :: st) h P :=
  bm_go (fun _ _ _ _ _ _ _ _ _ _ _ _ _ _ _ hS _ _ _ w => lv_ifnonnullN hS.1 hS.2.1 hd w) k
theorem bm_tableIn {d lo hi : Int} {offs : Array Int} {len : Nat} {x : Int32} {off : Int} {tgt : Nat} (hd : decode M.2.1 pc = .ok (.tableswitch d lo hi offs, len)) (h1 : ¬ x.toInt < lo) (h2 : ¬ hi < x.toInt) (ho : offs[(x.toInt - lo).toNat]? = some off) (ht : (pc : Int) + off = (tgt : Int)) (k : bm_W G M tgt L st h P) : bm_W G M pc L (.int x :: st) h P :=
  bm_go (fun _ _ _ _ _ _ _ _ _ _ _ _ _ _ _ hS _ _ _ w => lv_tableIn hS.1 hS.2.1 hd h1 h2 ho ht w) k
theorem bm_tableOut {d lo hi : Int} {offs : Array Int} {len : Nat} {x : Int32} {tgt : Nat} (hd : decode M.2.1 pc = .ok (.tableswitch d lo hi offs, len)) (hx : x.toInt < lo ∨ hi < x.toInt) (ht : (pc : Int) + d = (tgt : Int)) (k : bm_W G M tgt L st h P) : bm_W G M pc L (.int x :: st) h P :=
  bm_go (fun _ _ _ _ _ _ _ _ _ _ _ _ _ _ _ hS _ _ _ w => lv_tableOut hS.1 hS.2.1 hd hx ht w) k
theorem bm_lookup {d : Int} {ps : Array (Int × Int)} {len : Nat} {x : Int32} {off : Int} {tgt : Nat} (hd : decode M.2.1 pc = .ok (.lookupswitch d ps, len)) (hp : (ps.toList.zip (ps.toList.drop 1)).all (fun (a, next) => a.1 < next.1) = true) (ho : Op.lookupswitch.offset ps.toList d x.toInt = off) (ht : (pc : Int) + off = (tgt : Int)) (k : bm_W G M tgt L st h P) : bm_W G M pc L (.int x :: st) h P :=
  bm_go (fun _ _ _ _ _ _ _ _ _ _ _ _ _ _ _ hS _ _ _ w => lv_lookup hS.1 hS.2.1 hd hp ho ht w) k
end BM1
