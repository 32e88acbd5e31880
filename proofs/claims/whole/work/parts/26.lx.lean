/-! lx: class, reference and the law's own array side by side -/
abbrev lx_S : Type := cx_S × rx_S × Int64
def lx_rep (h : bm_H) (t : lx_S) : Prop := cx_rep h t.1 ∧ rx_rep h t.2.1 ∧ ∃ g, h[95]? = some (.inl (2, 1, .inr (.inl g))) ∧ g 0 = t.2.2
def lx (G : bm_G) (M : bm_M) (pc : Nat) (L : bm_L) (st : List Value) (s : lx_S) (Q : bm_R → lx_S → Prop) : Prop := ∀ h, lx_rep h s → bm_W G M pc L st h (fun r hf => ∃ t2, lx_rep hf t2 ∧ Q r t2)
def lx_TW (G : bm_G) (M : bm_M) (hh : List (Nat × Nat × Nat × Nat)) (av : List Value) (s : lx_S) (Q : Option Value → lx_S → Prop) : Prop := ∀ h, lx_rep h s → bm_TW G M hh av h (fun v hf => ∃ t2, lx_rep hf t2 ∧ Q v t2)
theorem lx_ofC {h hf : bm_H} {t : lx_S} {c2 : cx_S} (hr : lx_rep h t) (hs : cx_same h hf) (h2 : cx_rep hf c2) : lx_rep hf (c2, t.2) := by
  obtain ⟨q1, q2, g, q3, q4⟩ := hr
  refine ⟨h2, ⟨?_, fun k hk => ?_⟩, g, ?_, q4⟩
  · rw [hs 52 (by omega) (by omega)]; exact q2.1
  · have w := rx_ad k (rx_an k hk) hk
    have w1 : 52 < rx_a k := w.1
    have w2 : rx_a k < 95 := w.2
    rw [hs (rx_a k) (by omega) (by omega)]; exact q2.2 k hk
  · rw [hs 95 (by omega) (by omega)]; exact q3
theorem lx_ofM {h hf : bm_H} {t : lx_S} {s2 : rx_S} (hr : lx_rep h t) (hs : rx_same h hf) (h2 : rx_rep hf s2) : lx_rep hf (t.1, s2, t.2.2) := by
  obtain ⟨q1, q2, g, q3, q4⟩ := hr
  refine ⟨⟨?_, ?_, fun p k hk => ?_, q1.2.2.2.1, q1.2.2.2.2.1, q1.2.2.2.2.2⟩, h2, g, ?_, q4⟩
  · rw [hs.1]; exact q1.1
  · rw [hs.2.1]; exact q1.2.1
  · rw [hs.2.2 p ?_]
    · exact q1.2.2.1 p k hk
    · by_cases e : p < 52
      · exact Or.inl e
      · by_cases e2 : 95 ≤ p
        · exact Or.inr e2
        · have := q1.2.2.2.2.2 p (by omega) (by omega)
          rw [this] at hk; cases hk
  · rw [hs.2.2 95 (Or.inr (Nat.le_refl _))]; exact q3
section LX0
variable {G : bm_G} {M : bm_M} {pc : Nat} {L L' : bm_L} {st : List Value} {h : bm_H} {P : bm_R → bm_H → Prop}
theorem bm_sld {i : Int32} (hd : decode M.2.1 pc = .ok (.iaload, 1)) (hin : vp_in i (bm_xl G)) (kk : bm_W G M (pc + 1) L (.int (bm_xs G i.toNatClampNeg) :: st) h P) : bm_W G M pc L (.int i :: .ref 1 :: st) h P := by
  refine bm_go (fun p e R s m args below meth c H locs ls n1 n2 Q hS hr hV hL w => ?_) kk
  obtain ⟨cell, q1, q2, q3, q4, q5, q6, q7⟩ := (bm_Sold hS).2.2.1
  have hlt : i.toNatClampNeg < bm_xl G := Nat.not_le.mp fun q => hin (Or.inr q)
  refine W.iald (v := .int (bm_xs G i.toNatClampNeg)) hS.1 hS.2.1 ((hV.2.1 _ (Array.getElem?_eq_some_iff.mp q1).1 q7).trans q1) q2 q3 (fun q => hin ?_) (q6 _ hlt) rfl rfl hd w
  rcases q with q | q
  · exact Or.inl q
  · exact absurd (Nat.lt_of_lt_of_le hlt q4) (Nat.not_lt.mpr q)
theorem bm_slen (hd : decode M.2.1 pc = .ok (.arraylength, 1)) (kk : bm_W G M (pc + 1) L (.int (nI (bm_xl G)) :: st) h P) : bm_W G M pc L (.ref 1 :: st) h P := by
  refine bm_go (fun p e R s m args below meth c H locs ls n1 n2 Q hS hr hV hL w => ?_) kk
  obtain ⟨cell, q1, q2, q3, q4, q5, q6, q7⟩ := (bm_Sold hS).2.2.1
  exact W.alen hS.1 hS.2.1 ((hV.2.1 _ (Array.getElem?_eq_some_iff.mp q1).1 q7).trans q1) q2 q5 rfl rfl hd w
end LX0
section LX
variable {G : bm_G} {M K : bm_M} {pc : Nat} {L L' : bm_L} {st : List Value} {s : lx_S} {Q : bm_R → lx_S → Prop}
theorem lx_isub {x y : Int32} (hd : decode M.2.1 pc = .ok (.isub, 1)) (k : lx G M (pc + 1) L (.int (x - y) :: st) s Q) : lx G M pc L (.int y :: .int x :: st) s Q := fun h0 hr => bm_isub hd (k h0 hr)
theorem lx_imul {x y : Int32} (hd : decode M.2.1 pc = .ok (.imul, 1)) (k : lx G M (pc + 1) L (.int (x * y) :: st) s Q) : lx G M pc L (.int y :: .int x :: st) s Q := fun h0 hr => bm_imul hd (k h0 hr)
theorem lx_iand {x y : Int32} (hd : decode M.2.1 pc = .ok (.iand, 1)) (k : lx G M (pc + 1) L (.int (x &&& y) :: st) s Q) : lx G M pc L (.int y :: .int x :: st) s Q := fun h0 hr => bm_iand hd (k h0 hr)
theorem lx_ior {x y : Int32} (hd : decode M.2.1 pc = .ok (.ior, 1)) (k : lx G M (pc + 1) L (.int (x ||| y) :: st) s Q) : lx G M pc L (.int y :: .int x :: st) s Q := fun h0 hr => bm_ior hd (k h0 hr)
theorem lx_ishl {x y : Int32} (hd : decode M.2.1 pc = .ok (.ishl, 1)) (k : lx G M (pc + 1) L (.int (x <<< (y &&& 31)) :: st) s Q) : lx G M pc L (.int y :: .int x :: st) s Q := fun h0 hr => bm_ishl hd (k h0 hr)
theorem lx_ishr {x y : Int32} (hd : decode M.2.1 pc = .ok (.ishr, 1)) (k : lx G M (pc + 1) L (.int (x >>> (y &&& 31)) :: st) s Q) : lx G M pc L (.int y :: .int x :: st) s Q := fun h0 hr => bm_ishr hd (k h0 hr)
theorem lx_idiv {x y : Int32} (hd : decode M.2.1 pc = .ok (.idiv, 1)) (hne : ¬ y = 0) (k : lx G M (pc + 1) L (.int (x / y) :: st) s Q) : lx G M pc L (.int y :: .int x :: st) s Q := fun h0 hr => bm_idiv hd hne (k h0 hr)
theorem lx_irem {x y : Int32} (hd : decode M.2.1 pc = .ok (.irem, 1)) (hne : ¬ y = 0) (k : lx G M (pc + 1) L (.int (x - x / y * y) :: st) s Q) : lx G M pc L (.int y :: .int x :: st) s Q := fun h0 hr => bm_irem hd hne (k h0 hr)
theorem lx_i2l {x : Int32} (hd : decode M.2.1 pc = .ok (.i2l, 1)) (k : lx G M (pc + 1) L (.long x.toInt64 :: st) s Q) : lx G M pc L (.int x :: st) s Q := fun h0 hr => bm_i2l hd (k h0 hr)
theorem lx_lcmp {x y : Int64} (hd : decode M.2.1 pc = .ok (.lcmp, 1)) (k : lx G M (pc + 1) L (.int (lg_cmp x y) :: st) s Q) : lx G M pc L (.long y :: .long x :: st) s Q := fun h0 hr => bm_lcmp hd (k h0 hr)
theorem lx_dup {v : Value} (hd : decode M.2.1 pc = .ok (.dup, 1)) (hv : v.category = 1) (k : lx G M (pc + 1) L (v :: v :: st) s Q) : lx G M pc L (v :: st) s Q := fun h0 hr => bm_dup hd hv (k h0 hr)
theorem lx_pop {v : Value} (hd : decode M.2.1 pc = .ok (.pop, 1)) (hv : v.category = 1) (k : lx G M (pc + 1) L (st) s Q) : lx G M pc L (v :: st) s Q := fun h0 hr => bm_pop hd hv (k h0 hr)
theorem lx_dup_x1 {v u : Value} (hd : decode M.2.1 pc = .ok (.dup_x1, 1)) (hv : v.category = 1) (hu : u.category = 1) (k : lx G M (pc + 1) L (v :: u :: v :: st) s Q) : lx G M pc L (v :: u :: st) s Q := fun h0 hr => bm_dup_x1 hd hv hu (k h0 hr)
theorem lx_dup2 {v u : Value} (hd : decode M.2.1 pc = .ok (.dup2, 1)) (hv : v.category = 1) (hu : u.category = 1) (k : lx G M (pc + 1) L (v :: u :: v :: u :: st) s Q) : lx G M pc L (v :: u :: st) s Q := fun h0 hr => bm_dup2 hd hv hu (k h0 hr)
theorem lx_dup_x2 {v u t : Value} (hd : decode M.2.1 pc = .ok (.dup_x2, 1)) (hv : v.category = 1) (hu : u.category = 1) (ht : t.category = 1) (k : lx G M (pc + 1) L (v :: u :: t :: v :: st) s Q) : lx G M pc L (v :: u :: t :: st) s Q := fun h0 hr => bm_dup_x2 hd hv hu ht (k h0 hr)
theorem lx_goto {off : Int} {tgt : Nat} (hd : decode M.2.1 pc = .ok (.goto off, 3)) (ht : (pc : Int) + off = (tgt : Int)) (k : lx G M tgt L st s Q) : lx G M pc L st s Q := fun h0 hr => bm_goto hd ht (k h0 hr)
theorem lx_if_eq {x : Int32} {off : Int} {tgt : Nat} (hd : decode M.2.1 pc = .ok (.ifCond .eq off, 3)) (ht : (pc : Int) + off = (tgt : Int)) (kt : x = 0 → lx G M tgt L st s Q) (kf : ¬ x = 0 → lx G M (pc + 3) L st s Q) : lx G M pc L (.int x :: st) s Q := fun h0 hr => bm_if_eq hd ht (fun q => kt q h0 hr) (fun q => kf q h0 hr)
theorem lx_icmp_eq {x y : Int32} {off : Int} {tgt : Nat} (hd : decode M.2.1 pc = .ok (.if_icmp .eq off, 3)) (ht : (pc : Int) + off = (tgt : Int)) (kt : x = y → lx G M tgt L st s Q) (kf : ¬ x = y → lx G M (pc + 3) L st s Q) : lx G M pc L (.int y :: .int x :: st) s Q := fun h0 hr => bm_icmp_eq hd ht (fun q => kt q h0 hr) (fun q => kf q h0 hr)
theorem lx_if_ne {x : Int32} {off : Int} {tgt : Nat} (hd : decode M.2.1 pc = .ok (.ifCond .ne off, 3)) (ht : (pc : Int) + off = (tgt : Int)) (kt : ¬ x = 0 → lx G M tgt L st s Q) (kf : x = 0 → lx G M (pc + 3) L st s Q) : lx G M pc L (.int x :: st) s Q := fun h0 hr => bm_if_ne hd ht (fun q => kt q h0 hr) (fun q => kf q h0 hr)
theorem lx_icmp_ne {x y : Int32} {off : Int} {tgt : Nat} (hd : decode M.2.1 pc = .ok (.if_icmp .ne off, 3)) (ht : (pc : Int) + off = (tgt : Int)) (kt : ¬ x = y → lx G M tgt L st s Q) (kf : x = y → lx G M (pc + 3) L st s Q) : lx G M pc L (.int y :: .int x :: st) s Q := fun h0 hr => bm_icmp_ne hd ht (fun q => kt q h0 hr) (fun q => kf q h0 hr)
theorem lx_if_lt {x : Int32} {off : Int} {tgt : Nat} (hd : decode M.2.1 pc = .ok (.ifCond .lt off, 3)) (ht : (pc : Int) + off = (tgt : Int)) (kt : x < 0 → lx G M tgt L st s Q) (kf : ¬ x < 0 → lx G M (pc + 3) L st s Q) : lx G M pc L (.int x :: st) s Q := fun h0 hr => bm_if_lt hd ht (fun q => kt q h0 hr) (fun q => kf q h0 hr)
theorem lx_icmp_lt {x y : Int32} {off : Int} {tgt : Nat} (hd : decode M.2.1 pc = .ok (.if_icmp .lt off, 3)) (ht : (pc : Int) + off = (tgt : Int)) (kt : x < y → lx G M tgt L st s Q) (kf : ¬ x < y → lx G M (pc + 3) L st s Q) : lx G M pc L (.int y :: .int x :: st) s Q := fun h0 hr => bm_icmp_lt hd ht (fun q => kt q h0 hr) (fun q => kf q h0 hr)
theorem lx_if_ge {x : Int32} {off : Int} {tgt : Nat} (hd : decode M.2.1 pc = .ok (.ifCond .ge off, 3)) (ht : (pc : Int) + off = (tgt : Int)) (kt : 0 ≤ x → lx G M tgt L st s Q) (kf : ¬ 0 ≤ x → lx G M (pc + 3) L st s Q) : lx G M pc L (.int x :: st) s Q := fun h0 hr => bm_if_ge hd ht (fun q => kt q h0 hr) (fun q => kf q h0 hr)
theorem lx_icmp_ge {x y : Int32} {off : Int} {tgt : Nat} (hd : decode M.2.1 pc = .ok (.if_icmp .ge off, 3)) (ht : (pc : Int) + off = (tgt : Int)) (kt : y ≤ x → lx G M tgt L st s Q) (kf : ¬ y ≤ x → lx G M (pc + 3) L st s Q) : lx G M pc L (.int y :: .int x :: st) s Q := fun h0 hr => bm_icmp_ge hd ht (fun q => kt q h0 hr) (fun q => kf q h0 hr)
theorem lx_if_gt {x : Int32} {off : Int} {tgt : Nat} (hd : decode M.2.1 pc = .ok (.ifCond .gt off, 3)) (ht : (pc : Int) + off = (tgt : Int)) (kt : 0 < x → lx G M tgt L st s Q) (kf : ¬ 0 < x → lx G M (pc + 3) L st s Q) : lx G M pc L (.int x :: st) s Q := fun h0 hr => bm_if_gt hd ht (fun q => kt q h0 hr) (fun q => kf q h0 hr)
theorem lx_icmp_gt {x y : Int32} {off : Int} {tgt : Nat} (hd : decode M.2.1 pc = .ok (.if_icmp .gt off, 3)) (ht : (pc : Int) + off = (tgt : Int)) (kt : y < x → lx G M tgt L st s Q) (kf : ¬ y < x → lx G M (pc + 3) L st s Q) : lx G M pc L (.int y :: .int x :: st) s Q := fun h0 hr => bm_icmp_gt hd ht (fun q => kt q h0 hr) (fun q => kf q h0 hr)
theorem lx_if_le {x : Int32} {off : Int} {tgt : Nat} (hd : decode M.2.1 pc = .ok (.ifCond .le off, 3)) (ht : (pc : Int) + off = (tgt : Int)) (kt : x ≤ 0 → lx G M tgt L st s Q) (kf : ¬ x ≤ 0 → lx G M (pc + 3) L st s Q) : lx G M pc L (.int x :: st) s Q := fun h0 hr => bm_if_le hd ht (fun q => kt q h0 hr) (fun q => kf q h0 hr)
theorem lx_icmp_le {x y : Int32} {off : Int} {tgt : Nat} (hd : decode M.2.1 pc = .ok (.if_icmp .le off, 3)) (ht : (pc : Int) + off = (tgt : Int)) (kt : x ≤ y → lx G M tgt L st s Q) (kf : ¬ x ≤ y → lx G M (pc + 3) L st s Q) : lx G M pc L (.int y :: .int x :: st) s Q := fun h0 hr => bm_icmp_le hd ht (fun q => kt q h0 hr) (fun q => kf q h0 hr)
theorem lx_iload_n {n : Fin 4} {x : Int32} (hd : decode M.2.1 pc = .ok (.iload_n n, 1)) (hl : L[(n : Nat)]? = some (some (.int x))) (k : lx G M (pc + 1) L (.int x :: st) s Q) : lx G M pc L st s Q := fun h0 hr => bm_iload_n hd hl (k h0 hr)
theorem lx_iload {i : Nat} {x : Int32} (hd : decode M.2.1 pc = .ok (.iload i, 2)) (hl : L[i]? = some (some (.int x))) (k : lx G M (pc + 2) L (.int x :: st) s Q) : lx G M pc L st s Q := fun h0 hr => bm_iload hd hl (k h0 hr)
theorem lx_aload_n {n : Fin 4} {x : Nat} (hd : decode M.2.1 pc = .ok (.aload_n n, 1)) (hl : L[(n : Nat)]? = some (some (.ref x))) (k : lx G M (pc + 1) L (.ref x :: st) s Q) : lx G M pc L st s Q := fun h0 hr => bm_aload_n hd hl (k h0 hr)
theorem lx_aload {i : Nat} {x : Nat} (hd : decode M.2.1 pc = .ok (.aload i, 2)) (hl : L[i]? = some (some (.ref x))) (k : lx G M (pc + 2) L (.ref x :: st) s Q) : lx G M pc L st s Q := fun h0 hr => bm_aload hd hl (k h0 hr)
theorem lx_tableIn {d lo hi : Int} {offs : Array Int} {len : Nat} {x : Int32} {off : Int} {tgt : Nat} (hd : decode M.2.1 pc = .ok (.tableswitch d lo hi offs, len)) (h1 : ¬ x.toInt < lo) (h2 : ¬ hi < x.toInt) (ho : offs[(x.toInt - lo).toNat]? = some off) (ht : (pc : Int) + off = (tgt : Int)) (k : lx G M tgt L st s Q) : lx G M pc L (.int x :: st) s Q := fun h0 hr => bm_tableIn hd h1 h2 ho ht (k h0 hr)
theorem lx_tableOut {d lo hi : Int} {offs : Array Int} {len : Nat} {x : Int32} {tgt : Nat} (hd : decode M.2.1 pc = .ok (.tableswitch d lo hi offs, len)) (hx : x.toInt < lo ∨ hi < x.toInt) (ht : (pc : Int) + d = (tgt : Int)) (k : lx G M tgt L st s Q) : lx G M pc L (.int x :: st) s Q := fun h0 hr => bm_tableOut hd hx ht (k h0 hr)
theorem lx_lookup {d : Int} {ps : Array (Int × Int)} {len : Nat} {x : Int32} {off : Int} {tgt : Nat} (hd : decode M.2.1 pc = .ok (.lookupswitch d ps, len)) (hp : (ps.toList.zip (ps.toList.drop 1)).all (fun (a, next) => a.1 < next.1) = true) (ho : Op.lookupswitch.offset ps.toList d x.toInt = off) (ht : (pc : Int) + off = (tgt : Int)) (k : lx G M tgt L st s Q) : lx G M pc L (.int x :: st) s Q := fun h0 hr => bm_lookup hd hp ho ht (k h0 hr)
theorem lx_istore_n {n : Fin 4} {x : Int32} (hd : decode M.2.1 pc = .ok (.istore_n n, 1)) (hn : (n : Nat) < M.2.2.1) (k : lx G M (pc + 1) (L.set n (some (.int x))) st s Q) : lx G M pc L (.int x :: st) s Q := fun h0 hr => bm_istore_n hd hn (k h0 hr)
theorem lx_istore {i : Nat} {x : Int32} (hd : decode M.2.1 pc = .ok (.istore i, 2)) (hn : i < M.2.2.1) (k : lx G M (pc + 2) (L.set i (some (.int x))) st s Q) : lx G M pc L (.int x :: st) s Q := fun h0 hr => bm_istore hd hn (k h0 hr)
theorem lx_astore_n {n : Fin 4} {x : Nat} (hd : decode M.2.1 pc = .ok (.astore_n n, 1)) (hn : (n : Nat) < M.2.2.1) (k : lx G M (pc + 1) (L.set n (some (.ref x))) st s Q) : lx G M pc L (.ref x :: st) s Q := fun h0 hr => bm_astore_n hd hn (k h0 hr)
theorem lx_astore {i : Nat} {x : Nat} (hd : decode M.2.1 pc = .ok (.astore i, 2)) (hn : i < M.2.2.1) (k : lx G M (pc + 2) (L.set i (some (.ref x))) st s Q) : lx G M pc L (.ref x :: st) s Q := fun h0 hr => bm_astore hd hn (k h0 hr)
theorem lx_iinc {i : Nat} {n : Int} {x : Int32} (hd : decode M.2.1 pc = .ok (.iinc i n, 3)) (hn : i < M.2.2.1) (hl : L[i]? = some (some (.int x))) (k : lx G M (pc + 3) (L.set i (some (.int (x + Int32.ofInt n)))) st s Q) : lx G M pc L st s Q := fun h0 hr => bm_iinc hd hn hl (k h0 hr)
theorem lx_iconst {n : Int} {v : Int32} (hd : decode M.2.1 pc = .ok (.iconst n, 1)) (hv : Int32.ofInt n = v) (k : lx G M (pc + 1) L (.int v :: st) s Q) : lx G M pc L st s Q := fun h0 hr => bm_iconst hd hv (k h0 hr)
theorem lx_bipush {n : Int} {v : Int32} (hd : decode M.2.1 pc = .ok (.bipush n, 2)) (hv : (Int8.ofInt n).toInt32 = v) (k : lx G M (pc + 2) L (.int v :: st) s Q) : lx G M pc L st s Q := fun h0 hr => bm_bipush hd hv (k h0 hr)
theorem lx_sipush {n : Int} {v : Int32} (hd : decode M.2.1 pc = .ok (.sipush n, 3)) (hv : (Int16.ofInt n).toInt32 = v) (k : lx G M (pc + 3) L (.int v :: st) s Q) : lx G M pc L st s Q := fun h0 hr => bm_sipush hd hv (k h0 hr)
theorem lx_iadd {x y : Int32} (hd : decode M.2.1 pc = .ok (.iadd, 1)) (k : lx G M (pc + 1) L (.int (x + y) :: st) s Q) : lx G M pc L (.int y :: .int x :: st) s Q := fun h0 hr => bm_iadd hd (k h0 hr)
theorem lx_iincC {i : Nat} {n : Nat} {x : Int32} (hd : decode M.2.1 pc = .ok (.iinc i (n : Int), 3)) (hn : i < M.2.2.1) (hl : L[i]? = some (some (.int x))) (k : lx G M (pc + 3) (L.set i (some (.int (x + nI n)))) st s Q) : lx G M pc L st s Q := lx_iinc hd hn hl (by
  have e : Int32.ofInt (n : Int) = nI n := by unfold nI; exact Int32.ofInt_eq_ofNat
  rw [e]; exact k)
theorem lx_tab {d hi : Int} {offs : Array Int} {len : Nat} {x : Int32} {off : Int} {tgt : Nat} (hd : decode M.2.1 pc = .ok (.tableswitch d 0 hi offs, len)) (i : Nat) (hx : x = nI i) (hi1 : i < 2 ^ 31) (h2 : ¬ hi < (i : Int)) (ho : offs[i]? = some off) (ht : (pc : Int) + off = (tgt : Int)) (k : lx G M tgt L st s Q) : lx G M pc L (.int x :: st) s Q := by
  subst hx
  refine lx_tableIn hd ?_ ?_ (off := off) ?_ ht k
  · rw [nI_toInt hi1]; omega
  · rw [nI_toInt hi1]; exact h2
  · rw [nI_toInt hi1]
    rw [show ((i : Int) - 0).toNat = i from by omega]
    exact ho
theorem lx_sld {i : Int32} {j : Nat} (hd : decode M.2.1 pc = .ok (.iaload, 1)) (hj : j < bm_xl G) (h31 : j < 2 ^ 31) (ei : i = nI j) (kk : lx G M (pc + 1) L (.int (bm_xs G j) :: st) s Q) : lx G M pc L (.int i :: .ref 1 :: st) s Q := fun h0 hr => by
  subst ei
  refine bm_sld hd (cx_vin hj h31) ?_
  rw [nI_clamp h31]
  exact kk h0 hr
theorem lx_slen (hd : decode M.2.1 pc = .ok (.arraylength, 1)) (kk : lx G M (pc + 1) L (.int (nI (bm_xl G)) :: st) s Q) : lx G M pc L (.ref 1 :: st) s Q := fun h0 hr => bm_slen hd (kk h0 hr)
theorem lx_lald (hd : decode M.2.1 pc = .ok (.laload, 1)) (kk : lx G M (pc + 1) L (.long s.2.2 :: st) s Q) : lx G M pc L (.int (nI 0) :: .ref 95 :: st) s Q := fun h0 hr => by
  obtain ⟨g, q3, q4⟩ := hr.2.2
  refine bm_lald hd q3 (cx_vin (by omega) (by omega)) ?_
  have e0 : (nI 0).toNatClampNeg = 0 := by decide
  rw [e0, q4]
  exact kk h0 hr
theorem lx_last {x : Int64} (hd : decode M.2.1 pc = .ok (.lastore, 1)) (kk : lx G M (pc + 1) L st (s.1, s.2.1, x) Q) : lx G M pc L (.long x :: .int (nI 0) :: .ref 95 :: st) s Q := fun h0 hr => by
  obtain ⟨q1, q2, g, q3, q4⟩ := hr
  have e0 : (nI 0).toNatClampNeg = 0 := by decide
  refine bm_last hd q3 (cx_vin (by omega) (by omega)) ?_
  rw [e0]
  have hl := (List.getElem?_eq_some_iff.mp q3).1
  refine kk _ ⟨⟨?_, ?_, fun p k hk => ?_, q1.2.2.2.1, q1.2.2.2.2.1, q1.2.2.2.2.2⟩, ⟨?_, fun k hk => ?_⟩, vp_updL g 0 x, ?_, ?_⟩
  · rw [List.length_set]; exact q1.1
  · have e : bm_sz (h0.set 95 (.inl (2, 1, .inr (.inl (vp_updL g 0 x))))) = bm_sz h0 := bm_sz_set q3 rfl
    exact e.trans q1.2.1
  · rw [List.getElem?_set, if_neg]
    · exact q1.2.2.1 p k hk
    · intro e
      have := q1.2.2.2.2.2 p (by omega) (by omega)
      rw [this] at hk; cases hk
  · rw [List.getElem?_set, if_neg (by decide)]; exact q2.1
  · have w := rx_ad k (rx_an k hk) hk
    have w2 : rx_a k < 95 := w.2
    rw [List.getElem?_set, if_neg (by omega)]; exact q2.2 k hk
  · rw [List.getElem?_set, if_pos rfl, if_pos hl]
  · exact pk_uLs
theorem lx_zret {x : Int32} (hd : decode M.2.1 pc = .ok (.ireturn, 1)) (hr : M.2.2.2.1 = some .boolean) (hn : narrow .boolean (.int x) = .int x) (hp : Q (.inl (some (.int x))) s) : lx G M pc L [.int x] s Q := fun h0 h => bm_zret hd hr hn ⟨s, h, hp⟩
theorem lx_iret {x : Int32} (hd : decode M.2.1 pc = .ok (.ireturn, 1)) (hr : M.2.2.2.1 = some .int) (hp : Q (.inl (some (.int x))) s) : lx G M pc L [.int x] s Q := fun h0 h => bm_iret hd hr ⟨s, h, hp⟩
theorem lx_callC {n ci p : Nat} {av : List Value} (hg : bm_iv M K pc ci n) (hn : av.length = n) (hst : (st.map fun v => v.category).sum ≤ 8) (hci : ci < 400) (hs : cH s.1 p = some (ci, 0))
    (hc : cx_T G K (va_rf (some p) :: av) s.1 (fun v c2 => lx G M (pc + 3) L (v.toList ++ st) (c2, s.2) Q)) : lx G M pc L (av.reverse ++ .ref p :: st) s Q := fun h hr =>
  bm_callV hg hn (cx_obj hr.1 hci hs) hst ((hc h hr.1).mono fun v hf w => by
    obtain ⟨w1, s2, w2, w3⟩ := w
    exact w3 hf (lx_ofC hr w1 w2))
theorem lx_callM {n : Nat} {av : List Value} (hg : bm_iv M K pc 11 n) (hn : av.length = n) (hst : (st.map fun v => v.category).sum ≤ 8)
    (hc : rx_T G K (.ref rx_o :: av) s.2.1 (fun v s2 => lx G M (pc + 3) L (v.toList ++ st) (s.1, s2, s.2.2) Q)) : lx G M pc L (av.reverse ++ .ref rx_o :: st) s Q := fun h hr =>
  bm_callV hg hn hr.2.1.1 hst ((hc h hr.2.1).mono fun v hf w => by
    obtain ⟨w1, s2, w2, w3⟩ := w
    exact w3 hf (lx_ofM hr w1 w2))
theorem lx_callW {n : Nat} {hh : List (Nat × Nat × Nat × Nat)} {av : List Value} (hg : bm_isW M K hh pc n) (hn : av.length = n) (hst : (st.map fun v => v.category).sum ≤ 8)
    (hc : lx_TW G K hh av s (fun v t2 => lx G M (pc + 3) L (v.toList ++ st) t2 Q)) : lx G M pc L (av.reverse ++ st) s Q := fun h hr => by
  obtain ⟨v, hf, hM, t2, w2, w3⟩ := hc h hr
  exact bm_callSW hg hn hst ⟨v, hf, hM, w3 hf w2⟩
theorem lx_metW {hh : List (Nat × Nat × Nat × Nat)} {av : List Value} {Q : Option Value → lx_S → Prop} (hy : plainName M.1.cls = true) (hc : ∀ v ∈ av, v.category = 1) (hn : av.length ≤ M.2.2.1)
    (k : lx G M 0 (av.map some ++ List.replicate (M.2.2.1 - av.length) none) [] s (fun r s2 => ∃ v, r = .inl v ∧ Q v s2)) : lx_TW G M hh av s Q := fun h hr => by
  refine bm_metW hy hc hn ((k h hr).mono fun r hf w => ?_)
  obtain ⟨t2, w1, v, e, w2⟩ := w
  exact ⟨v, e, t2, w1, w2⟩
/-- a call within the wrappers' try -/
theorem lx_callT {n ci p p1 p2 : Nat} {av : List Value} {r : bm_R} {c2 : cx_S} (hg : bm_iv M K pc ci n) (hnl : ∃ ix, decode M.2.1 pc = .ok (.invokevirtual ix, 3) ∧ Cond.methodLink M.1.cls ix K.1 ∈ bm_Ts) (hw : bm_hw M pc p1 p2) (hn : av.length = n) (hst : (st.map fun v => v.category).sum ≤ 8) (hci : ci < 400) (hs : cH s.1 p = some (ci, 0))
    (hc : ∀ Q2 : bm_R → cx_S → Prop, Q2 r c2 → cx_T2 G K (va_rf (some p) :: av) s.1 Q2)
    (k0 : ∀ v, r = .inl v → lx G M (pc + 3) L (v.toList ++ st) (c2, s.2) Q)
    (k1 : ∀ x, r = .inr x → cH c2 x = some (12, 0) ∧ lx G M p1 L [.ref x] (c2, s.2) Q ∨ cH c2 x = some (13, 0) ∧ lx G M p2 L [.ref x] (c2, s.2) Q) : lx G M pc L (av.reverse ++ .ref p :: st) s Q := fun h hr => by
  obtain ⟨r2, hf, hM, w1, s2, w2, e1, e2⟩ := hc (fun r3 c3 => r3 = r ∧ c3 = c2) ⟨rfl, rfl⟩ h hr.1
  subst e1 e2
  have hrep := lx_ofC hr w1 w2
  cases r2 with
  | inl v => exact bm_callV hg hn (cx_obj hr.1 hci hs) hst ⟨v, hf, hM, k0 v rfl hf hrep⟩
  | inr x =>
    have hfs : ∀ ci, cx_ks ci = [] → ci < 400 → cH s2 x = some (ci, 0) → hf[x]? = some (.inr (ci, [])) := fun ci e1 e2 e3 => by
      rw [cx_obj w2 e2 e3]
      unfold cx_fs
      rw [e1]; rfl
    rcases k1 x rfl with ⟨q1, q2⟩ | ⟨q1, q2⟩
    · exact bm_callVc true hg hnl hw hn (cx_obj hr.1 hci hs) hst hM (hfs 12 rfl (by decide) q1) (q2 hf hrep)
    · exact bm_callVc false hg hnl hw hn (cx_obj hr.1 hci hs) hst hM (hfs 13 rfl (by decide) q1) (q2 hf hrep)
end LX
section LX2
variable {G : bm_G} {M K : bm_M} {pc : Nat} {L L' : bm_L} {st : List Value} {s : lx_S} {Q : bm_R → lx_S → Prop}
theorem lx_callC0 {ci p : Nat} (hg : bm_iv M K pc ci 0) (hst : (st.map fun v => v.category).sum ≤ 8) (hci : ci < 400) (hs : cH s.1 p = some (ci, 0)) (hc : cx_Ti G K (va_rf (some p) :: []) s.1 (fun x c2 => lx G M (pc + 3) L (.int x :: st) (c2, s.2) Q)) : lx G M pc L (.ref p :: st) s Q :=
  lx_callC (av := []) hg rfl hst hci hs (hc.mono fun v s2 w => by
    obtain ⟨x, rfl, w⟩ := w
    exact w)
theorem lx_callM0 (hg : bm_iv M K pc 11 0) (hst : (st.map fun v => v.category).sum ≤ 8) (hc : rx_Ti G K (.ref rx_o :: []) s.2.1 (fun x s2 => lx G M (pc + 3) L (.int x :: st) (s.1, s2, s.2.2) Q)) : lx G M pc L (.ref rx_o :: st) s Q :=
  lx_callM (av := []) hg rfl hst (hc.mono fun v s2 w => by
    obtain ⟨x, rfl, w⟩ := w
    exact w)
theorem lx_callM0v (hg : bm_iv M K pc 11 0) (hst : (st.map fun v => v.category).sum ≤ 8) (hc : rx_Tv G K (.ref rx_o :: []) s.2.1 (fun s2 => lx G M (pc + 3) L st (s.1, s2, s.2.2) Q)) : lx G M pc L (.ref rx_o :: st) s Q :=
  lx_callM (av := []) hg rfl hst (hc.mono fun v s2 w => by
    obtain ⟨rfl, w⟩ := w
    exact w)
theorem lx_callC1 {a : Value} {ci p : Nat} (hg : bm_iv M K pc ci 1) (hst : (st.map fun v => v.category).sum ≤ 8) (hci : ci < 400) (hs : cH s.1 p = some (ci, 0)) (hc : cx_Ti G K (va_rf (some p) :: [a]) s.1 (fun x c2 => lx G M (pc + 3) L (.int x :: st) (c2, s.2) Q)) : lx G M pc L (a :: .ref p :: st) s Q :=
  lx_callC (av := [a]) hg rfl hst hci hs (hc.mono fun v s2 w => by
    obtain ⟨x, rfl, w⟩ := w
    exact w)
theorem lx_callM1 {a : Value} (hg : bm_iv M K pc 11 1) (hst : (st.map fun v => v.category).sum ≤ 8) (hc : rx_Ti G K (.ref rx_o :: [a]) s.2.1 (fun x s2 => lx G M (pc + 3) L (.int x :: st) (s.1, s2, s.2.2) Q)) : lx G M pc L (a :: .ref rx_o :: st) s Q :=
  lx_callM (av := [a]) hg rfl hst (hc.mono fun v s2 w => by
    obtain ⟨x, rfl, w⟩ := w
    exact w)
theorem lx_callM1v {a : Value} (hg : bm_iv M K pc 11 1) (hst : (st.map fun v => v.category).sum ≤ 8) (hc : rx_Tv G K (.ref rx_o :: [a]) s.2.1 (fun s2 => lx G M (pc + 3) L st (s.1, s2, s.2.2) Q)) : lx G M pc L (a :: .ref rx_o :: st) s Q :=
  lx_callM (av := [a]) hg rfl hst (hc.mono fun v s2 w => by
    obtain ⟨rfl, w⟩ := w
    exact w)
theorem lx_callC2 {a b : Value} {ci p : Nat} (hg : bm_iv M K pc ci 2) (hst : (st.map fun v => v.category).sum ≤ 8) (hci : ci < 400) (hs : cH s.1 p = some (ci, 0)) (hc : cx_Ti G K (va_rf (some p) :: [a, b]) s.1 (fun x c2 => lx G M (pc + 3) L (.int x :: st) (c2, s.2) Q)) : lx G M pc L (b :: a :: .ref p :: st) s Q :=
  lx_callC (av := [a, b]) hg rfl hst hci hs (hc.mono fun v s2 w => by
    obtain ⟨x, rfl, w⟩ := w
    exact w)
theorem lx_callM2 {a b : Value} (hg : bm_iv M K pc 11 2) (hst : (st.map fun v => v.category).sum ≤ 8) (hc : rx_Ti G K (.ref rx_o :: [a, b]) s.2.1 (fun x s2 => lx G M (pc + 3) L (.int x :: st) (s.1, s2, s.2.2) Q)) : lx G M pc L (b :: a :: .ref rx_o :: st) s Q :=
  lx_callM (av := [a, b]) hg rfl hst (hc.mono fun v s2 w => by
    obtain ⟨x, rfl, w⟩ := w
    exact w)
theorem lx_callM2v {a b : Value} (hg : bm_iv M K pc 11 2) (hst : (st.map fun v => v.category).sum ≤ 8) (hc : rx_Tv G K (.ref rx_o :: [a, b]) s.2.1 (fun s2 => lx G M (pc + 3) L st (s.1, s2, s.2.2) Q)) : lx G M pc L (b :: a :: .ref rx_o :: st) s Q :=
  lx_callM (av := [a, b]) hg rfl hst (hc.mono fun v s2 w => by
    obtain ⟨rfl, w⟩ := w
    exact w)
theorem lx_callW2 {a b : Value} {hh : List (Nat × Nat × Nat × Nat)} (hg : bm_isW M K hh pc 2) (hst : (st.map fun v => v.category).sum ≤ 8) (hc : lx_TW G K hh [a, b] s (fun v t2 => ∃ x, v = some (.int x) ∧ lx G M (pc + 3) L (.int x :: st) t2 Q)) : lx G M pc L (b :: a :: st) s Q :=
  lx_callW (av := [a, b]) hg rfl hst (fun h hr => by
    obtain ⟨v, hf, hM, t2, w2, x, rfl, w3⟩ := hc h hr
    exact ⟨_, hf, hM, t2, w2, w3⟩)
theorem lx_callC3 {a b c : Value} {ci p : Nat} (hg : bm_iv M K pc ci 3) (hst : (st.map fun v => v.category).sum ≤ 8) (hci : ci < 400) (hs : cH s.1 p = some (ci, 0)) (hc : cx_Ti G K (va_rf (some p) :: [a, b, c]) s.1 (fun x c2 => lx G M (pc + 3) L (.int x :: st) (c2, s.2) Q)) : lx G M pc L (c :: b :: a :: .ref p :: st) s Q :=
  lx_callC (av := [a, b, c]) hg rfl hst hci hs (hc.mono fun v s2 w => by
    obtain ⟨x, rfl, w⟩ := w
    exact w)
theorem lx_callM3 {a b c : Value} (hg : bm_iv M K pc 11 3) (hst : (st.map fun v => v.category).sum ≤ 8) (hc : rx_Ti G K (.ref rx_o :: [a, b, c]) s.2.1 (fun x s2 => lx G M (pc + 3) L (.int x :: st) (s.1, s2, s.2.2) Q)) : lx G M pc L (c :: b :: a :: .ref rx_o :: st) s Q :=
  lx_callM (av := [a, b, c]) hg rfl hst (hc.mono fun v s2 w => by
    obtain ⟨x, rfl, w⟩ := w
    exact w)
theorem lx_callM3v {a b c : Value} (hg : bm_iv M K pc 11 3) (hst : (st.map fun v => v.category).sum ≤ 8) (hc : rx_Tv G K (.ref rx_o :: [a, b, c]) s.2.1 (fun s2 => lx G M (pc + 3) L st (s.1, s2, s.2.2) Q)) : lx G M pc L (c :: b :: a :: .ref rx_o :: st) s Q :=
  lx_callM (av := [a, b, c]) hg rfl hst (hc.mono fun v s2 w => by
    obtain ⟨rfl, w⟩ := w
    exact w)
theorem lx_callW3 {a b c : Value} {hh : List (Nat × Nat × Nat × Nat)} (hg : bm_isW M K hh pc 3) (hst : (st.map fun v => v.category).sum ≤ 8) (hc : lx_TW G K hh [a, b, c] s (fun v t2 => ∃ x, v = some (.int x) ∧ lx G M (pc + 3) L (.int x :: st) t2 Q)) : lx G M pc L (c :: b :: a :: st) s Q :=
  lx_callW (av := [a, b, c]) hg rfl hst (fun h hr => by
    obtain ⟨v, hf, hM, t2, w2, x, rfl, w3⟩ := hc h hr
    exact ⟨_, hf, hM, t2, w2, w3⟩)
theorem lx_callC4 {a b c d : Value} {ci p : Nat} (hg : bm_iv M K pc ci 4) (hst : (st.map fun v => v.category).sum ≤ 8) (hci : ci < 400) (hs : cH s.1 p = some (ci, 0)) (hc : cx_Ti G K (va_rf (some p) :: [a, b, c, d]) s.1 (fun x c2 => lx G M (pc + 3) L (.int x :: st) (c2, s.2) Q)) : lx G M pc L (d :: c :: b :: a :: .ref p :: st) s Q :=
  lx_callC (av := [a, b, c, d]) hg rfl hst hci hs (hc.mono fun v s2 w => by
    obtain ⟨x, rfl, w⟩ := w
    exact w)
theorem lx_callM4 {a b c d : Value} (hg : bm_iv M K pc 11 4) (hst : (st.map fun v => v.category).sum ≤ 8) (hc : rx_Ti G K (.ref rx_o :: [a, b, c, d]) s.2.1 (fun x s2 => lx G M (pc + 3) L (.int x :: st) (s.1, s2, s.2.2) Q)) : lx G M pc L (d :: c :: b :: a :: .ref rx_o :: st) s Q :=
  lx_callM (av := [a, b, c, d]) hg rfl hst (hc.mono fun v s2 w => by
    obtain ⟨x, rfl, w⟩ := w
    exact w)
theorem lx_callM4v {a b c d : Value} (hg : bm_iv M K pc 11 4) (hst : (st.map fun v => v.category).sum ≤ 8) (hc : rx_Tv G K (.ref rx_o :: [a, b, c, d]) s.2.1 (fun s2 => lx G M (pc + 3) L st (s.1, s2, s.2.2) Q)) : lx G M pc L (d :: c :: b :: a :: .ref rx_o :: st) s Q :=
  lx_callM (av := [a, b, c, d]) hg rfl hst (hc.mono fun v s2 w => by
    obtain ⟨rfl, w⟩ := w
    exact w)
theorem lx_callW4 {a b c d : Value} {hh : List (Nat × Nat × Nat × Nat)} (hg : bm_isW M K hh pc 4) (hst : (st.map fun v => v.category).sum ≤ 8) (hc : lx_TW G K hh [a, b, c, d] s (fun v t2 => ∃ x, v = some (.int x) ∧ lx G M (pc + 3) L (.int x :: st) t2 Q)) : lx G M pc L (d :: c :: b :: a :: st) s Q :=
  lx_callW (av := [a, b, c, d]) hg rfl hst (fun h hr => by
    obtain ⟨v, hf, hM, t2, w2, x, rfl, w3⟩ := hc h hr
    exact ⟨_, hf, hM, t2, w2, w3⟩)
theorem lx_callC5 {a b c d e : Value} {ci p : Nat} (hg : bm_iv M K pc ci 5) (hst : (st.map fun v => v.category).sum ≤ 8) (hci : ci < 400) (hs : cH s.1 p = some (ci, 0)) (hc : cx_Ti G K (va_rf (some p) :: [a, b, c, d, e]) s.1 (fun x c2 => lx G M (pc + 3) L (.int x :: st) (c2, s.2) Q)) : lx G M pc L (e :: d :: c :: b :: a :: .ref p :: st) s Q :=
  lx_callC (av := [a, b, c, d, e]) hg rfl hst hci hs (hc.mono fun v s2 w => by
    obtain ⟨x, rfl, w⟩ := w
    exact w)
theorem lx_callM5 {a b c d e : Value} (hg : bm_iv M K pc 11 5) (hst : (st.map fun v => v.category).sum ≤ 8) (hc : rx_Ti G K (.ref rx_o :: [a, b, c, d, e]) s.2.1 (fun x s2 => lx G M (pc + 3) L (.int x :: st) (s.1, s2, s.2.2) Q)) : lx G M pc L (e :: d :: c :: b :: a :: .ref rx_o :: st) s Q :=
  lx_callM (av := [a, b, c, d, e]) hg rfl hst (hc.mono fun v s2 w => by
    obtain ⟨x, rfl, w⟩ := w
    exact w)
theorem lx_callM5v {a b c d e : Value} (hg : bm_iv M K pc 11 5) (hst : (st.map fun v => v.category).sum ≤ 8) (hc : rx_Tv G K (.ref rx_o :: [a, b, c, d, e]) s.2.1 (fun s2 => lx G M (pc + 3) L st (s.1, s2, s.2.2) Q)) : lx G M pc L (e :: d :: c :: b :: a :: .ref rx_o :: st) s Q :=
  lx_callM (av := [a, b, c, d, e]) hg rfl hst (hc.mono fun v s2 w => by
    obtain ⟨rfl, w⟩ := w
    exact w)
theorem lx_callW5 {a b c d e : Value} {hh : List (Nat × Nat × Nat × Nat)} (hg : bm_isW M K hh pc 5) (hst : (st.map fun v => v.category).sum ≤ 8) (hc : lx_TW G K hh [a, b, c, d, e] s (fun v t2 => ∃ x, v = some (.int x) ∧ lx G M (pc + 3) L (.int x :: st) t2 Q)) : lx G M pc L (e :: d :: c :: b :: a :: st) s Q :=
  lx_callW (av := [a, b, c, d, e]) hg rfl hst (fun h hr => by
    obtain ⟨v, hf, hM, t2, w2, x, rfl, w3⟩ := hc h hr
    exact ⟨_, hf, hM, t2, w2, w3⟩)
end LX2
/-- the wrapper's number of what its call ended with, and out behind it -/
def wo_i (r : Nat ⊕ Int32) (c : cx_S) (t : rx_S × Int64) : Option (Int32 × lx_S) := match r with
  | .inr v => some (nI 0, (c, t.1, v.toInt64))
  | .inl x => if cH c x = some (12, 0) then some (nI 1, (c, t)) else if cH c x = some (13, 0) then some (nI 2, (c, t)) else none
def wo_v (r : Nat ⊕ Int32) (c : cx_S) (t : rx_S × Int64) : Option (Int32 × lx_S) := match r with
  | .inr _ => some (nI 0, (c, t))
  | .inl x => if cH c x = some (12, 0) then some (nI 1, (c, t)) else if cH c x = some (13, 0) then some (nI 2, (c, t)) else none
