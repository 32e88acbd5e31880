/-! release: names, both sides -/
section NM2
variable {f : Nat} {K : kx} {W : Nat → Nat → Nat} {bd : Nat} {c : cx_S} {s : rx_S}
theorem i_and : ∀ x, x < 16 → ∀ y, y < 16 → nI x &&& nI y = nI (x &&& y) := by decide
theorem i_or : ∀ x, x < 16 → ∀ y, y < 16 → nI x ||| nI y = nI (x ||| y) := by decide
theorem i_shl : ∀ b, b < 4 → nI 1 <<< (nI b &&& 31) = nI (1 <<< b) := by decide
theorem i_bit : ∀ x, x < 16 → ∀ a, a < 4 → (nI x >>> (nI a &&& 31)) &&& nI 1 = nI ((x >>> a) % 2) := by decide
/-- the class with its names -/
def wn (c : cx_S) (h1 h2 : Nat → Int32) : cx_S := (fun F q j => if F = 400 ∧ q = 10 then h1 j else if F = 400 ∧ q = 11 then h2 j else cI c F q j, c.2)
section WN
variable {h1 h2 : Nat → Int32}
theorem wn_10 {j : Nat} : cI (wn c h1 h2) 400 10 j = h1 j := by
  show (if 400 = 400 ∧ 10 = 10 then h1 j else if 400 = 400 ∧ 10 = 11 then h2 j else cI c 400 10 j) = h1 j
  simp
theorem wn_11 {j : Nat} : cI (wn c h1 h2) 400 11 j = h2 j := by
  show (if 400 = 400 ∧ 11 = 10 then h1 j else if 400 = 400 ∧ 11 = 11 then h2 j else cI c 400 11 j) = h2 j
  simp
theorem wn_7 {j : Nat} : cI (wn c h1 h2) 400 7 j = cI c 400 7 j := by
  show (if 400 = 400 ∧ 7 = 10 then h1 j else if 400 = 400 ∧ 7 = 11 then h2 j else cI c 400 7 j) = _
  simp
theorem wn_8 {j : Nat} : cI (wn c h1 h2) 400 8 j = cI c 400 8 j := by
  show (if 400 = 400 ∧ 8 = 10 then h1 j else if 400 = 400 ∧ 8 = 11 then h2 j else cI c 400 8 j) = _
  simp
theorem wn_u10 {j : Nat} {v : Int32} : cx_ui (wn c h1 h2) 400 10 j v = wn c (upd h1 j v) h2 := by
  refine Prod.ext ?_ rfl
  funext F q i
  show (if F = 400 ∧ q = 10 ∧ i = j then v else if F = 400 ∧ q = 10 then h1 i else _) = if F = 400 ∧ q = 10 then upd h1 j v i else _
  unfold upd
  by_cases e : F = 400 ∧ q = 10
  · rw [if_pos e, if_pos e]
    by_cases e2 : i = j
    · rw [if_pos ⟨e.1, e.2, e2⟩, if_pos e2]
    · rw [if_neg (fun z => e2 z.2.2), if_neg e2]
  · rw [if_neg (fun z => e ⟨z.1, z.2.1⟩), if_neg e, if_neg e]
theorem wn_u11 {j : Nat} {v : Int32} : cx_ui (wn c h1 h2) 400 11 j v = wn c h1 (upd h2 j v) := by
  refine Prod.ext ?_ rfl
  funext F q i
  show (if F = 400 ∧ q = 11 ∧ i = j then v else if F = 400 ∧ q = 10 then h1 i else if F = 400 ∧ q = 11 then h2 i else _) = if F = 400 ∧ q = 10 then h1 i else if F = 400 ∧ q = 11 then upd h2 j v i else _
  unfold upd
  by_cases e : F = 400 ∧ q = 11
  · rw [if_neg (show ¬ (F = 400 ∧ q = 10) by omega), if_pos e, if_neg (show ¬ (F = 400 ∧ q = 10) by omega), if_pos e]
    by_cases e2 : i = j
    · rw [if_pos ⟨e.1, e.2, e2⟩, if_pos e2]
    · rw [if_neg (fun z => e2 z.2.2), if_neg e2]
  · rw [if_neg (fun z => e ⟨z.1, z.2.1⟩), if_neg e, if_neg e]
theorem CRep_wn (h : CRep K c s) : CRep K (wn c h1 h2) s :=
  CRep_ext h (fun F q _ z => by
    funext j
    show (if F = 400 ∧ q = 10 then h1 j else if F = 400 ∧ q = 11 then h2 j else cI c F q j) = _
    unfold Sc at z
    rw [if_neg (by omega), if_neg (by omega)]) (fun _ _ _ => rfl) (fun _ _ => rfl) (Nat.le_refl _)
end WN
/-- 16 is above all -/
def X16 (X : X2) : Prop := (∀ k, X.1 k < 16) ∧ ∀ b, X.2 b < 16
def XA (h1 h2 : Nat → Int32) (X : X2) : Prop := En 12 h1 X.1 ∧ En 25 h2 X.2 ∧ X16 X
theorem up_16 {x : Nat → Nat} {j v : Nat} (h : ∀ k, x k < 16) (hv : v < 16) : ∀ k, up x j v k < 16 := fun k => by
  unfold up
  split
  · exact hv
  · exact h k
theorem sp_C (h : CRep K c s) (hI : Iv K W bd s) {r i t w : Nat} {be : Nat → Nat} (hr : r < 4) (hi : i < nt (s 7 r)) (ht : t < nt (s 7 r)) (hw : w < 16) (hbe : cI c 400 7 i = nI (be i) ∧ be i < 25) {h1 h2 : Nat → Int32} {X : X2} (hX : XA h1 h2 X) :
    ∃ e1 e2, D_C_spreadNames f 5 (some (40 + 3 * r)) (nI i) (nI t) (nI w) (wn c h1 h2) = some (0, wn c e1 e2) ∧ XA e1 e2 (cSp (zk s r) be X i t w) := by
  have m7 := hI.i7 r hr
  have ml := m7.lt
  have hw0 : CRep K (wn c h1 h2) s := CRep_wn h
  have em : cI (wn c h1 h2) 97 (40 + 3 * r) 0 = nI (nt (s 7 r)) := by rw [hw0.rm r hr]; exact m7.eq
  have hst := h.sh r hr t ht
  have k10 := hI.i9 r hr t ht
  have hk : (s 9 (12 * r + t) = nI 6) = (zk s r t = 6) := by rw [k10.eq, nI_eq (by have := k10.lt; omega) (by decide)]
  obtain ⟨x1, x2, x3, x4⟩ := hX
  unfold D_C_spreadNames cSp
  simp only [b_oc (hw0.fix.hRec r hr), em, b_below_t ht (show nt (s 7 r) < 2 ^ 31 by omega), b_ob, b_10, if_false, hw0.fix.stp r hr, b_oa (hw0.fix.hStp r hr) (show t < 12 by omega) (show 12 < 2 ^ 31 by decide), (show cR (wn c h1 h2) 407 (42 + 3 * r) t = some (kS K r t) from hst.1), b_oc (show cH (wn c h1 h2) (kS K r t) = some (8, 0) from hst.2), hw0.s0 r hr t ht, b_oj, hk, b_oc hw0.fix.h5, hw0.fix.f113, hw0.fix.f116, hw0.fix.f117, b_oa hw0.fix.h7 (show i < 12 by omega) (show 12 < 2 ^ 31 by decide), wn_7, hbe.1, b_oa hw0.fix.h11 hbe.2 (show 25 < 2 ^ 31 by decide), b_oa hw0.fix.h10 (show t < 12 by omega) (show 12 < 2 ^ 31 by decide), wn_10, wn_11, wn_u10, wn_u11, x1 t (by omega), x2 (be i) hbe.2, i_and _ (x3 t) _ hw, i_and _ (x4 (be i)) _ hw]
  by_cases q : zk s r t = 6
  · simp only [if_pos q]
    exact ⟨h1, _, rfl, x1, En_up x2, x3, up_16 x4 (l16 _ (x4 _) _ hw).1⟩
  · simp only [if_neg q]
    exact ⟨_, h2, rfl, En_up x1, x2, up_16 x3 (l16 _ (x3 _) _ hw).1, x4⟩
theorem spn_C (h : CRep K c s) (hI : Iv K W bd s) {r : Nat} (hr : r < 4) {a b : Int32} : D_C_spreadNames f 5 (some (40 + 3 * r)) a (-1) b c = some (0, c) := by
  have m7 := hI.i7 r hr
  have em : cI c 97 (40 + 3 * r) 0 = nI (nt (s 7 r)) := by rw [h.rm r hr]; exact m7.eq
  unfold D_C_spreadNames
  simp only [b_oc (h.fix.hRec r hr), em, b_below_f (n := nt (s 7 r)) (x := -1) (Or.inl (by decide)), b_ob, b_00, if_true]
/-- the numbers that names go by -/
def NB (s : rx_S) (r : Nat) : Prop := ∀ i, i < nt (s 7 r) → (zk s r i = 4 → s 11 (12 * r + i) = nI (zb s r i) ∧ zb s r i < 4) ∧ (zk s r i = 7 → s 10 (12 * r + i) = nI (za s r i) ∧ za s r i < 4)
theorem SR.nb {r : Nat} (h : SR s r) : NB s r := fun i hi => by
  have q := (h.2 i hi).1.1
  exact ⟨fun k => ⟨(q.2.2.2.1 k).eq, (q.2.2.2.1 k).lt⟩, fun k => ⟨(q.2.2.2.2.1 k).eq, (q.2.2.2.2.1 k).lt⟩⟩
theorem nst_C (h : CRep K c s) (hI : Iv K W bd s) {r i k : Nat} {be Fj : Nat → Nat} (hr : r < 4) (hS : SR s r) (hi : i < nt (s 7 r)) (hbe : cI c 400 7 i = nI (be i) ∧ be i < 25) (hFj : zk s r i = 6 → cI c 400 8 i = nI (Fj i) ∧ Fj i < 12) {h1 h2 : Nat → Int32} {X : X2} (hX : XA h1 h2 X) :
    ∃ e1 e2, (zk s r i = 7 ∧ ((cJo (zk s r) Fj X i).1 i >>> za s r i) % 2 = 0 ∧ D_C_isMeasuredForChoices_27 f 5 (some (40 + 3 * r)) (k + 1) (nI i) (wn c h1 h2) = some (nI 0, wn c e1 e2)) ∨ (¬ (zk s r i = 7 ∧ ((cJo (zk s r) Fj X i).1 i >>> za s r i) % 2 = 0) ∧ D_C_isMeasuredForChoices_27 f 5 (some (40 + 3 * r)) (k + 1) (nI i) (wn c h1 h2) = D_C_isMeasuredForChoices_27 f 5 (some (40 + 3 * r)) k (nI (i + 1)) (wn c e1 e2) ∧ XA e1 e2 (cNx (zk s r) (zn s r) (zo s r) be (cJo (zk s r) Fj X i) i (wN (zk s r) (zb s r) i ((cJo (zk s r) Fj X i).1 i)))) := by
  have m7 := hI.i7 r hr
  have ml := m7.lt
  have hw : ∀ (h1 h2 : Nat → Int32), CRep K (wn c h1 h2) s := fun _ _ => CRep_wn h
  have em : ∀ (h1 h2 : Nat → Int32), cI (wn c h1 h2) 97 (40 + 3 * r) 0 = nI (nt (s 7 r)) := fun h1 h2 => by rw [(hw h1 h2).rm r hr]; exact m7.eq
  have hst := h.sh r hr i hi
  have k10 := hI.i9 r hr i hi
  have kl := k10.lt
  have hk : ∀ v, v < 10 → ((s 9 (12 * r + i) = nI v) = (zk s r i = v)) := fun v hv => by rw [k10.eq, nI_eq (by omega) (by omega)]
  have i12 : i < 12 := by omega
  have nb := hS.nb i hi
  -- the JOIN's names
  have j1 : ∃ e1, XA e1 h2 (cJo (zk s r) Fj X i) ∧ ∀ (J14 : cx_S → Option (Int32 × cx_S)), (if (cI (wn c h1 h2) 128 (kS K r i) 0) = (nI 6) then oc 7 (some 5) (wn c h1 h2) fun p42 => oa 400 (cR (wn c h1 h2) 114 p42 0) (nI i) (wn c h1 h2) fun a43 j44 => oa 400 (cR (wn c h1 h2) 117 p42 0) (((nI 2) * (cI (wn c h1 h2) 400 a43 j44)) + (nI 1)) (wn c h1 h2) fun a45 j46 => oa 400 (cR (wn c h1 h2) 117 p42 0) (((nI 2) * (cI (wn c h1 h2) 400 a43 j44)) + (nI 2)) (wn c h1 h2) fun a47 j48 => oa 400 (cR (wn c h1 h2) 116 p42 0) (nI i) (wn c h1 h2) fun a49 j50 => J14 (cx_ui (wn c h1 h2) 400 a49 j50 ((cI (wn c h1 h2) 400 a45 j46) ||| (cI (wn c h1 h2) 400 a47 j48))) else J14 (wn c h1 h2)) = J14 (wn c e1 h2) := by
    obtain ⟨x1, x2, x3, x4⟩ := hX
    have hw0 := hw h1 h2
    unfold cJo
    by_cases q : zk s r i = 6
    · obtain ⟨f1, f2⟩ := hFj q
      refine ⟨upd h1 i (nI (X.2 (2 * Fj i + 1) ||| X.2 (2 * Fj i + 2))), ?_, fun J14 => ?_⟩
      · rw [if_pos q]
        exact ⟨En_up x1, x2, up_16 x3 (l16 _ (x4 _) _ (x4 _)).2, x4⟩
      · simp only [hw0.s0 r hr i hi, hk 6 (by decide), if_pos q, b_oc hw0.fix.h5, hw0.fix.f114, hw0.fix.f117, hw0.fix.f116, b_oa hw0.fix.h8 i12 (show 12 < 2 ^ 31 by decide), wn_8, f1, pk_mul, nI_add, b_oa hw0.fix.h11 (show 2 * Fj i + 1 < 25 by omega) (show 25 < 2 ^ 31 by decide), b_oa hw0.fix.h11 (show 2 * Fj i + 2 < 25 by omega) (show 25 < 2 ^ 31 by decide), b_oa hw0.fix.h10 i12 (show 12 < 2 ^ 31 by decide), wn_11, x2 (2 * Fj i + 1) (by omega), x2 (2 * Fj i + 2) (by omega), i_or _ (x4 _) _ (x4 _), wn_u10]
    · refine ⟨h1, by rw [if_neg q]; exact ⟨x1, x2, x3, x4⟩, fun J14 => ?_⟩
      simp only [hw0.s0 r hr i hi, hk 6 (by decide), if_neg q]
  obtain ⟨e1, hX1, ev1⟩ := j1
  have hw1 := hw e1 h2
  have ev : D_C_isMeasuredForChoices_27 f 5 (some (40 + 3 * r)) (k + 1) (nI i) (wn c h1 h2) = oc 8 (some (kS K r i)) (wn c e1 h2) fun p16 => oj (fun (_ : Unit) => oj (fun (x19 : Int32) => ob (D_S_wayOut f p16 (nI 0) (wn c e1 h2)) fun x20 s21 => oc 7 (some 5) s21 fun p22 => ob (D_C_spreadNames f p22 (some (40 + 3 * r)) (nI i) x20 x19 s21) fun x23 s24 => oc 8 (some (kS K r i)) s24 fun p25 => oj (fun (s27 : cx_S) => D_C_isMeasuredForChoices_27 f 5 (some (40 + 3 * r)) k (nI (i + 1)) s27) fun J26 => if (cI s24 128 p25 0) = (nI 8) then J26 s24 else ob (D_S_wayOut f p25 (nI 1) s24) fun x28 s29 => oc 7 (some 5) s29 fun p30 => ob (D_C_spreadNames f p30 (some (40 + 3 * r)) (nI i) x28 x19 s29) fun x31 s32 => J26 s32) fun J18 => if (cI (wn c e1 h2) 128 p16 0) = (nI 4) then oc 7 (some 5) (wn c e1 h2) fun p33 => oa 400 (cR (wn c e1 h2) 116 p33 0) (nI i) (wn c e1 h2) fun a34 j35 => J18 ((cI (wn c e1 h2) 400 a34 j35) ||| ((nI 1) <<< ((cI (wn c e1 h2) 130 p16 0) &&& 31))) else oc 7 (some 5) (wn c e1 h2) fun p36 => oa 400 (cR (wn c e1 h2) 116 p36 0) (nI i) (wn c e1 h2) fun a37 j38 => J18 (cI (wn c e1 h2) 400 a37 j38)) fun J17 => if (cI (wn c e1 h2) 128 p16 0) = (nI 7) then oc 7 (some 5) (wn c e1 h2) fun p39 => oa 400 (cR (wn c e1 h2) 116 p39 0) (nI i) (wn c e1 h2) fun a40 j41 => if (((cI (wn c e1 h2) 400 a40 j41) >>> ((cI (wn c e1 h2) 129 p16 0) &&& 31)) &&& (nI 1)) = 0 then some (nI 0, wn c e1 h2) else J17 () else J17 () := by
    rw [D_C_isMeasuredForChoices_27, b_oc ((hw h1 h2).fix.hRec r hr), em, if_neg (nI_ge hi (by omega)), (hw h1 h2).fix.stp r hr, b_oa ((hw h1 h2).fix.hStp r hr) i12 (by decide), show cR (wn c h1 h2) 407 (42 + 3 * r) i = some (kS K r i) from hst.1, b_oc (show cH (wn c h1 h2) (kS K r i) = some (8, 0) from hst.2), b_oj, nI_add]
    exact ev1 (fun s15 => oc 8 (some (kS K r i)) s15 fun p16 => oj (fun (_ : Unit) => oj (fun (x19 : Int32) => ob (D_S_wayOut f p16 (nI 0) s15) fun x20 s21 => oc 7 (some 5) s21 fun p22 => ob (D_C_spreadNames f p22 (some (40 + 3 * r)) (nI i) x20 x19 s21) fun x23 s24 => oc 8 (some (kS K r i)) s24 fun p25 => oj (fun (s27 : cx_S) => D_C_isMeasuredForChoices_27 f 5 (some (40 + 3 * r)) k (nI (i + 1)) s27) fun J26 => if (cI s24 128 p25 0) = (nI 8) then J26 s24 else ob (D_S_wayOut f p25 (nI 1) s24) fun x28 s29 => oc 7 (some 5) s29 fun p30 => ob (D_C_spreadNames f p30 (some (40 + 3 * r)) (nI i) x28 x19 s29) fun x31 s32 => J26 s32) fun J18 => if (cI s15 128 p16 0) = (nI 4) then oc 7 (some 5) s15 fun p33 => oa 400 (cR s15 116 p33 0) (nI i) s15 fun a34 j35 => J18 ((cI s15 400 a34 j35) ||| ((nI 1) <<< ((cI s15 130 p16 0) &&& 31))) else oc 7 (some 5) s15 fun p36 => oa 400 (cR s15 116 p36 0) (nI i) s15 fun a37 j38 => J18 (cI s15 400 a37 j38)) fun J17 => if (cI s15 128 p16 0) = (nI 7) then oc 7 (some 5) s15 fun p39 => oa 400 (cR s15 116 p39 0) (nI i) s15 fun a40 j41 => if (((cI s15 400 a40 j41) >>> ((cI s15 129 p16 0) &&& 31)) &&& (nI 1)) = 0 then some (nI 0, s15) else J17 () else J17 ())
  obtain ⟨x1, x2, x3, x4⟩ := hX1
  generalize cJo (zk s r) Fj X i = X1 at *
  have wl := wN_lt (kd := zk s r) (kb := zb s r) (i := i) (v := X1.1 i) (fun q => (nb.1 q).2) (x3 i)
  have wv : (if zk s r i = 4 then nI (X1.1 i) ||| (nI 1) <<< (s 11 (12 * r + i) &&& 31) else nI (X1.1 i)) = nI (wN (zk s r) (zb s r) i (X1.1 i)) := by
    unfold wN
    by_cases q : zk s r i = 4
    · rw [if_pos q, if_pos q, (nb.1 q).1, i_shl _ (nb.1 q).2, i_or _ (x3 i) _ (l4 _ (nb.1 q).2).1]
    · rw [if_neg q, if_neg q]
  generalize wN (zk s r) (zb s r) i (X1.1 i) = w at *
  -- on to the next ones
  have spr : ∃ d1 d2, XA d1 d2 (cNx (zk s r) (zn s r) (zo s r) be X1 i w) ∧ (ob (D_S_wayOut f (kS K r i) (nI 0) (wn c e1 h2)) fun x20 s21 => oc 7 (some 5) s21 fun p22 => ob (D_C_spreadNames f p22 (some (40 + 3 * r)) (nI i) x20 (nI w) s21) fun x23 s24 => oc 8 (some (kS K r i)) s24 fun p25 => oj (fun (s27 : cx_S) => D_C_isMeasuredForChoices_27 f 5 (some (40 + 3 * r)) k (nI (i + 1)) s27) fun J26 => if (cI s24 128 p25 0) = (nI 8) then J26 s24 else ob (D_S_wayOut f p25 (nI 1) s24) fun x28 s29 => oc 7 (some 5) s29 fun p30 => ob (D_C_spreadNames f p30 (some (40 + 3 * r)) (nI i) x28 (nI w) s29) fun x31 s32 => J26 s32) = D_C_isMeasuredForChoices_27 f 5 (some (40 + 3 * r)) k (nI (i + 1)) (wn c d1 d2) := by
    have s1 : ∃ a1 a2, D_C_spreadNames f 5 (some (40 + 3 * r)) (nI i) (if zk s r i = 9 then -1 else s 13 (12 * r + i)) (nI w) (wn c e1 h2) = some (0, wn c a1 a2) ∧ XA a1 a2 (if zk s r i = 9 then X1 else cSp (zk s r) be X1 i (zn s r i) w) := by
      by_cases q : zk s r i = 9
      · rw [if_pos q, if_pos q, spn_C hw1 hI hr]
        exact ⟨e1, h2, rfl, x1, x2, x3, x4⟩
      · obtain ⟨n1, n2, n3⟩ := hS.nx hi q
        rw [if_neg q, if_neg q, n1]
        exact sp_C h hI hr hi n3 wl.1 hbe ⟨x1, x2, x3, x4⟩
    obtain ⟨a1, a2, u1, u2⟩ := s1
    have hwa := hw a1 a2
    rw [way_C0 hw1 hI hr hi, b_ob, b_oc hw1.fix.h5, u1, b_ob, b_oc (show cH (wn c a1 a2) (kS K r i) = some (8, 0) from hst.2), b_oj, hwa.s0 r hr i hi]
    simp only [hk 8 (by decide)]
    unfold cNx
    by_cases q8 : zk s r i = 8
    · rw [if_pos q8]
      refine ⟨a1, a2, ?_, rfl⟩
      simp only [q8]
      rw [q8] at u2
      simp (decide := true) only [if_false] at u2 ⊢
      exact u2
    · rw [if_neg q8, way_C1 hwa hI hr hi, b_ob, b_oc hwa.fix.h5]
      by_cases ko : zk s r i = 5 ∨ zk s r i = 7
      · obtain ⟨o1, o3⟩ := hS.ot hi (show zk s r i = 5 ∨ zk s r i = 7 ∨ zk s r i = 8 by omega)
        obtain ⟨b1, b2, v1, v2⟩ := sp_C (f := f) h hI hr hi o3 wl.1 hbe u2
        rw [if_pos (show zk s r i = 5 ∨ zk s r i = 7 ∨ zk s r i = 8 by omega), o1, v1, b_ob]
        refine ⟨b1, b2, ?_, rfl⟩
        simp only [if_pos ko]
        exact v2
      · rw [if_neg (show ¬ (zk s r i = 5 ∨ zk s r i = 7 ∨ zk s r i = 8) by omega), spn_C hwa hI hr, b_ob]
        refine ⟨a1, a2, ?_, rfl⟩
        simp only [if_neg ko]
        exact u2
  obtain ⟨d1, d2, w1, w2⟩ := spr
  have goon : D_C_isMeasuredForChoices_27 f 5 (some (40 + 3 * r)) (k + 1) (nI i) (wn c h1 h2) = if zk s r i = 7 then (if ((nI (X1.1 i)) >>> ((s 10 (12 * r + i)) &&& 31)) &&& (nI 1) = 0 then some (nI 0, wn c e1 h2) else D_C_isMeasuredForChoices_27 f 5 (some (40 + 3 * r)) k (nI (i + 1)) (wn c d1 d2)) else D_C_isMeasuredForChoices_27 f 5 (some (40 + 3 * r)) k (nI (i + 1)) (wn c d1 d2) := by
    rw [ev, b_oc (show cH (wn c e1 h2) (kS K r i) = some (8, 0) from hst.2)]
    simp only [b_oj, hw1.s0 r hr i hi, hw1.s1 r hr i hi, hw1.s2 r hr i hi, hk 4 (by decide), hk 7 (by decide), b_oc hw1.fix.h5, hw1.fix.f116, b_oa hw1.fix.h10 i12 (show 12 < 2 ^ 31 by decide), wn_10, x1 i i12]
    have e4 : ∀ (J : Int32 → Option (Int32 × cx_S)), (if zk s r i = 4 then J (nI (X1.1 i) ||| (nI 1) <<< (s 11 (12 * r + i) &&& 31)) else J (nI (X1.1 i))) = J (nI w) := by
      intro J
      rw [← wv]
      by_cases q : zk s r i = 4
      · rw [if_pos q, if_pos q]
      · rw [if_neg q, if_neg q]
    have e5 := e4 (fun x19 => ob (D_S_wayOut f (kS K r i) (nI 0) (wn c e1 h2)) fun x20 s21 => oc 7 (some 5) s21 fun p22 => ob (D_C_spreadNames f p22 (some (40 + 3 * r)) (nI i) x20 x19 s21) fun x23 s24 => oc 8 (some (kS K r i)) s24 fun p25 => oj (fun (s27 : cx_S) => D_C_isMeasuredForChoices_27 f 5 (some (40 + 3 * r)) k (nI (i + 1)) s27) fun J26 => if (cI s24 128 p25 0) = (nI 8) then J26 s24 else ob (D_S_wayOut f p25 (nI 1) s24) fun x28 s29 => oc 7 (some 5) s29 fun p30 => ob (D_C_spreadNames f p30 (some (40 + 3 * r)) (nI i) x28 x19 s29) fun x31 s32 => J26 s32)
    simp only [b_oj] at e5 w2
    rw [e5, w2]
  rw [goon]
  by_cases q7 : zk s r i = 7
  · rw [if_pos q7]
    obtain ⟨n1, n2⟩ := nb.2 q7
    rw [n1, i_bit _ (x3 i) _ n2]
    by_cases q0 : (X1.1 i >>> za s r i) % 2 = 0
    · rw [q0, if_pos (show nI 0 = 0 from rfl)]
      exact ⟨e1, h2, Or.inl ⟨q7, rfl, rfl⟩⟩
    · have q1 : (X1.1 i >>> za s r i) % 2 = 1 := by omega
      rw [q1, if_neg (by decide)]
      exact ⟨d1, d2, Or.inr ⟨fun z => absurd z.2 (by decide), rfl, w1⟩⟩
  · rw [if_neg q7]
    exact ⟨d1, d2, Or.inr ⟨fun z => q7 z.1, rfl, w1⟩⟩
theorem nloop_C (h : CRep K c s) (hI : Iv K W bd s) {r : Nat} {be Fj : Nat → Nat} (hr : r < 4) (hS : SR s r) (hbe : ∀ i, i < nt (s 7 r) → cI c 400 7 i = nI (be i) ∧ be i < 25) (hFj : ∀ i, i < nt (s 7 r) → zk s r i = 6 → cI c 400 8 i = nI (Fj i) ∧ Fj i < 12) : ∀ d i k h1 h2 X, i + d = nt (s 7 r) → d < k → XA h1 h2 X → ∃ y e1 e2, D_C_isMeasuredForChoices_27 f 5 (some (40 + 3 * r)) k (nI i) (wn c h1 h2) = some (y, wn c e1 e2) ∧ TF y (cNames (nt (s 7 r)) (zk s r) (zn s r) (zo s r) (za s r) (zb s r) be Fj d i X = true) := by
  have m7 := hI.i7 r hr
  have ml := m7.lt
  intro d
  induction d with
  | zero =>
    intro i k h1 h2 X hi hk hX
    obtain ⟨k, rfl⟩ : ∃ k', k = k' + 1 := ⟨k - 1, by omega⟩
    have hw0 : CRep K (wn c h1 h2) s := CRep_wn h
    have em : cI (wn c h1 h2) 97 (40 + 3 * r) 0 = nI (nt (s 7 r)) := by rw [hw0.rm r hr]; exact m7.eq
    refine ⟨nI 1, h1, h2, ?_, TF.y rfl⟩
    rw [D_C_isMeasuredForChoices_27, b_oc (hw0.fix.hRec r hr), em, if_pos (by rw [show i = nt (s 7 r) by omega]; exact Int32.le_refl _)]
  | succ d ih =>
    intro i k h1 h2 X hi hk hX
    obtain ⟨k, rfl⟩ : ∃ k', k = k' + 1 := ⟨k - 1, by omega⟩
    rw [cNames]
    obtain ⟨e1, e2, w⟩ := nst_C (f := f) (k := k) h hI hr hS (show i < nt (s 7 r) by omega) (hbe i (by omega)) (hFj i (by omega)) hX
    rcases w with ⟨w1, w2, w3⟩ | ⟨w1, w2, w3⟩
    · rw [if_pos ⟨w1, w2⟩]
      exact ⟨nI 0, e1, e2, w3, TF.n (by simp)⟩
    · rw [if_neg w1, w2]
      exact ih (i + 1) k e1 e2 _ (by omega) (by omega) w3
theorem nmC2 (h : CRep K c s) (hI : Iv K W bd s) {r : Nat} {be Fj : Nat → Nat} (hr : r < 4) (hS : SR s r) (hf : 2 ^ 31 ≤ f) (hbe : ∀ i, i < nt (s 7 r) → cI c 400 7 i = nI (be i) ∧ be i < 25) (hFj : ∀ i, i < nt (s 7 r) → zk s r i = 6 → cI c 400 8 i = nI (Fj i) ∧ Fj i < 12) : ∃ y e1 e2, D_C_isMeasuredForChoices f 5 (some (40 + 3 * r)) c = some (y, wn c e1 e2) ∧ TF y (cNames (nt (s 7 r)) (zk s r) (zn s r) (zo s r) (za s r) (zb s r) be Fj (nt (s 7 r)) 0 (up (fun _ => 15) 0 0, fun _ => 15) = true) := by
  have m7 := hI.i7 r hr
  have ml := m7.lt
  obtain ⟨a1, u1, u2⟩ := b_fill (f := f) (v := nI 15) h.fix.h10 (by decide) hf
  have h1 : CRep K (ws c 10 a1) s := CRep_ws h (by unfold Sc; omega)
  obtain ⟨a2, u3, u4⟩ := b_fill (f := f) (v := nI 15) h1.fix.h11 (by decide) hf
  have e2 : ws (ws c 10 a1) 11 a2 = wn c a1 a2 := by
    refine Prod.ext ?_ rfl
    funext F q i
    show (if F = 400 ∧ q = 11 then a2 i else if F = 400 ∧ q = 10 then a1 i else cI c F q i) = if F = 400 ∧ q = 10 then a1 i else if F = 400 ∧ q = 11 then a2 i else cI c F q i
    by_cases q7 : F = 400 ∧ q = 10
    · rw [if_neg (by omega), if_pos q7, if_pos q7]
    · rw [if_neg q7, if_neg q7]
  have hw0 : CRep K (wn c a1 a2) s := CRep_wn h
  obtain ⟨y, e1, e3, w1, w2⟩ := nloop_C (f := f) h hI hr hS hbe hFj (nt (s 7 r)) 0 f (upd a1 0 (nI 0)) a2 (up (fun _ => 15) 0 0, fun _ => 15) (by omega) (by omega) ⟨En_up (fun j hj => u2 j hj), fun j hj => u4 j hj, up_16 (x := fun _ => 15) (fun _ => (by decide : 15 < 16)) (by decide), fun _ => (by decide : 15 < 16)⟩
  refine ⟨y, e1, e3, ?_, w2⟩
  unfold D_C_isMeasuredForChoices
  rw [b_oc h.fix.h5, h.fix.f116, u1, b_ob, b_oc h1.fix.h5, h1.fix.f117, u3, b_ob, e2, b_oc hw0.fix.h5, hw0.fix.f116, b_oa hw0.fix.h10 (by decide) (by decide), wn_u10]
  exact w1
/-! the reference -/
def wy (s : rx_S) (y1 y2 y3 y4 : Nat → Int32) : rx_S := fun k => if k = 47 then y1 else if k = 44 then y2 else if k = 45 then y3 else if k = 46 then y4 else s k
section WY
variable {y1 y2 y3 y4 : Nat → Int32}
theorem wy_1 : wy s y1 y2 y3 y4 47 = y1 := by unfold wy; simp
theorem wy_2 : wy s y1 y2 y3 y4 44 = y2 := by unfold wy; simp
theorem wy_3 : wy s y1 y2 y3 y4 45 = y3 := by unfold wy; simp
theorem wy_4 : wy s y1 y2 y3 y4 46 = y4 := by unfold wy; simp
theorem wy_u1 {j : Nat} {v : Int32} : rx_up (wy s y1 y2 y3 y4) 47 j v = wy s (upd y1 j v) y2 y3 y4 := by
  funext k
  unfold rx_up wy
  by_cases e : k = 47
  · rw [if_pos e, if_pos rfl, if_pos e]
  · rw [if_neg e, if_neg e, if_neg e]
theorem wy_u2 {j : Nat} {v : Int32} : rx_up (wy s y1 y2 y3 y4) 44 j v = wy s y1 (upd y2 j v) y3 y4 := by
  funext k
  unfold rx_up wy
  by_cases e : k = 44
  · subst e; simp
  · rw [if_neg e, if_neg e, if_neg e]
theorem wy_u3 {j : Nat} {v : Int32} : rx_up (wy s y1 y2 y3 y4) 45 j v = wy s y1 y2 (upd y3 j v) y4 := by
  funext k
  unfold rx_up wy
  by_cases e : k = 45
  · subst e; simp
  · rw [if_neg e, if_neg e, if_neg e]
theorem wy_u4 {j : Nat} {v : Int32} : rx_up (wy s y1 y2 y3 y4) 46 j v = wy s y1 y2 y3 (upd y4 j v) := by
  funext k
  unfold rx_up wy
  by_cases e : k = 46
  · subst e; simp
  · rw [if_neg e, if_neg e, if_neg e]
end WY
def YA (y1 y2 y3 y4 : Nat → Int32) (Y : Y4) : Prop := En 12 y1 Y.1 ∧ En 12 y2 Y.2.1 ∧ En 12 y3 Y.2.2.1 ∧ En 12 y4 Y.2.2.2 ∧ (∀ k, Y.1 k ≤ 1) ∧ (∀ k, Y.2.1 k < 16) ∧ (∀ k, Y.2.2.1 k < 16) ∧ ∀ k, Y.2.2.2 k < 16
theorem br_M (hI : Iv K W bd s) {s0 : rx_S} {r i t w : Nat} {be on : Nat → Nat} (h9 : s0 9 = s 9) (hr : r < 4) (hi : i < nt (s 7 r)) (ht : t < nt (s 7 r)) (hw : w < 16) (hbe : s0 41 i = nI (be i) ∧ be i < 25) (hon : zk s r t = 6 → s0 42 t = nI (on t) ∧ on t < 25) {y1 y2 y3 y4 : Nat → Int32} {Y : Y4} (hY : YA y1 y2 y3 y4 Y) :
    ∃ e1 e2 e3 e4, D_M_brings f (nI r) (nI i) (nI t) (nI w) (wy s0 y1 y2 y3 y4) = some (0, wy s0 e1 e2 e3 e4) ∧ YA e1 e2 e3 e4 (mBr (zk s r) be on Y i t w) := by
  have m7 := hI.i7 r hr
  have ml := m7.lt
  have k10 := hI.i9 r hr t ht
  have hk : ∀ {y1 y2 y3 y4 : Nat → Int32}, (wy s0 y1 y2 y3 y4 9 (12 * r + t) = nI 6) = (zk s r t = 6) := fun {y1 y2 y3 y4} => by
    show (s0 9 (12 * r + t) = nI 6) = _
    rw [h9, k10.eq, nI_eq (by have := k10.lt; omega) (by decide)]
  obtain ⟨a1, a2, a3, a4, b1, b2, b3, b4⟩ := hY
  have b1' : ∀ k, up Y.1 t 1 k ≤ 1 := up_01 b1
  unfold D_M_brings mBr
  have c1 : ∀ {y1 y2 y3 y4 : Nat → Int32}, wy s0 y1 y2 y3 y4 41 = s0 41 := fun {y1 y2 y3 y4} => rfl
  have c2 : ∀ {y1 y2 y3 y4 : Nat → Int32}, wy s0 y1 y2 y3 y4 42 = s0 42 := fun {y1 y2 y3 y4} => rfl
  rw [b_og (show t < 12 by omega) (by decide), pk_mul, nI_add, b_og (show 12 * r + t < 48 by omega) (by decide)]
  simp only [b_oj, wy_u1, hk, b_og (show i < 12 by omega) (show 12 < 2 ^ 31 by decide), wy_2, wy_3, wy_4, a2 t (by omega), a3 t (by omega), a4 t (by omega), i_and _ (b2 t) _ hw, i_and _ (b3 t) _ hw, i_and _ (b4 t) _ hw, wy_u2, wy_u3, wy_u4]
  by_cases q : zk s r t = 6
  · simp only [if_pos q]
    have e : (wy s0 (upd y1 t (nI 1)) y2 y3 y4 41 i = wy s0 (upd y1 t (nI 1)) y2 y3 y4 42 t) = (be i = on t) := by
      show (s0 41 i = s0 42 t) = _
      rw [hbe.1, (hon q).1]
      exact propext (nI_eq (by have := hbe.2; omega) (by have := (hon q).2; omega))
    simp only [e]
    by_cases q2 : be i = on t
    · simp only [if_pos q2]
      exact ⟨_, y2, _, y4, rfl, En_up a1, a2, En_up a3, a4, b1', b2, up_16 b3 (l16 _ (b3 _) _ hw).1, b4⟩
    · simp only [if_neg q2]
      exact ⟨_, y2, y3, _, rfl, En_up a1, a2, a3, En_up a4, b1', b2, b3, up_16 b4 (l16 _ (b4 _) _ hw).1⟩
  · simp only [if_neg q]
    exact ⟨_, _, y3, y4, rfl, En_up a1, En_up a2, a3, a4, b1', up_16 b2 (l16 _ (b2 _) _ hw).1, b3, b4⟩
theorem nst_M (hI : Iv K W bd s) {s0 : rx_S} (hs0 : ∀ k, k ≤ 40 → s0 k = s k) {r i k : Nat} {be on : Nat → Nat} {g : Bool} (hr : r < 4) (hS : SR s r) (hi : i < nt (s 7 r)) (hbe : ∀ i, i < nt (s 7 r) → s0 41 i = nI (be i) ∧ be i < 25) (hon : ∀ t, t < nt (s 7 r) → zk s r t = 6 → s0 42 t = nI (on t) ∧ on t < 25) {y1 y2 y3 y4 : Nat → Int32} {Y : Y4} (hY : YA y1 y2 y3 y4 Y) :
    ∃ e1 e2 e3 e4, D_M_measures_65 f (nI r) (k + 1) (b01 g) (nI i) (wy s0 y1 y2 y3 y4) = D_M_measures_65 f (nI r) k (b01 (g && (decide (zk s r i ≠ 7) || decide (Y.1 i = 0) || decide (((mJo (zk s r) Y i).2.1 i >>> za s r i) % 2 = 1)))) (nI (i + 1)) (wy s0 e1 e2 e3 e4) ∧ YA e1 e2 e3 e4 (mNx (zk s r) (zn s r) (zo s r) be on (mJo (zk s r) Y i) i (wN (zk s r) (zb s r) i ((mJo (zk s r) Y i).2.1 i))) := by
  have m7 := hI.i7 r hr
  have ml := m7.lt
  have k10 := hI.i9 r hr i hi
  have kl := k10.lt
  have i12 : i < 12 := by omega
  have nb := hS.nb i hi
  have hk : ∀ (y1 y2 y3 y4 : Nat → Int32), ∀ v, v < 10 → ((wy s0 y1 y2 y3 y4 9 (12 * r + i) = nI v) = (zk s r i = v)) := fun y1 y2 y3 y4 v hv => by
    show (s0 9 (12 * r + i) = nI v) = _
    rw [hs0 9 (by decide), k10.eq, nI_eq (by omega) (by omega)]
  have e7 : ∀ (y1 y2 y3 y4 : Nat → Int32), wy s0 y1 y2 y3 y4 7 r = nI (nt (s 7 r)) := fun y1 y2 y3 y4 => by
    show s0 7 r = _
    rw [hs0 7 (by decide)]; exact m7.eq
  have e10 : ∀ (y1 y2 y3 y4 : Nat → Int32), wy s0 y1 y2 y3 y4 10 (12 * r + i) = s 10 (12 * r + i) := fun y1 y2 y3 y4 => by show s0 10 _ = _; rw [hs0 10 (by decide)]
  have e11 : ∀ (y1 y2 y3 y4 : Nat → Int32), wy s0 y1 y2 y3 y4 11 (12 * r + i) = s 11 (12 * r + i) := fun y1 y2 y3 y4 => by show s0 11 _ = _; rw [hs0 11 (by decide)]
  have e13 : ∀ (y1 y2 y3 y4 : Nat → Int32), wy s0 y1 y2 y3 y4 13 (12 * r + i) = s 13 (12 * r + i) := fun y1 y2 y3 y4 => by show s0 13 _ = _; rw [hs0 13 (by decide)]
  have e14 : ∀ (y1 y2 y3 y4 : Nat → Int32), wy s0 y1 y2 y3 y4 14 (12 * r + i) = s 14 (12 * r + i) := fun y1 y2 y3 y4 => by show s0 14 _ = _; rw [hs0 14 (by decide)]
  -- the JOIN's
  have j1 : ∃ a2, YA y1 a2 y3 y4 (mJo (zk s r) Y i) ∧ ∀ (J9 : rx_S → Option (Int32 × rx_S)), (if (wy s0 y1 y2 y3 y4 9 (12 * r + i)) = (nI 6) then og 12 (nI i) fun j30 => J9 (rx_up (wy s0 y1 y2 y3 y4) 44 j30 ((wy s0 y1 y2 y3 y4 45 j30) ||| (wy s0 y1 y2 y3 y4 46 j30))) else J9 (wy s0 y1 y2 y3 y4)) = J9 (wy s0 y1 a2 y3 y4) := by
    obtain ⟨a1, a2, a3, a4, b1, b2, b3, b4⟩ := hY
    unfold mJo
    by_cases q : zk s r i = 6
    · refine ⟨upd y2 i (nI (Y.2.2.1 i ||| Y.2.2.2 i)), ?_, fun J9 => ?_⟩
      · rw [if_pos q]
        exact ⟨a1, En_up a2, a3, a4, b1, up_16 b2 (l16 _ (b3 _) _ (b4 _)).2, b3, b4⟩
      · simp only [hk _ _ _ _ 6 (by decide), if_pos q, b_og i12 (show 12 < 2 ^ 31 by decide), wy_3, wy_4, a3 i i12, a4 i i12, i_or _ (b3 i) _ (b4 i), wy_u2]
    · refine ⟨y2, by rw [if_neg q]; exact ⟨a1, a2, a3, a4, b1, b2, b3, b4⟩, fun J9 => ?_⟩
      simp only [hk _ _ _ _ 6 (by decide), if_neg q]
  obtain ⟨a2', hY1, ev1⟩ := j1
  have hc0 : (mJo (zk s r) Y i).1 = Y.1 := by
    unfold mJo
    split <;> rfl
  have hYi : (mJo (zk s r) Y i).1 i = Y.1 i := by rw [hc0]
  obtain ⟨a1, a2, a3, a4, b1, b2, b3, b4⟩ := hY1
  have hY1 : YA y1 a2' y3 y4 (mJo (zk s r) Y i) := ⟨a1, a2, a3, a4, b1, b2, b3, b4⟩
  rw [← hYi]
  generalize mJo (zk s r) Y i = Y1 at *
  have wl := wN_lt (kd := zk s r) (kb := zb s r) (i := i) (v := Y1.2.1 i) (fun q => (nb.1 q).2) (b2 i)
  have wv : (if zk s r i = 4 then nI (Y1.2.1 i) ||| (nI 1) <<< (s 11 (12 * r + i) &&& 31) else nI (Y1.2.1 i)) = nI (wN (zk s r) (zb s r) i (Y1.2.1 i)) := by
    unfold wN
    by_cases q : zk s r i = 4
    · rw [if_pos q, if_pos q, (nb.1 q).1, i_shl _ (nb.1 q).2, i_or _ (b2 i) _ (l4 _ (nb.1 q).2).1]
    · rw [if_neg q, if_neg q]
  generalize wN (zk s r) (zb s r) i (Y1.2.1 i) = w at *
  have z01 : ∀ {Z : Y4} {z1 z2 z3 z4 : Nat → Int32}, YA z1 z2 z3 z4 Z → ((z1 i = 0) = (Z.1 i = 0)) := fun {Z z1 z2 z3 z4} hZ => by
    rw [hZ.1 i i12]
    exact propext (nI_eq (b := 0) (by have := hZ.2.2.2.2.1 i; omega) (by decide))
  have rest : ∃ c1 c2 c3 c4, YA c1 c2 c3 c4 (mNx (zk s r) (zn s r) (zo s r) be on Y1 i w) ∧ ∀ x12, (oj (fun (x14 : Int32) => og 12 (nI i) fun j15 => oj (fun (s17 : rx_S) => oj (fun (s19 : rx_S) => D_M_measures_65 f (nI r) k x12 (nI (i + 1)) s19) fun J18 => if (s17 47 j15) = 0 then J18 s17 else oj (fun (_ : Unit) => ob (D_M_brings f (nI r) (nI i) (s17 14 (12 * r + i)) x14 s17) fun x21 s22 => J18 s22) fun J20 => if (s17 9 (12 * r + i)) = (nI 5) then J20 () else if (s17 9 (12 * r + i)) = (nI 7) then J20 () else J18 s17) fun J16 => if (wy s0 y1 a2' y3 y4 47 j15) = 0 then J16 (wy s0 y1 a2' y3 y4) else if (wy s0 y1 a2' y3 y4 9 (12 * r + i)) = (nI 9) then J16 (wy s0 y1 a2' y3 y4) else ob (D_M_brings f (nI r) (nI i) (wy s0 y1 a2' y3 y4 13 (12 * r + i)) x14 (wy s0 y1 a2' y3 y4)) fun x23 s24 => J16 s24) fun J13 => if (wy s0 y1 a2' y3 y4 9 (12 * r + i)) = (nI 4) then og 12 (nI i) fun j25 => J13 ((wy s0 y1 a2' y3 y4 44 j25) ||| ((nI 1) <<< ((wy s0 y1 a2' y3 y4 11 (12 * r + i)) &&& 31))) else og 12 (nI i) fun j26 => J13 (wy s0 y1 a2' y3 y4 44 j26)) = D_M_measures_65 f (nI r) k x12 (nI (i + 1)) (wy s0 c1 c2 c3 c4) := by
    have two : ∀ {Z : Y4} {z1 z2 z3 z4 : Nat → Int32}, YA z1 z2 z3 z4 Z → ∃ c1 c2 c3 c4, YA c1 c2 c3 c4 (if Z.1 i ≠ 0 ∧ (zk s r i = 5 ∨ zk s r i = 7) then mBr (zk s r) be on Z i (zo s r i) w else Z) ∧ ∀ x12, (if z1 i = 0 then D_M_measures_65 f (nI r) k x12 (nI (i + 1)) (wy s0 z1 z2 z3 z4) else if zk s r i = 5 then (ob (D_M_brings f (nI r) (nI i) (s 14 (12 * r + i)) (nI w) (wy s0 z1 z2 z3 z4)) fun x21 s22 => D_M_measures_65 f (nI r) k x12 (nI (i + 1)) s22) else if zk s r i = 7 then (ob (D_M_brings f (nI r) (nI i) (s 14 (12 * r + i)) (nI w) (wy s0 z1 z2 z3 z4)) fun x21 s22 => D_M_measures_65 f (nI r) k x12 (nI (i + 1)) s22) else D_M_measures_65 f (nI r) k x12 (nI (i + 1)) (wy s0 z1 z2 z3 z4)) = D_M_measures_65 f (nI r) k x12 (nI (i + 1)) (wy s0 c1 c2 c3 c4) := by
      intro Z z1 z2 z3 z4 hZ
      by_cases q0 : Z.1 i = 0
      · refine ⟨z1, z2, z3, z4, by rw [if_neg (fun z => z.1 q0)]; exact hZ, fun x12 => ?_⟩
        simp only [z01 hZ, if_pos q0]
      · by_cases q9 : zk s r i = 5 ∨ zk s r i = 7
        · obtain ⟨o1, o3⟩ := hS.ot hi (show zk s r i = 5 ∨ zk s r i = 7 ∨ zk s r i = 8 by omega)
          obtain ⟨c1, c2, c3, c4, u1, u2⟩ := br_M (f := f) (on := on) hI (hs0 9 (by decide)) hr hi o3 wl.1 (hbe i hi) (hon _ o3) hZ
          refine ⟨c1, c2, c3, c4, by rw [if_pos ⟨q0, q9⟩]; exact u2, fun x12 => ?_⟩
          rcases q9 with q9 | q9
          · simp only [z01 hZ, if_neg q0, if_pos q9, o1]
            rw [u1, b_ob]
          · simp only [z01 hZ, if_neg q0, if_neg (show ¬ zk s r i = 5 by omega), if_pos q9, o1]
            rw [u1, b_ob]
        · refine ⟨z1, z2, z3, z4, by rw [if_neg (fun z => q9 z.2)]; exact hZ, fun x12 => ?_⟩
          simp only [z01 hZ, if_neg q0, if_neg (show ¬ zk s r i = 5 by omega), if_neg (show ¬ zk s r i = 7 by omega)]
    have one : ∃ d1 d2 d3 d4, YA d1 d2 d3 d4 (if Y1.1 i ≠ 0 ∧ zk s r i ≠ 9 then mBr (zk s r) be on Y1 i (zn s r i) w else Y1) ∧ ∀ x12, (oj (fun (x14 : Int32) => og 12 (nI i) fun j15 => oj (fun (s17 : rx_S) => oj (fun (s19 : rx_S) => D_M_measures_65 f (nI r) k x12 (nI (i + 1)) s19) fun J18 => if (s17 47 j15) = 0 then J18 s17 else oj (fun (_ : Unit) => ob (D_M_brings f (nI r) (nI i) (s17 14 (12 * r + i)) x14 s17) fun x21 s22 => J18 s22) fun J20 => if (s17 9 (12 * r + i)) = (nI 5) then J20 () else if (s17 9 (12 * r + i)) = (nI 7) then J20 () else J18 s17) fun J16 => if (wy s0 y1 a2' y3 y4 47 j15) = 0 then J16 (wy s0 y1 a2' y3 y4) else if (wy s0 y1 a2' y3 y4 9 (12 * r + i)) = (nI 9) then J16 (wy s0 y1 a2' y3 y4) else ob (D_M_brings f (nI r) (nI i) (wy s0 y1 a2' y3 y4 13 (12 * r + i)) x14 (wy s0 y1 a2' y3 y4)) fun x23 s24 => J16 s24) fun J13 => if (wy s0 y1 a2' y3 y4 9 (12 * r + i)) = (nI 4) then og 12 (nI i) fun j25 => J13 ((wy s0 y1 a2' y3 y4 44 j25) ||| ((nI 1) <<< ((wy s0 y1 a2' y3 y4 11 (12 * r + i)) &&& 31))) else og 12 (nI i) fun j26 => J13 (wy s0 y1 a2' y3 y4 44 j26)) = (if d1 i = 0 then D_M_measures_65 f (nI r) k x12 (nI (i + 1)) (wy s0 d1 d2 d3 d4) else if zk s r i = 5 then (ob (D_M_brings f (nI r) (nI i) (s 14 (12 * r + i)) (nI w) (wy s0 d1 d2 d3 d4)) fun x21 s22 => D_M_measures_65 f (nI r) k x12 (nI (i + 1)) s22) else if zk s r i = 7 then (ob (D_M_brings f (nI r) (nI i) (s 14 (12 * r + i)) (nI w) (wy s0 d1 d2 d3 d4)) fun x21 s22 => D_M_measures_65 f (nI r) k x12 (nI (i + 1)) s22) else D_M_measures_65 f (nI r) k x12 (nI (i + 1)) (wy s0 d1 d2 d3 d4)) := by
      by_cases q0 : Y1.1 i = 0
      · refine ⟨y1, a2', y3, y4, by rw [if_neg (fun z => z.1 q0)]; exact hY1, fun x12 => ?_⟩
        simp only [b_oj, b_og i12 (show 12 < 2 ^ 31 by decide), hk _ _ _ _ 4 (by decide), hk _ _ _ _ 9 (by decide), hk _ _ _ _ 5 (by decide), hk _ _ _ _ 7 (by decide), wy_1, wy_2, e11, e13, e14, a2 i i12, z01 hY1, if_pos q0, ite_self]
      · by_cases q9 : zk s r i = 9
        · refine ⟨y1, a2', y3, y4, by rw [if_neg (fun z => z.2 q9)]; exact hY1, fun x12 => ?_⟩
          simp only [b_oj, b_og i12 (show 12 < 2 ^ 31 by decide), hk _ _ _ _ 4 (by decide), hk _ _ _ _ 9 (by decide), hk _ _ _ _ 5 (by decide), hk _ _ _ _ 7 (by decide), wy_1, wy_2, e11, e13, e14, a2 i i12, z01 hY1, if_neg q0, if_pos q9, if_neg (show ¬ zk s r i = 5 by omega), if_neg (show ¬ zk s r i = 7 by omega), ite_self]
        · obtain ⟨n1, n2, n3⟩ := hS.nx hi q9
          obtain ⟨d1, d2, d3, d4, u1, u2⟩ := br_M (f := f) (on := on) hI (hs0 9 (by decide)) hr hi n3 wl.1 (hbe i hi) (hon _ n3) hY1
          refine ⟨d1, d2, d3, d4, by rw [if_pos ⟨q0, q9⟩]; exact u2, fun x12 => ?_⟩
          by_cases q4 : zk s r i = 4
          · rw [if_pos q4] at wv
            simp only [b_oj, b_og i12 (show 12 < 2 ^ 31 by decide), hk _ _ _ _ 4 (by decide), hk _ _ _ _ 9 (by decide), hk _ _ _ _ 5 (by decide), hk _ _ _ _ 7 (by decide), wy_1, wy_2, e11, e13, e14, a2 i i12, z01 hY1, if_neg q0, if_neg q9, if_pos q4, wv, n1, u1, b_ob]
          · rw [if_neg q4] at wv
            simp only [b_oj, b_og i12 (show 12 < 2 ^ 31 by decide), hk _ _ _ _ 4 (by decide), hk _ _ _ _ 9 (by decide), hk _ _ _ _ 5 (by decide), hk _ _ _ _ 7 (by decide), wy_1, wy_2, e11, e13, e14, a2 i i12, z01 hY1, if_neg q0, if_neg q9, if_neg q4, wv, n1, u1, b_ob]
    obtain ⟨d1, d2, d3, d4, hY2, ev2⟩ := one
    obtain ⟨c1, c2, c3, c4, hY3, ev3⟩ := two hY2
    exact ⟨c1, c2, c3, c4, hY3, fun x12 => by rw [ev2, ev3]⟩
  obtain ⟨c1, c2, c3, c4, hY3, rest⟩ := rest
  refine ⟨c1, c2, c3, c4, ?_, hY3⟩
  have ev : D_M_measures_65 f (nI r) (k + 1) (b01 g) (nI i) (wy s0 y1 y2 y3 y4) = (if b01 g = 0 then D_M_measures_65 f (nI r) k (nI 0) (nI (i + 1)) (wy s0 c1 c2 c3 c4) else if zk s r i = 7 then (if y1 i = 0 then D_M_measures_65 f (nI r) k (nI 1) (nI (i + 1)) (wy s0 c1 c2 c3 c4) else if ((nI (Y1.2.1 i)) >>> ((s 10 (12 * r + i)) &&& 31)) &&& (nI 1) = (nI 1) then D_M_measures_65 f (nI r) k (nI 1) (nI (i + 1)) (wy s0 c1 c2 c3 c4) else D_M_measures_65 f (nI r) k (nI 0) (nI (i + 1)) (wy s0 c1 c2 c3 c4)) else D_M_measures_65 f (nI r) k (nI 1) (nI (i + 1)) (wy s0 c1 c2 c3 c4)) := by
    rw [D_M_measures_65, b_og hr (by decide), e7, if_neg (nI_ge hi (by omega)), pk_mul, nI_add, b_og (show 12 * r + i < 48 by omega) (by decide), b_oj, nI_add]
    refine (ev1 (fun s10 => oj (fun (x12 : Int32) => oj (fun (x14 : Int32) => og 12 (nI i) fun j15 => oj (fun (s17 : rx_S) => oj (fun (s19 : rx_S) => D_M_measures_65 f (nI r) k x12 (nI (i + 1)) s19) fun J18 => if (s17 47 j15) = 0 then J18 s17 else oj (fun (_ : Unit) => ob (D_M_brings f (nI r) (nI i) (s17 14 (12 * r + i)) x14 s17) fun x21 s22 => J18 s22) fun J20 => if (s17 9 (12 * r + i)) = (nI 5) then J20 () else if (s17 9 (12 * r + i)) = (nI 7) then J20 () else J18 s17) fun J16 => if (s10 47 j15) = 0 then J16 s10 else if (s10 9 (12 * r + i)) = (nI 9) then J16 s10 else ob (D_M_brings f (nI r) (nI i) (s10 13 (12 * r + i)) x14 s10) fun x23 s24 => J16 s24) fun J13 => if (s10 9 (12 * r + i)) = (nI 4) then og 12 (nI i) fun j25 => J13 ((s10 44 j25) ||| ((nI 1) <<< ((s10 11 (12 * r + i)) &&& 31))) else og 12 (nI i) fun j26 => J13 (s10 44 j26)) fun J11 => oj (fun (_ : Unit) => J11 (nI 0)) fun J27 => if b01 g = 0 then J27 () else oj (fun (_ : Unit) => J11 (nI 1)) fun J28 => if (s10 9 (12 * r + i)) = (nI 7) then og 12 (nI i) fun j29 => if (s10 47 j29) = 0 then J28 () else if (((s10 44 j29) >>> ((s10 10 (12 * r + i)) &&& 31)) &&& (nI 1)) = (nI 1) then J28 () else J27 () else J28 ())).trans ?_
    have r0 := rest (nI 0)
    have r1 := rest (nI 1)
    rw [b_oj, b_oj]
    show (if b01 g = 0 then _ else oj (fun (_ : Unit) => _) fun J28 => if (wy s0 y1 a2' y3 y4 9 (12 * r + i)) = (nI 7) then og 12 (nI i) fun j29 => if (wy s0 y1 a2' y3 y4 47 j29) = 0 then J28 () else if (((wy s0 y1 a2' y3 y4 44 j29) >>> ((wy s0 y1 a2' y3 y4 10 (12 * r + i)) &&& 31)) &&& (nI 1)) = (nI 1) then J28 () else _ else J28 ()) = _
    dsimp only
    rw [r0, r1]
    simp only [b_oj, hk _ _ _ _ 7 (by decide), b_og i12 (show 12 < 2 ^ 31 by decide), wy_1, wy_2, e10, a2 i i12]
  rw [ev]
  simp only [z01 hY1]
  cases g with
  | false => simp only [b01_f, b_00, if_true, Bool.false_and]
  | true =>
    simp only [b01_t, b_10, if_false, Bool.true_and]
    by_cases q7 : zk s r i = 7
    · obtain ⟨n1, n2⟩ := nb.2 q7
      rw [if_pos q7, n1, i_bit _ (b2 i) _ n2]
      by_cases q0 : Y1.1 i = 0
      · simp [q0, b01]
      · rw [if_neg q0]
        by_cases qb : (Y1.2.1 i >>> za s r i) % 2 = 1
        · rw [qb, if_pos rfl]; simp [b01]
        · have qz : (Y1.2.1 i >>> za s r i) % 2 = 0 := by omega
          rw [qz, if_neg (by decide)]; simp [q7, q0, b01]
    · rw [if_neg q7]
      simp [q7, b01]
theorem nloop_M (hI : Iv K W bd s) {s0 : rx_S} (hs0 : ∀ k, k ≤ 40 → s0 k = s k) {r : Nat} {be on : Nat → Nat} (hr : r < 4) (hS : SR s r) (hbe : ∀ i, i < nt (s 7 r) → s0 41 i = nI (be i) ∧ be i < 25) (hon : ∀ t, t < nt (s 7 r) → zk s r t = 6 → s0 42 t = nI (on t) ∧ on t < 25) : ∀ d i k g y1 y2 y3 y4 Y, i + d = nt (s 7 r) → d < k → YA y1 y2 y3 y4 Y → ∃ e1 e2 e3 e4, D_M_measures_65 f (nI r) k (b01 g) (nI i) (wy s0 y1 y2 y3 y4) = some (b01 (mNames (nt (s 7 r)) (zk s r) (zn s r) (zo s r) (za s r) (zb s r) be on d i g Y), wy s0 e1 e2 e3 e4) := by
  have m7 := hI.i7 r hr
  have ml := m7.lt
  intro d
  induction d with
  | zero =>
    intro i k g y1 y2 y3 y4 Y hi hk hY
    obtain ⟨k, rfl⟩ : ∃ k', k = k' + 1 := ⟨k - 1, by omega⟩
    have e7 : wy s0 y1 y2 y3 y4 7 r = nI (nt (s 7 r)) := by
      show s0 7 r = _
      rw [hs0 7 (by decide)]; exact m7.eq
    refine ⟨y1, y2, y3, y4, ?_⟩
    rw [D_M_measures_65, b_og hr (by decide), e7, if_pos (by rw [show i = nt (s 7 r) by omega]; exact Int32.le_refl _), b01_o]
    rfl
  | succ d ih =>
    intro i k g y1 y2 y3 y4 Y hi hk hY
    obtain ⟨k, rfl⟩ : ∃ k', k = k' + 1 := ⟨k - 1, by omega⟩
    obtain ⟨e1, e2, e3, e4, w1, w2⟩ := nst_M (f := f) (k := k) (g := g) hI hs0 hr hS (show i < nt (s 7 r) by omega) hbe hon hY
    rw [w1, mNames]
    exact ih (i + 1) k _ e1 e2 e3 e4 _ (by omega) (by omega) w2
abbrev Y0 : Y4 := (up (fun _ => 0) 0 1, up (fun _ => 15) 0 0, fun _ => 15, fun _ => 15)
theorem nmM2 (hI : Iv K W bd s) {s0 : rx_S} (hs0 : ∀ k, k ≤ 40 → s0 k = s k) {r : Nat} {be on : Nat → Nat} (hr : r < 4) (hS : SR s r) (hf : 2 ^ 31 ≤ f) (hbe : ∀ i, i < nt (s 7 r) → s0 41 i = nI (be i) ∧ be i < 25) (hon : ∀ t, t < nt (s 7 r) → zk s r t = 6 → s0 42 t = nI (on t) ∧ on t < 25) : ∃ y e1 e2 e3 e4, D_M_measures f (nI r) s0 = some (y, wy s0 e1 e2 e3 e4) ∧ TF y (mNames (nt (s 7 r)) (zk s r) (zn s r) (zo s r) (za s r) (zb s r) be on (nt (s 7 r)) 0 true Y0 = true) := by
  have m7 := hI.i7 r hr
  have ml := m7.lt
  have id4 : wy s0 (s0 47) (s0 44) (s0 45) (s0 46) = s0 := by
    funext k
    unfold wy
    split
    · next z => rw [z]
    split
    · next z => rw [z]
    split
    · next z => rw [z]
    split
    · next z => rw [z]
    rfl
  have ini : ∀ (kk : rx_S → Option (Int32 × rx_S)) d i k y1 y2 y3 y4, i + d = 12 → d < k → (∀ j, j < i → y1 j = nI (up (fun _ => 0) 0 1 j) ∧ y2 j = nI (up (fun _ => 15) 0 0 j) ∧ y3 j = nI 15 ∧ y4 j = nI 15) → ∃ e1 e2 e3 e4, D_M_measures_2 f (nI r) kk k (nI i) (wy s0 y1 y2 y3 y4) = kk (wy s0 e1 e2 e3 e4) ∧ ∀ j, j < 12 → e1 j = nI (up (fun _ => 0) 0 1 j) ∧ e2 j = nI (up (fun _ => 15) 0 0 j) ∧ e3 j = nI 15 ∧ e4 j = nI 15 := by
    intro kk d
    induction d with
    | zero =>
      intro i k y1 y2 y3 y4 hi hk hg
      obtain ⟨k, rfl⟩ : ∃ k', k = k' + 1 := ⟨k - 1, by omega⟩
      have e : i = 12 := by omega
      subst e
      exact ⟨y1, y2, y3, y4, by rw [D_M_measures_2, if_pos (Int32.le_refl _)], hg⟩
    | succ d ih =>
      intro i k y1 y2 y3 y4 hi hk hg
      obtain ⟨k, rfl⟩ : ∃ k', k = k' + 1 := ⟨k - 1, by omega⟩
      obtain ⟨e1, e2, e3, e4, w1, w2⟩ := ih (i + 1) k (upd y1 i (nI (up (fun _ => 0) 0 1 i))) (upd y2 i (nI (up (fun _ => 15) 0 0 i))) (upd y3 i (nI 15)) (upd y4 i (nI 15)) (by omega) (by omega) (fun j hj => by
        by_cases e : j = i
        · rw [e, upd_s, upd_s, upd_s, upd_s]; exact ⟨rfl, rfl, rfl, rfl⟩
        · rw [upd_o e, upd_o e, upd_o e, upd_o e]; exact hg j (by omega))
      refine ⟨e1, e2, e3, e4, ?_, w2⟩
      rw [← w1, D_M_measures_2, if_neg (nI_ge (by omega) (by decide))]
      simp only [b_oj, b_og (show i < 12 by omega) (show 12 < 2 ^ 31 by decide), wy_u1, wy_u2, wy_u3, wy_u4, nI_add]
      by_cases e : i = 0
      · subst e
        simp only [b_00, if_true, ozb_1, up_eq]
      · simp only [if_neg (nI_ne0 (show 0 < i by omega) (show i < 2 ^ 31 by omega)), ozb_0, up_ne e]
  obtain ⟨e1, e2, e3, e4, w1, w2⟩ := ini (fun s6 => D_M_measures_65 f (nI r) f (nI 1) (nI 0) s6) 12 0 f (s0 47) (s0 44) (s0 45) (s0 46) (by omega) (by omega) (fun j hj => by omega)
  rw [id4] at w1
  obtain ⟨d1, d2, d3, d4, w3⟩ := nloop_M (f := f) hI hs0 hr hS hbe hon (nt (s 7 r)) 0 f true e1 e2 e3 e4 Y0 (by omega) (by omega) ⟨fun j hj => (w2 j hj).1, fun j hj => (w2 j hj).2.1, fun j hj => (w2 j hj).2.2.1, fun j hj => (w2 j hj).2.2.2, x0_01, up_16 (x := fun _ => 15) (fun _ => (by decide : 15 < 16)) (by decide), fun _ => (by decide : 15 < 16), fun _ => (by decide : 15 < 16)⟩
  refine ⟨b01 (mNames (nt (s 7 r)) (zk s r) (zn s r) (zo s r) (za s r) (zb s r) be on (nt (s 7 r)) 0 true Y0), d1, d2, d3, d4, ?_, ?_⟩
  · unfold D_M_measures
    have w1 : D_M_measures_2 f (nI r) _ f (nI 0) s0 = _ := w1
    rw [w1]
    exact w3
  · cases mNames (nt (s 7 r)) (zk s r) (zn s r) (zo s r) (za s r) (zb s r) be on (nt (s 7 r)) 0 true Y0 with
    | true => exact TF.y rfl
    | false => exact TF.n (by simp)
end NM2
