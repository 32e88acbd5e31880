/-! release: branches, the class -/
section BRC
variable {f : Nat} {K : kx} {W : Nat → Nat → Nat} {bd : Nat} {c : cx_S} {s : rx_S}
/-- none, or a number -/
def ec (v : Nat) : Int32 := if v = 0 then -1 else nI (v - 1)
theorem nI_m1 {n : Nat} (h : n < 2 ^ 31) : ¬ nI n = (-1 : Int32) := fun z => by
  have := nI_pos h
  rw [z] at this; exact absurd (by decide) this
theorem ec_m1 {v : Nat} (h : v ≤ 100) : (ec v = -1) = (v = 0) := by
  unfold ec
  apply propext
  by_cases q : v = 0
  · rw [if_pos q]; exact ⟨fun _ => q, fun _ => rfl⟩
  · rw [if_neg q]
    exact ⟨fun z => absurd z (nI_m1 (by omega)), fun z => absurd z q⟩
theorem ec_nI {v b : Nat} (h : v ≤ 100) (hb : b ≤ 100) : (ec v = nI b) = (v = b + 1) := by
  unfold ec
  apply propext
  by_cases q : v = 0
  · rw [if_pos q]
    exact ⟨fun z => absurd z.symm (nI_m1 (by omega)), fun z => by omega⟩
  · rw [if_neg q, nI_eq (by omega) (by omega)]
    omega
theorem ec_s {b : Nat} : ec (b + 1) = nI b := rfl
theorem ec_0 : ec 0 = -1 := rfl
def Ec (n m : Nat) (g : Nat → Int32) (x : Nat → Nat) : Prop := ∀ j, j < n → g j = ec (x j) ∧ x j ≤ m
theorem Ec_up {n m : Nat} {g : Nat → Int32} {x : Nat → Nat} {j v : Nat} {y : Int32} (h : Ec n m g x) (hy : y = ec v) (hv : v ≤ m) : Ec n m (upd g j y) (up x j v) := fun k hk => by
  by_cases e : k = j
  · rw [e, upd_s, up_eq]; exact ⟨hy, hv⟩
  · rw [upd_o e, up_ne e]; exact h k hk
/-- the class with three rows of its own -/
def w3 (c : cx_S) (g1 g2 g3 : Nat → Int32) : cx_S := (fun F q j => if F = 400 ∧ q = 7 then g1 j else if F = 400 ∧ q = 8 then g2 j else if F = 400 ∧ q = 9 then g3 j else cI c F q j, c.2)
section W3
variable {g1 g2 g3 : Nat → Int32}
theorem w3_7 {j : Nat} : cI (w3 c g1 g2 g3) 400 7 j = g1 j := by
  show (if 400 = 400 ∧ 7 = 7 then g1 j else if 400 = 400 ∧ 7 = 8 then g2 j else if 400 = 400 ∧ 7 = 9 then g3 j else cI c 400 7 j) = g1 j
  simp
theorem w3_8 {j : Nat} : cI (w3 c g1 g2 g3) 400 8 j = g2 j := by
  show (if 400 = 400 ∧ 8 = 7 then g1 j else if 400 = 400 ∧ 8 = 8 then g2 j else if 400 = 400 ∧ 8 = 9 then g3 j else cI c 400 8 j) = g2 j
  simp
theorem w3_9 {j : Nat} : cI (w3 c g1 g2 g3) 400 9 j = g3 j := by
  show (if 400 = 400 ∧ 9 = 7 then g1 j else if 400 = 400 ∧ 9 = 8 then g2 j else if 400 = 400 ∧ 9 = 9 then g3 j else cI c 400 9 j) = g3 j
  simp
theorem w3_u7 {j : Nat} {v : Int32} : cx_ui (w3 c g1 g2 g3) 400 7 j v = w3 c (upd g1 j v) g2 g3 := by
  refine Prod.ext ?_ rfl
  funext F q i
  show (if F = 400 ∧ q = 7 ∧ i = j then v else if F = 400 ∧ q = 7 then g1 i else _) = if F = 400 ∧ q = 7 then upd g1 j v i else _
  unfold upd
  by_cases e : F = 400 ∧ q = 7
  · rw [if_pos e, if_pos e]
    by_cases e2 : i = j
    · rw [if_pos ⟨e.1, e.2, e2⟩, if_pos e2]
    · rw [if_neg (fun z => e2 z.2.2), if_neg e2]
  · rw [if_neg (fun z => e ⟨z.1, z.2.1⟩), if_neg e, if_neg e]
theorem w3_u8 {j : Nat} {v : Int32} : cx_ui (w3 c g1 g2 g3) 400 8 j v = w3 c g1 (upd g2 j v) g3 := by
  refine Prod.ext ?_ rfl
  funext F q i
  show (if F = 400 ∧ q = 8 ∧ i = j then v else if F = 400 ∧ q = 7 then g1 i else if F = 400 ∧ q = 8 then g2 i else _) = if F = 400 ∧ q = 7 then g1 i else if F = 400 ∧ q = 8 then upd g2 j v i else _
  unfold upd
  by_cases e : F = 400 ∧ q = 8
  · rw [if_neg (show ¬ (F = 400 ∧ q = 7) by omega), if_pos e, if_neg (show ¬ (F = 400 ∧ q = 7) by omega), if_pos e]
    by_cases e2 : i = j
    · rw [if_pos ⟨e.1, e.2, e2⟩, if_pos e2]
    · rw [if_neg (fun z => e2 z.2.2), if_neg e2]
  · rw [if_neg (fun z => e ⟨z.1, z.2.1⟩), if_neg e, if_neg e]
theorem w3_u9 {j : Nat} {v : Int32} : cx_ui (w3 c g1 g2 g3) 400 9 j v = w3 c g1 g2 (upd g3 j v) := by
  refine Prod.ext ?_ rfl
  funext F q i
  show (if F = 400 ∧ q = 9 ∧ i = j then v else if F = 400 ∧ q = 7 then g1 i else if F = 400 ∧ q = 8 then g2 i else if F = 400 ∧ q = 9 then g3 i else _) = if F = 400 ∧ q = 7 then g1 i else if F = 400 ∧ q = 8 then g2 i else if F = 400 ∧ q = 9 then upd g3 j v i else _
  unfold upd
  by_cases e : F = 400 ∧ q = 9
  · rw [if_neg (show ¬ (F = 400 ∧ q = 7) by omega), if_neg (show ¬ (F = 400 ∧ q = 8) by omega), if_pos e, if_neg (show ¬ (F = 400 ∧ q = 7) by omega), if_neg (show ¬ (F = 400 ∧ q = 8) by omega), if_pos e]
    by_cases e2 : i = j
    · rw [if_pos ⟨e.1, e.2, e2⟩, if_pos e2]
    · rw [if_neg (fun z => e2 z.2.2), if_neg e2]
  · rw [if_neg (fun z => e ⟨z.1, z.2.1⟩), if_neg e, if_neg e]
theorem CRep_w3 (h : CRep K c s) : CRep K (w3 c g1 g2 g3) s :=
  CRep_ext h (fun F q _ z => by
    funext j
    show (if F = 400 ∧ q = 7 then g1 j else if F = 400 ∧ q = 8 then g2 j else if F = 400 ∧ q = 9 then g3 j else cI c F q j) = _
    unfold Sc at z
    rw [if_neg (by omega), if_neg (by omega), if_neg (by omega)]) (fun _ _ _ => rfl) (fun _ _ => rfl) (Nat.le_refl _)
end W3
def CA (g1 g2 g3 : Nat → Int32) (A : A3) : Prop := Ec 12 25 g1 A.1 ∧ Ec 12 12 g2 A.2.1 ∧ Ec 25 12 g3 A.2.2
def b01 (b : Bool) : Int32 := if b = true then nI 1 else nI 0
theorem b01_0 {b : Bool} : (b01 b = 0) = (b = false) := by cases b <;> simp [b01] <;> decide
theorem b01_o {β : Type} {b : Bool} {k : Option β} : ozb (b01 b) k = k := by cases b <;> simp only [b01, if_true, Bool.false_eq_true, if_false, ozb_0, ozb_1]
theorem b01_t : b01 true = nI 1 := rfl
theorem b01_f : b01 false = nI 0 := rfl
theorem join_C (h : CRep K c s) {t b : Nat} (t12 : t < 12) (hb : b ≤ 24) {g1 g2 g3 : Nat → Int32} {A : A3} (hA : CA g1 g2 g3 A) :
    ∃ e1 e2 e3, D_C_joinBranch f 5 (nI t) (nI b) (w3 c g1 g2 g3) = some (b01 (cJoin A t b).1, w3 c e1 e2 e3) ∧ CA e1 e2 e3 (cJoin A t b).2 := by
  obtain ⟨a1, a2, a3⟩ := hA
  unfold D_C_joinBranch cJoin
  by_cases b0 : b = 0
  · subst b0
    simp only [b_00, if_true]
    exact ⟨g1, g2, g3, rfl, a1, a2, a3⟩
  have bn : ¬ nI b = 0 := nI_ne0 (by omega) (by omega)
  have f12 : (b - 1) / 2 < 12 := by omega
  have ef : (nI b - nI 1) / nI 2 = nI ((b - 1) / 2) := by rw [pk_sub (by omega), pk_div (by omega) (by decide) (by decide)]
  have o2 : ∀ {β : Type} {k : Option β}, od (nI 2) k = k := fun {β k} => if_neg (by decide)
  have hj := a1 t t12
  have hjf := a1 ((b - 1) / 2) f12
  have hb3 := a3 b (by omega)
  have hf2 := a2 t t12
  have o5 : ∀ (g1 g2 g3 : Nat → Int32) {β : Type} {k : Nat → Option β}, oc 7 (some 5) (w3 c g1 g2 g3) k = k 5 := fun _ _ _ => b_oc h.fix.h5
  have r3 : ∀ (g1 g2 g3 : Nat → Int32), cR (w3 c g1 g2 g3) 113 5 0 = some 7 := fun _ _ _ => h.fix.f113
  have r4 : ∀ (g1 g2 g3 : Nat → Int32), cR (w3 c g1 g2 g3) 114 5 0 = some 8 := fun _ _ _ => h.fix.f114
  have r5 : ∀ (g1 g2 g3 : Nat → Int32), cR (w3 c g1 g2 g3) 115 5 0 = some 9 := fun _ _ _ => h.fix.f115
  have x7 : ∀ (g1 g2 g3 : Nat → Int32) {β : Type} {k : Nat → Nat → Option β}, oa 400 (some 7) (nI t) (w3 c g1 g2 g3) k = k 7 t := fun _ _ _ => b_oa h.fix.h7 t12 (by decide)
  have x7f : ∀ (g1 g2 g3 : Nat → Int32) {β : Type} {k : Nat → Nat → Option β}, oa 400 (some 7) (nI ((b - 1) / 2)) (w3 c g1 g2 g3) k = k 7 ((b - 1) / 2) := fun _ _ _ => b_oa h.fix.h7 f12 (by decide)
  have x8 : ∀ (g1 g2 g3 : Nat → Int32) {β : Type} {k : Nat → Nat → Option β}, oa 400 (some 8) (nI t) (w3 c g1 g2 g3) k = k 8 t := fun _ _ _ => b_oa h.fix.h8 t12 (by decide)
  have x9 : ∀ (g1 g2 g3 : Nat → Int32) {β : Type} {k : Nat → Nat → Option β}, oa 400 (some 9) (nI b) (w3 c g1 g2 g3) k = k 9 b := fun _ _ _ => b_oa h.fix.h9 (by omega) (by decide)
  simp only [if_neg bn, if_neg b0, o2, ef, o5, r3, r5, x7, x7f, x9, cR_ui, r4, x8, b_oj, w3_7, w3_u7, w3_u8, w3_8, w3_9]
  by_cases q : A.1 t = 0
  · have q1 : g1 t = -1 := by rw [hj.1, q]; rfl
    simp only [if_pos q, if_pos q1]
    by_cases q2 : A.2.2 b = 0
    · have q3 : g3 b = -1 := by rw [hb3.1, q2]; rfl
      simp only [if_pos q2, if_pos q3, w3_u9, o5, r4, r5, x8, x9, w3_8, w3_9, upd_s, if_true, ozb_1, up_eq, and_self, decide_true]
      exact ⟨_, _, _, rfl, Ec_up a1 hjf.1 hjf.2, Ec_up a2 rfl (by omega), Ec_up a3 rfl (by omega)⟩
    · have q3 : ¬ g3 b = -1 := by rw [hb3.1, ec_m1 (by omega)]; exact q2
      simp only [if_neg q2, if_neg q3, o5, r4, r5, x8, x9, w3_8, w3_9, upd_s, if_true, up_eq, true_and]
      refine ⟨_, _, g3, ?_, Ec_up a1 hjf.1 hjf.2, Ec_up a2 rfl (by omega), a3⟩
      have e9 : (g3 b = nI t) = (A.2.2 b = t + 1) := by rw [hb3.1]; exact ec_nI (by omega) (by omega)
      simp only [e9]
      by_cases q4 : A.2.2 b = t + 1
      · simp only [if_true, ozb_1, q4, decide_true, b01_t, ec_s]
      · simp only [if_false, ozb_0, q4, decide_false, b01_f, ec_s]
  · have q1 : ¬ g1 t = -1 := by rw [hj.1, ec_m1 (by omega)]; exact q
    have e8 : (g2 t = nI ((b - 1) / 2)) = (A.2.1 t = (b - 1) / 2 + 1) := by rw [hf2.1]; exact ec_nI (by omega) (by omega)
    simp only [if_neg q, if_neg q1]
    by_cases q2 : A.2.2 b = 0
    · have q3 : g3 b = -1 := by rw [hb3.1, q2]; rfl
      simp only [if_pos q2, if_pos q3, w3_u9, o5, r4, r5, x8, x9, w3_8, w3_9, upd_s, if_true, up_eq, and_true, e8]
      refine ⟨g1, g2, _, ?_, a1, a2, Ec_up a3 rfl (by omega)⟩
      by_cases q4 : A.2.1 t = (b - 1) / 2 + 1
      · simp only [if_true, ozb_1, q4, decide_true, b01_t, ec_s]
      · simp only [if_false, ozb_0, q4, decide_false, b01_f, ec_s]
    · have q3 : ¬ g3 b = -1 := by rw [hb3.1, ec_m1 (by omega)]; exact q2
      have e9 : (g3 b = nI t) = (A.2.2 b = t + 1) := by rw [hb3.1]; exact ec_nI (by omega) (by omega)
      simp only [if_neg q2, if_neg q3, o5, r4, r5, x8, x9, w3_8, w3_9, e8, e9]
      refine ⟨g1, g2, g3, ?_, a1, a2, a3⟩
      by_cases q4 : A.2.1 t = (b - 1) / 2 + 1 <;> by_cases q5 : A.2.2 b = t + 1 <;> simp only [q4, q5, if_true, if_false, and_self, and_true, and_false, decide_true, decide_false, ozb_0, ozb_1, b01_t, b01_f]
theorem ent_C (h : CRep K c s) (hI : Iv K W bd s) {r t b : Nat} (hr : r < 4) (ht : t < nt (s 7 r)) (hb : b ≤ 24) {bg : Bool} {g1 g2 g3 : Nat → Int32} {A : A3} (hA : CA g1 g2 g3 A) :
    ∃ e1 e2 e3, D_C_enterBranch f 5 (some (40 + 3 * r)) (nI t) (nI b) (b01 bg) (w3 c g1 g2 g3) = some (b01 (cEnt (zk s r) A t b bg).1, w3 c e1 e2 e3) ∧ CA e1 e2 e3 (cEnt (zk s r) A t b bg).2 := by
  have m7 := hI.i7 r hr
  have ml := m7.lt
  have hw : ∀ {g1 g2 g3}, CRep K (w3 c g1 g2 g3) s := fun {g1 g2 g3} => CRep_w3 h
  have em : ∀ {g1 g2 g3}, cI (w3 c g1 g2 g3) 97 (40 + 3 * r) 0 = nI (nt (s 7 r)) := fun {g1 g2 g3} => by rw [(hw (g1 := g1) (g2 := g2) (g3 := g3)).rm r hr]; exact m7.eq
  have hst := h.sh r hr t ht
  have k10 := hI.i9 r hr t ht
  have hk : (s 9 (12 * r + t) = nI 6) ↔ zk s r t = 6 := by rw [k10.eq, nI_eq (by have := k10.lt; omega) (by decide)]
  have hw0 := hw (g1 := g1) (g2 := g2) (g3 := g3)
  obtain ⟨a1, a2, a3⟩ := hA
  have t12 : t < 12 := by omega
  unfold D_C_enterBranch
  simp only [b_oc (hw0.fix.hRec r hr), em, b_below_t ht (show nt (s 7 r) < 2 ^ 31 by omega), b_ob, b_10, if_false, hw0.fix.stp r hr, b_oa (hw0.fix.hStp r hr) t12 (show 12 < 2 ^ 31 by decide), (show cR (w3 c g1 g2 g3) 407 (42 + 3 * r) t = some (kS K r t) from hst.1), b_oc (show cH (w3 c g1 g2 g3) (kS K r t) = some (8, 0) from hst.2), hw0.s0 r hr t ht, b_oc hw0.fix.h5, hw0.fix.f113, b_oa hw0.fix.h7 t12 (show 12 < 2 ^ 31 by decide), w3_7, b_oj]
  unfold cEnt
  by_cases k6 : zk s r t = 6
  · rw [if_pos (hk.mpr k6), if_pos k6]
    cases bg with
    | true =>
      rw [if_neg (by simp [b01]; decide), ozb_0]
      exact ⟨g1, g2, g3, rfl, a1, a2, a3⟩
    | false =>
      obtain ⟨e1, e2, e3, w1, w2⟩ := join_C (f := f) h t12 hb ⟨a1, a2, a3⟩
      rw [if_pos (show b01 false = 0 from rfl), w1, b_ob]
      simp only [Bool.false_eq_true, if_false]
      refine ⟨e1, e2, e3, ?_, w2⟩
      cases (cJoin A t b).1 with
      | true => simp only [b01_t, b_10, if_false, ozb_1]
      | false => simp only [b01_f, b_00, if_true, ozb_0]
  · rw [if_neg (fun z => k6 (hk.mp z)), if_neg k6]
    have hj := a1 t t12
    by_cases q : A.1 t = 0
    · have q1 : g1 t = -1 := by rw [hj.1, q]; rfl
      have hw2 := hw (g1 := upd g1 t (nI b)) (g2 := g2) (g3 := g3)
      simp only [if_pos q, if_pos q1, w3_u7, b_oc hw2.fix.h5, hw2.fix.f113, b_oa hw2.fix.h7 t12 (show 12 < 2 ^ 31 by decide), w3_7, upd_s, if_true, ozb_1, up_eq]
      refine ⟨upd g1 t (nI b), g2, g3, by simp [b01], Ec_up a1 rfl (by omega), a2, a3⟩
    · have q1 : ¬ g1 t = -1 := by rw [hj.1, ec_m1 (by omega)]; exact q
      simp only [if_neg q, if_neg q1, b_oc hw0.fix.h5, hw0.fix.f113, b_oa hw0.fix.h7 t12 (show 12 < 2 ^ 31 by decide), w3_7]
      refine ⟨g1, g2, g3, ?_, a1, a2, a3⟩
      have e7 : (g1 t = nI b) = (A.1 t = b + 1) := by rw [hj.1]; exact ec_nI (by omega) (by omega)
      simp only [e7]
      by_cases q2 : A.1 t = b + 1
      · simp only [ozb_1, q2, decide_true, b01_t, if_true]
      · simp only [ozb_0, q2, decide_false, b01_f, if_false]
theorem entn_C (h : CRep K c s) (hI : Iv K W bd s) {r : Nat} (hr : r < 4) {b x : Int32} : D_C_enterBranch f 5 (some (40 + 3 * r)) (-1) b x c = some (nI 1, c) := by
  have m7 := hI.i7 r hr
  have ml := m7.lt
  have em : cI c 97 (40 + 3 * r) 0 = nI (nt (s 7 r)) := by rw [h.rm r hr]; exact m7.eq
  unfold D_C_enterBranch
  simp only [b_oc (h.fix.hRec r hr), em, b_below_f (n := nt (s 7 r)) (x := -1) (Or.inl (by decide)), b_ob, b_00, if_true]
theorem spr_C (h : CRep K c s) (hI : Iv K W bd s) {r i : Nat} (hr : r < 4) (hS : SR s r) (hi : i < nt (s 7 r)) {g1 g2 g3 : Nat → Int32} {A : A3} (hA : CA g1 g2 g3 A) (hAi : A.1 i ≠ 0) :
    ∃ e1 e2 e3, D_C_spreadBranch f 5 (some (40 + 3 * r)) (nI i) (w3 c g1 g2 g3) = some (b01 (cSpr (zk s r) (zn s r) (zo s r) A i).1, w3 c e1 e2 e3) ∧ CA e1 e2 e3 (cSpr (zk s r) (zn s r) (zo s r) A i).2 := by
  have m7 := hI.i7 r hr
  have ml := m7.lt
  have hw : ∀ (g1 g2 g3 : Nat → Int32), CRep K (w3 c g1 g2 g3) s := fun _ _ _ => CRep_w3 h
  have hst := h.sh r hr i hi
  have k10 := hI.i9 r hr i hi
  have kl := k10.lt
  have hk5 : (s 9 (12 * r + i) = nI 5) ↔ zk s r i = 5 := by rw [k10.eq, nI_eq (by omega) (by decide)]
  have hw0 := hw g1 g2 g3
  have i12 : i < 12 := by omega
  have ai := hA.1 i i12
  have eai : g1 i = nI (A.1 i - 1) := by rw [ai.1]; unfold ec; rw [if_neg hAi]
  have aib : A.1 i - 1 ≤ 24 := by omega
  unfold cSpr
  -- the first way
  have one : ∃ e1 e2 e3, D_C_enterBranch f 5 (some (40 + 3 * r)) (if zk s r i = 9 then -1 else s 13 (12 * r + i)) (if zk s r i = 5 then nI (2 * i + 1) else nI (A.1 i - 1)) (b01 (decide (zk s r i = 5))) (w3 c g1 g2 g3) = some (b01 (if zk s r i = 9 then (true, A) else cEnt (zk s r) A (zn s r i) (if zk s r i = 5 then 2 * i + 1 else A.1 i - 1) (decide (zk s r i = 5))).1, w3 c e1 e2 e3) ∧ CA e1 e2 e3 (if zk s r i = 9 then (true, A) else cEnt (zk s r) A (zn s r i) (if zk s r i = 5 then 2 * i + 1 else A.1 i - 1) (decide (zk s r i = 5))).2 := by
    by_cases k9 : zk s r i = 9
    · rw [if_pos k9, if_pos k9, entn_C hw0 hI hr]
      exact ⟨g1, g2, g3, rfl, hA⟩
    · obtain ⟨n1, n2, n3⟩ := hS.nx hi k9
      rw [if_neg k9, if_neg k9, n1]
      have eb : (if zk s r i = 5 then nI (2 * i + 1) else nI (A.1 i - 1)) = nI (if zk s r i = 5 then 2 * i + 1 else A.1 i - 1) := by split <;> rfl
      rw [eb]
      exact ent_C h hI hr n3 (by split <;> omega) hA
  have two : ∀ {e1 e2 e3 : Nat → Int32} {B : A3}, CA e1 e2 e3 B → ∃ d1 d2 d3, D_C_enterBranch f 5 (some (40 + 3 * r)) (if zk s r i = 5 ∨ zk s r i = 7 ∨ zk s r i = 8 then s 14 (12 * r + i) else -1) (if zk s r i = 5 then nI (2 * i + 2) else nI (A.1 i - 1)) (b01 (decide (zk s r i = 5))) (w3 c e1 e2 e3) = some (b01 (if zk s r i = 5 ∨ zk s r i = 7 ∨ zk s r i = 8 then cEnt (zk s r) B (zo s r i) (if zk s r i = 5 then 2 * i + 2 else A.1 i - 1) (decide (zk s r i = 5)) else (true, B)).1, w3 c d1 d2 d3) ∧ CA d1 d2 d3 (if zk s r i = 5 ∨ zk s r i = 7 ∨ zk s r i = 8 then cEnt (zk s r) B (zo s r i) (if zk s r i = 5 then 2 * i + 2 else A.1 i - 1) (decide (zk s r i = 5)) else (true, B)).2 := by
    intro e1 e2 e3 B hB
    by_cases ko : zk s r i = 5 ∨ zk s r i = 7 ∨ zk s r i = 8
    · obtain ⟨n1, n3⟩ := hS.ot hi ko
      rw [if_pos ko, if_pos ko, n1]
      have eb : (if zk s r i = 5 then nI (2 * i + 2) else nI (A.1 i - 1)) = nI (if zk s r i = 5 then 2 * i + 2 else A.1 i - 1) := by split <;> rfl
      rw [eb]
      exact ent_C h hI hr n3 (by split <;> omega) hB
    · rw [if_neg ko, if_neg ko, entn_C (hw e1 e2 e3) hI hr]
      exact ⟨e1, e2, e3, rfl, hB⟩
  obtain ⟨e1, e2, e3, w1, w2⟩ := one
  generalize (if zk s r i = 9 then (true, A) else cEnt (zk s r) A (zn s r i) (if zk s r i = 5 then 2 * i + 1 else A.1 i - 1) (decide (zk s r i = 5))) = R1 at *
  obtain ⟨d1, d2, d3, w3', w4⟩ := two w2
  have hw1 := hw e1 e2 e3
  have wc0 := way_C0 (f := f) hw0 hI hr hi
  have wc1 := way_C1 (f := f) hw1 hI hr hi
  have e01 : (if s 9 (12 * r + i) = nI 5 then nI 1 else nI 0) = b01 (decide (zk s r i = 5)) := by
    by_cases q : zk s r i = 5
    · rw [if_pos (hk5.mpr q), q]; rfl
    · rw [if_neg (fun z => q (hk5.mp z)), decide_eq_false q]; rfl
  have e02 : ∀ (v : Int32), (if b01 (decide (zk s r i = 5)) = 0 then nI (A.1 i - 1) else v) = (if zk s r i = 5 then v else nI (A.1 i - 1)) := by
    intro v
    by_cases q : zk s r i = 5
    · rw [if_pos q, decide_eq_true q, if_neg (by decide)]
    · rw [if_neg q, decide_eq_false q, if_pos (show b01 false = 0 from rfl)]
  have ev : D_C_spreadBranch f 5 (some (40 + 3 * r)) (nI i) (w3 c g1 g2 g3) = ob (D_C_enterBranch f 5 (some (40 + 3 * r)) (if zk s r i = 9 then -1 else s 13 (12 * r + i)) (if zk s r i = 5 then nI (2 * i + 1) else nI (A.1 i - 1)) (b01 (decide (zk s r i = 5))) (w3 c g1 g2 g3)) (fun x15 s16 => if x15 = 0 then ozb (nI 0) (some (nI 0, s16)) else oc 8 (some (kS K r i)) s16 fun p22 => ob (D_S_wayOut f p22 (nI 1) s16) fun x23 s24 => oc 7 (some 5) s24 fun p27 => ob (D_C_enterBranch f p27 (some (40 + 3 * r)) x23 (if zk s r i = 5 then nI (2 * i + 2) else nI (A.1 i - 1)) (b01 (decide (zk s r i = 5))) s24) fun x28 s29 => if x28 = 0 then ozb (nI 0) (some (nI 0, s29)) else ozb (nI 1) (some (nI 1, s29))) := by
    unfold D_C_spreadBranch
    simp only [b_oc (hw0.fix.hRec r hr), hw0.fix.stp r hr, b_oa (hw0.fix.hStp r hr) i12 (show 12 < 2 ^ 31 by decide), b_oc hw0.fix.h5, hw0.fix.f113, b_oa hw0.fix.h7 i12 (show 12 < 2 ^ 31 by decide), (show cR (w3 c g1 g2 g3) 407 (42 + 3 * r) i = some (kS K r i) from hst.1), b_oc (show cH (w3 c g1 g2 g3) (kS K r i) = some (8, 0) from hst.2), hw0.s0 r hr i hi, w3_7, eai, b_oj, wc0, b_ob, pk_mul, nI_add]
    by_cases q : zk s r i = 5
    · simp only [hk5.mpr q, if_true, b_10, if_false, q, decide_true, b01_t]
    · have q' : ¬ s 9 (12 * r + i) = nI 5 := fun z => q (hk5.mp z)
      simp only [q', if_false, b_00, if_true, q, decide_false, b01_f]
  rw [ev, w1, b_ob]
  cases hR : R1.1 with
  | false =>
    simp only [hR, b01_f, b_00, if_true, ozb_0, Bool.false_eq_true, if_false]
    exact ⟨e1, e2, e3, rfl, w2⟩
  | true =>
    simp only [hR, b01_t, b_10, if_false, if_true, b_oc (show cH (w3 c e1 e2 e3) (kS K r i) = some (8, 0) from hst.2), wc1, b_ob, b_oc hw1.fix.h5, w3']
    refine ⟨d1, d2, d3, ?_, w4⟩
    cases (if zk s r i = 5 ∨ zk s r i = 7 ∨ zk s r i = 8 then cEnt (zk s r) R1.2 (zo s r i) (if zk s r i = 5 then 2 * i + 2 else A.1 i - 1) (decide (zk s r i = 5)) else (true, R1.2)).1 with
    | false => simp only [b01_f, b_00, if_true, ozb_0]
    | true => simp only [b01_t, b_10, if_false, ozb_1]
abbrev cg (s : rx_S) (r : Nat) : A3 → Nat → Bool × A3 := cSpr (zk s r) (zn s r) (zo s r)
theorem brow_C (h : CRep K c s) (hI : Iv K W bd s) {r : Nat} (hr : r < 4) (hS : SR s r) {l2 : Int32} {kk : cx_S → Option (Int32 × cx_S)} : ∀ d i k g1 g2 g3 A, i + d = nt (s 7 r) → d < k → CA g1 g2 g3 A →
    ∃ e1 e2 e3, CA e1 e2 e3 (aRow (cg s r) d i A).2 ∧ (((aRow (cg s r) d i A).1 = true ∧ D_C_isWellBranched_43 f 5 (some (40 + 3 * r)) l2 kk k (nI i) (w3 c g1 g2 g3) = kk (w3 c e1 e2 e3)) ∨ ((aRow (cg s r) d i A).1 = false ∧ D_C_isWellBranched_43 f 5 (some (40 + 3 * r)) l2 kk k (nI i) (w3 c g1 g2 g3) = some (nI 0, w3 c e1 e2 e3))) := by
  have m7 := hI.i7 r hr
  have ml := m7.lt
  have hw : ∀ (g1 g2 g3 : Nat → Int32), CRep K (w3 c g1 g2 g3) s := fun _ _ _ => CRep_w3 h
  have em : ∀ (g1 g2 g3 : Nat → Int32), cI (w3 c g1 g2 g3) 97 (40 + 3 * r) 0 = nI (nt (s 7 r)) := fun g1 g2 g3 => by rw [(hw g1 g2 g3).rm r hr]; exact m7.eq
  intro d
  induction d with
  | zero =>
    intro i k g1 g2 g3 A hi hk hA
    obtain ⟨k, rfl⟩ : ∃ k', k = k' + 1 := ⟨k - 1, by omega⟩
    refine ⟨g1, g2, g3, hA, Or.inl ⟨rfl, ?_⟩⟩
    rw [D_C_isWellBranched_43, b_oc ((hw g1 g2 g3).fix.hRec r hr), em, if_pos (by rw [show i = nt (s 7 r) by omega]; exact Int32.le_refl _)]
  | succ d ih =>
    intro i k g1 g2 g3 A hi hk hA
    obtain ⟨k, rfl⟩ : ∃ k', k = k' + 1 := ⟨k - 1, by omega⟩
    have ai := hA.1 i (by omega)
    have hw0 := hw g1 g2 g3
    rw [aRow]
    by_cases q : A.1 i = 0
    · have q1 : g1 i = -1 := by rw [ai.1, q]; rfl
      rw [if_pos q]
      obtain ⟨e1, e2, e3, w1, w2⟩ := ih (i + 1) k g1 g2 g3 A (by omega) (by omega) hA
      have ev : D_C_isWellBranched_43 f 5 (some (40 + 3 * r)) l2 kk (k + 1) (nI i) (w3 c g1 g2 g3) = D_C_isWellBranched_43 f 5 (some (40 + 3 * r)) l2 kk k (nI (i + 1)) (w3 c g1 g2 g3) := by
        rw [D_C_isWellBranched_43, b_oc (hw0.fix.hRec r hr), em, if_neg (nI_ge (by omega) (by omega)), b_oc hw0.fix.h5, hw0.fix.f113, b_oa hw0.fix.h7 (by omega) (by decide), b_oj, w3_7, if_pos q1, nI_add]
      exact ⟨e1, e2, e3, w1, by rw [ev]; exact w2⟩
    · have q1 : ¬ g1 i = -1 := by rw [ai.1, ec_m1 (by omega)]; exact q
      rw [if_neg q]
      obtain ⟨d1, d2, d3, u1, u2⟩ := spr_C (f := f) h hI hr hS (show i < nt (s 7 r) by omega) hA q
      have ev : D_C_isWellBranched_43 f 5 (some (40 + 3 * r)) l2 kk (k + 1) (nI i) (w3 c g1 g2 g3) = if b01 (cg s r A i).1 = 0 then some (nI 0, w3 c d1 d2 d3) else D_C_isWellBranched_43 f 5 (some (40 + 3 * r)) l2 kk k (nI (i + 1)) (w3 c d1 d2 d3) := by
        rw [D_C_isWellBranched_43, b_oc (hw0.fix.hRec r hr), em, if_neg (nI_ge (by omega) (by omega)), b_oc hw0.fix.h5, hw0.fix.f113, b_oa hw0.fix.h7 (by omega) (by decide), b_oj, w3_7, if_neg q1, u1, b_ob, nI_add]
      rw [ev]
      cases hg : (cg s r A i).1 with
      | false =>
        simp only [b01_f, b_00, if_true, Bool.false_eq_true, if_false]
        exact ⟨d1, d2, d3, u2, Or.inr ⟨trivial, rfl⟩⟩
      | true =>
        simp only [b01_t, b_10, if_true, if_false]
        exact ih (i + 1) k d1 d2 d3 _ (by omega) (by omega) u2
theorem brnd_C (h : CRep K c s) (hI : Iv K W bd s) {r : Nat} (hr : r < 4) (hS : SR s r) (hf : 2 ^ 31 ≤ f) {kk : cx_S → Option (Int32 × cx_S)} : ∀ d i k g1 g2 g3 A, i + d = nt (s 7 r) → d < k → CA g1 g2 g3 A →
    ∃ e1 e2 e3, CA e1 e2 e3 (aRnds (cg s r) (nt (s 7 r)) d A).2 ∧ (((aRnds (cg s r) (nt (s 7 r)) d A).1 = true ∧ D_C_isWellBranched_33 f 5 (some (40 + 3 * r)) kk k (nI i) (w3 c g1 g2 g3) = kk (w3 c e1 e2 e3)) ∨ ((aRnds (cg s r) (nt (s 7 r)) d A).1 = false ∧ D_C_isWellBranched_33 f 5 (some (40 + 3 * r)) kk k (nI i) (w3 c g1 g2 g3) = some (nI 0, w3 c e1 e2 e3))) := by
  have m7 := hI.i7 r hr
  have ml := m7.lt
  have hw : ∀ (g1 g2 g3 : Nat → Int32), CRep K (w3 c g1 g2 g3) s := fun _ _ _ => CRep_w3 h
  have em : ∀ (g1 g2 g3 : Nat → Int32), cI (w3 c g1 g2 g3) 97 (40 + 3 * r) 0 = nI (nt (s 7 r)) := fun g1 g2 g3 => by rw [(hw g1 g2 g3).rm r hr]; exact m7.eq
  intro d
  induction d with
  | zero =>
    intro i k g1 g2 g3 A hi hk hA
    obtain ⟨k, rfl⟩ : ∃ k', k = k' + 1 := ⟨k - 1, by omega⟩
    refine ⟨g1, g2, g3, hA, Or.inl ⟨rfl, ?_⟩⟩
    rw [D_C_isWellBranched_33, b_oc ((hw g1 g2 g3).fix.hRec r hr), em, if_pos (by rw [show i = nt (s 7 r) by omega]; exact Int32.le_refl _)]
  | succ d ih =>
    intro i k g1 g2 g3 A hi hk hA
    obtain ⟨k, rfl⟩ : ∃ k', k = k' + 1 := ⟨k - 1, by omega⟩
    obtain ⟨d1, d2, d3, u1, u2⟩ := brow_C (f := f) (l2 := nI i) (kk := fun s22 => D_C_isWellBranched_33 f 5 (some (40 + 3 * r)) kk k (nI i + nI 1) s22) h hI hr hS (nt (s 7 r)) 0 f g1 g2 g3 A (by omega) (by omega) hA
    have ev : D_C_isWellBranched_33 f 5 (some (40 + 3 * r)) kk (k + 1) (nI i) (w3 c g1 g2 g3) = D_C_isWellBranched_43 f 5 (some (40 + 3 * r)) (nI i) (fun s22 => D_C_isWellBranched_33 f 5 (some (40 + 3 * r)) kk k (nI i + nI 1) s22) f (nI 0) (w3 c g1 g2 g3) := by
      rw [D_C_isWellBranched_33, b_oc ((hw g1 g2 g3).fix.hRec r hr), em, if_neg (nI_ge (by omega) (by omega))]
    rw [aRnds, ev]
    rcases u2 with ⟨u2, u3⟩ | ⟨u2, u3⟩
    · rw [if_pos u2, u3, nI_add]
      exact ih (i + 1) k d1 d2 d3 _ (by omega) (by omega) u1
    · rw [if_neg (by rw [u2]; decide), u3]
      exact ⟨d1, d2, d3, u1, Or.inr ⟨rfl, rfl⟩⟩
theorem ends_C (h : CRep K c s) (hI : Iv K W bd s) {r i : Nat} (hr : r < 4) (hi : i < nt (s 7 r)) {g1 g2 g3 : Nat → Int32} {A : A3} (hA : CA g1 g2 g3 A) : ∃ y, D_C_endsWell f 5 (s 9 (12 * r + i)) (nI i) (w3 c g1 g2 g3) = some (y, w3 c g1 g2 g3) ∧ TF y (cEnds (zk s r) A i) := by
  have m7 := hI.i7 r hr
  have ml := m7.lt
  have hw0 : CRep K (w3 c g1 g2 g3) s := CRep_w3 h
  have k10 := hI.i9 r hr i hi
  have ke := k10.eq
  have kl := k10.lt
  have a1 := hA.1 i (by omega)
  have a2 := hA.2.1 i (by omega)
  have a3 := hA.2.2 (2 * i + 1) (by omega)
  have a4 := hA.2.2 (2 * i + 2) (by omega)
  have e1 : (g1 i = 0) = (A.1 i = 1) := by rw [a1.1]; exact ec_nI (b := 0) (by omega) (by omega)
  have e2 : (g2 i = -1) = (A.2.1 i = 0) := by rw [a2.1]; exact ec_m1 (by omega)
  have e3 : (g3 (2 * i + 1) = -1) = (A.2.2 (2 * i + 1) = 0) := by rw [a3.1]; exact ec_m1 (by omega)
  have e4 : (g3 (2 * i + 1) = g3 (2 * i + 2)) = (A.2.2 (2 * i + 1) = A.2.2 (2 * i + 2)) := by
    rw [a3.1, a4.1]
    by_cases q : A.2.2 (2 * i + 2) = 0
    · rw [q]; exact ec_m1 (by omega)
    · have z := ec_nI (v := A.2.2 (2 * i + 1)) (b := A.2.2 (2 * i + 2) - 1) (by omega) (by omega)
      rw [show A.2.2 (2 * i + 2) - 1 + 1 = A.2.2 (2 * i + 2) by omega] at z
      rw [← z]
      unfold ec
      rw [if_neg q]
  unfold D_C_endsWell cEnds
  simp only [b_oc hw0.fix.h5, hw0.fix.f113, hw0.fix.f114, hw0.fix.f115, pk_mul, nI_add, b_oa hw0.fix.h7 (show i < 12 by omega) (show 12 < 2 ^ 31 by decide), b_oa hw0.fix.h8 (show i < 12 by omega) (show 12 < 2 ^ 31 by decide), b_oa hw0.fix.h9 (show 2 * i + 1 < 25 by omega) (show 25 < 2 ^ 31 by decide), b_oa hw0.fix.h9 (show 2 * i + 2 < 25 by omega) (show 25 < 2 ^ 31 by decide), w3_7, w3_8, w3_9, e1, e2, e3, e4, b_oj]
  have kk : zk s r i = nt (s 9 (12 * r + i)) := rfl
  rw [kk, ke]
  generalize nt (s 9 (12 * r + i)) = k at *
  rw [nt_nI (by omega)]
  have : k = 0 ∨ k = 1 ∨ k = 2 ∨ k = 3 ∨ k = 4 ∨ k = 5 ∨ k = 6 ∨ k = 7 ∨ k = 8 ∨ k = 9 := by omega
  rcases this with rfl | rfl | rfl | rfl | rfl | rfl | rfl | rfl | rfl | rfl <;> simp (decide := true) only [if_true, if_false]
  all_goals first
    | exact ⟨_, rfl, TF.y (by simp)⟩
    | (by_cases q : A.2.2 (2 * i + 1) = 0 <;> by_cases q2 : A.2.2 (2 * i + 1) = A.2.2 (2 * i + 2) <;> simp (decide := true) only [q, if_true, if_false, ozb_0, ozb_1] <;> (try simp only [q2, if_true, if_false, ozb_0, ozb_1]) <;> first | exact ⟨_, rfl, TF.y (by simp [q, q2]; try omega)⟩ | exact ⟨_, rfl, TF.n (by simp [q, q2]; try omega)⟩)
    | (by_cases q : A.2.1 i = 0 <;> simp (decide := true) only [q, if_true, if_false, ozb_0, ozb_1] <;> first | exact ⟨_, rfl, TF.y (by simp [q])⟩ | exact ⟨_, rfl, TF.n (by simp [q])⟩)
    | (by_cases q : A.1 i = 1 <;> simp (decide := true) only [q, if_true, if_false, ozb_0, ozb_1] <;> first | exact ⟨_, rfl, TF.y (by simp [q])⟩ | exact ⟨_, rfl, TF.n (by simp [q])⟩)
    | skip
theorem endl_C (h : CRep K c s) (hI : Iv K W bd s) {r : Nat} (hr : r < 4) {g1 g2 g3 : Nat → Int32} {A : A3} (hA : CA g1 g2 g3 A) : ∀ d i k, i + d = nt (s 7 r) → d < k → (∀ j, j < i → cEnds (zk s r) A j) → ∃ y, D_C_isWellBranched_86 f 5 (some (40 + 3 * r)) k (nI i) (w3 c g1 g2 g3) = some (y, w3 c g1 g2 g3) ∧ TF y (∀ j, j < nt (s 7 r) → cEnds (zk s r) A j) := by
  have m7 := hI.i7 r hr
  have ml := m7.lt
  have hw0 : CRep K (w3 c g1 g2 g3) s := CRep_w3 h
  have em : cI (w3 c g1 g2 g3) 97 (40 + 3 * r) 0 = nI (nt (s 7 r)) := by rw [hw0.rm r hr]; exact m7.eq
  intro d
  induction d with
  | zero =>
    intro i k hi hk hs
    obtain ⟨k, rfl⟩ : ∃ k', k = k' + 1 := ⟨k - 1, by omega⟩
    refine ⟨nI 1, ?_, TF.y (fun j hj => hs j (by omega))⟩
    rw [D_C_isWellBranched_86, b_oc (hw0.fix.hRec r hr), em, if_pos (by rw [show i = nt (s 7 r) by omega]; exact Int32.le_refl _)]
  | succ d ih =>
    intro i k hi hk hs
    obtain ⟨k, rfl⟩ : ∃ k', k = k' + 1 := ⟨k - 1, by omega⟩
    have hin : i < nt (s 7 r) := by omega
    have hst := h.sh r hr i hin
    obtain ⟨y, e1, t1⟩ := ends_C (f := f) h hI hr hin hA
    have ev : D_C_isWellBranched_86 f 5 (some (40 + 3 * r)) (k + 1) (nI i) (w3 c g1 g2 g3) = if y = 0 then some (nI 0, w3 c g1 g2 g3) else D_C_isWellBranched_86 f 5 (some (40 + 3 * r)) k (nI (i + 1)) (w3 c g1 g2 g3) := by
      rw [D_C_isWellBranched_86, b_oc (hw0.fix.hRec r hr), em, if_neg (nI_ge hin (by omega)), hw0.fix.stp r hr, b_oa (hw0.fix.hStp r hr) (by omega) (by decide), show cR (w3 c g1 g2 g3) 407 (42 + 3 * r) i = some (kS K r i) from hst.1, b_oc (show cH (w3 c g1 g2 g3) (kS K r i) = some (8, 0) from hst.2), b_oc hw0.fix.h5, hw0.s0 r hr i hin, e1, b_ob, nI_add]
    rw [ev]
    rcases t1 with ⟨rfl, q⟩ | ⟨rfl, q⟩
    · rw [if_neg (by decide)]
      exact ih (i + 1) k (by omega) (by omega) (fun j hj => by
        by_cases e : j = i
        · rw [e]; exact q
        · exact hs j (by omega))
    · rw [if_pos (show nI 0 = 0 from rfl)]
      exact ⟨_, rfl, TF.n (fun z => q (z i hin))⟩
theorem wb_C (h : CRep K c s) (hI : Iv K W bd s) {r : Nat} (hr : r < 4) (hS : SR s r) (hf : 2 ^ 31 ≤ f) : ∃ y g1 g2 g3, D_C_isWellBranched f 5 (some (40 + 3 * r)) c = some (y, w3 c g1 g2 g3) ∧ TF y (cGood (nt (s 7 r)) (zk s r) (zn s r) (zo s r)) ∧ CA g1 g2 g3 (aRnds (cg s r) (nt (s 7 r)) (nt (s 7 r)) A0).2 := by
  have m7 := hI.i7 r hr
  have ml := m7.lt
  have id3 : ∀ c : cx_S, w3 c (cI c 400 7) (cI c 400 8) (cI c 400 9) = c := fun c => by
    refine Prod.ext ?_ rfl
    funext F q i
    show (if F = 400 ∧ q = 7 then cI c 400 7 i else if F = 400 ∧ q = 8 then cI c 400 8 i else if F = 400 ∧ q = 9 then cI c 400 9 i else cI c F q i) = cI c F q i
    split
    · next z => rw [z.1, z.2]
    split
    · next z => rw [z.1, z.2]
    split
    · next z => rw [z.1, z.2]
    rfl
  obtain ⟨a7, u1, u2⟩ := b_fill (f := f) (v := -1) h.fix.h7 (by decide) hf
  have h1 : CRep K (ws c 7 a7) s := CRep_ws h (by unfold Sc; omega)
  obtain ⟨a8, u3, u4⟩ := b_fill (f := f) (v := -1) h1.fix.h8 (by decide) hf
  have h2 : CRep K (ws (ws c 7 a7) 8 a8) s := CRep_ws h1 (by unfold Sc; omega)
  obtain ⟨a9, u5, u6⟩ := b_fill (f := f) (v := -1) h2.fix.h9 (by decide) hf
  have e3 : ws (ws (ws c 7 a7) 8 a8) 9 a9 = w3 c a7 a8 a9 := by
    refine Prod.ext ?_ rfl
    funext F q i
    show (if F = 400 ∧ q = 9 then a9 i else if F = 400 ∧ q = 8 then a8 i else if F = 400 ∧ q = 7 then a7 i else cI c F q i) = if F = 400 ∧ q = 7 then a7 i else if F = 400 ∧ q = 8 then a8 i else if F = 400 ∧ q = 9 then a9 i else cI c F q i
    by_cases q7 : F = 400 ∧ q = 7
    · rw [if_neg (by omega), if_neg (by omega), if_pos q7, if_pos q7]
    · by_cases q8 : F = 400 ∧ q = 8
      · rw [if_neg (by omega), if_pos q8, if_neg q7, if_pos q8]
      · rw [if_neg q8, if_neg q7, if_neg q7, if_neg q8]
  have hA : CA (upd a7 0 (nI 0)) a8 a9 A0 := ⟨Ec_up (x := fun _ => 0) (v := 1) (fun j hj => ⟨u2 j hj, Nat.zero_le _⟩) rfl (by omega), fun j hj => ⟨u4 j hj, Nat.zero_le _⟩, fun j hj => ⟨u6 j hj, Nat.zero_le _⟩⟩
  have h3 : CRep K (w3 c a7 a8 a9) s := CRep_w3 h
  obtain ⟨g1, g2, g3, v1, v2⟩ := brnd_C (f := f) (kk := fun s23 => D_C_isWellBranched_86 f 5 (some (40 + 3 * r)) f (nI 0) s23) h hI hr hS hf (nt (s 7 r)) 0 f (upd a7 0 (nI 0)) a8 a9 A0 (by omega) (by omega) hA
  have ev : D_C_isWellBranched f 5 (some (40 + 3 * r)) c = D_C_isWellBranched_33 f 5 (some (40 + 3 * r)) (fun s23 => D_C_isWellBranched_86 f 5 (some (40 + 3 * r)) f (nI 0) s23) f (nI 0) (w3 c (upd a7 0 (nI 0)) a8 a9) := by
    unfold D_C_isWellBranched
    rw [b_oc h.fix.h5, h.fix.f113, u1, b_ob, b_oc h1.fix.h5, h1.fix.f114, u3, b_ob, b_oc h2.fix.h5, h2.fix.f115, u5, b_ob, e3, b_oc h3.fix.h5, h3.fix.f113, b_oa h3.fix.h7 (by decide) (by decide), w3_u7]
  rw [ev]
  unfold cGood
  rcases v2 with ⟨v2, v3⟩ | ⟨v2, v3⟩
  · obtain ⟨y, w1, w2⟩ := endl_C (f := f) h hI hr v1 (nt (s 7 r)) 0 f (by omega) (by omega) (fun j hj => by omega)
    refine ⟨y, g1, g2, g3, ?_, w2.iff ⟨fun z => ⟨v2, z⟩, fun z => z.2⟩, v1⟩
    rw [v3]; exact w1
  · refine ⟨nI 0, g1, g2, g3, v3, TF.n (fun z => ?_), v1⟩
    rw [v2] at z; exact absurd z.1 (by decide)
end BRC
