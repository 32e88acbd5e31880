/-! release: branches, the class -/
section BRC
variable {f : Nat} {K : kx} {W : Nat → Nat → Nat} {bd : Nat} {c : cx_S} {s : rx_S}
/-- none, or a number -/
def ec (v : Nat) : Int32 := if v = 0 then -1 else nI (v - 1)
theorem nI_m1 {n : Nat} (h : n < 2 ^ 31) : ¬ nI n = (-1 : Int32) := fun z => by
  have := nI_pos h
  rw [z] at this; exact absurd (by decide) this
theorem ec_m1 {v : Nat} (h : v ≤ 100) : (ec v = -1) = (v = 0) := by
  unfold ec
  apply propext
  by_cases q : v = 0
  · rw [if_pos q]; exact ⟨fun _ => q, fun _ => rfl⟩
  · rw [if_neg q]
    exact ⟨fun z => absurd z (nI_m1 (by omega)), fun z => absurd z q⟩
theorem ec_nI {v b : Nat} (h : v ≤ 100) (hb : b ≤ 100) : (ec v = nI b) = (v = b + 1) := by
  unfold ec
  apply propext
  by_cases q : v = 0
  · rw [if_pos q]
    exact ⟨fun z => absurd z.symm (nI_m1 (by omega)), fun z => by omega⟩
  · rw [if_neg q, nI_eq (by omega) (by omega)]
    omega
theorem ec_s {b : Nat} : ec (b + 1) = nI b := rfl
theorem ec_0 : ec 0 = -1 := rfl
def Ec (n m : Nat) (g : Nat → Int32) (x : Nat → Nat) : Prop := ∀ j, j < n → g j = ec (x j) ∧ x j ≤ m
theorem Ec_up {n m : Nat} {g : Nat → Int32} {x : Nat → Nat} {j v : Nat} {y : Int32} (h : Ec n m g x) (hy : y = ec v) (hv : v ≤ m) : Ec n m (upd g j y) (up x j v) := fun k hk => by
  by_cases e : k = j
  · rw [e, upd_s, up_eq]; exact ⟨hy, hv⟩
  · rw [upd_o e, up_ne e]; exact h k hk
/-- the class with three rows of its own -/
def w3 (c : cx_S) (g1 g2 g3 : Nat → Int32) : cx_S := (fun F q j => if F = 400 ∧ q = 7 then g1 j else if F = 400 ∧ q = 8 then g2 j else if F = 400 ∧ q = 9 then g3 j else cI c F q j, c.2)
section W3
variable {g1 g2 g3 : Nat → Int32}
theorem w3_7 {j : Nat} : cI (w3 c g1 g2 g3) 400 7 j = g1 j := by
  show (if 400 = 400 ∧ 7 = 7 then g1 j else if 400 = 400 ∧ 7 = 8 then g2 j else if 400 = 400 ∧ 7 = 9 then g3 j else cI c 400 7 j) = g1 j
  simp
theorem w3_8 {j : Nat} : cI (w3 c g1 g2 g3) 400 8 j = g2 j := by
  show (if 400 = 400 ∧ 8 = 7 then g1 j else if 400 = 400 ∧ 8 = 8 then g2 j else if 400 = 400 ∧ 8 = 9 then g3 j else cI c 400 8 j) = g2 j
  simp
theorem w3_9 {j : Nat} : cI (w3 c g1 g2 g3) 400 9 j = g3 j := by
  show (if 400 = 400 ∧ 9 = 7 then g1 j else if 400 = 400 ∧ 9 = 8 then g2 j else if 400 = 400 ∧ 9 = 9 then g3 j else cI c 400 9 j) = g3 j
  simp
theorem w3_u7 {j : Nat} {v : Int32} : cx_ui (w3 c g1 g2 g3) 400 7 j v = w3 c (upd g1 j v) g2 g3 := by
  refine Prod.ext ?_ rfl
  funext F q i
  show (if F = 400 ∧ q = 7 ∧ i = j then v else if F = 400 ∧ q = 7 then g1 i else _) = if F = 400 ∧ q = 7 then upd g1 j v i else _
  unfold upd
  by_cases e : F = 400 ∧ q = 7
  · rw [if_pos e, if_pos e]
    by_cases e2 : i = j
    · rw [if_pos ⟨e.1, e.2, e2⟩, if_pos e2]
    · rw [if_neg (fun z => e2 z.2.2), if_neg e2]
  · rw [if_neg (fun z => e ⟨z.1, z.2.1⟩), if_neg e, if_neg e]
theorem w3_u8 {j : Nat} {v : Int32} : cx_ui (w3 c g1 g2 g3) 400 8 j v = w3 c g1 (upd g2 j v) g3 := by
  refine Prod.ext ?_ rfl
  funext F q i
  show (if F = 400 ∧ q = 8 ∧ i = j then v else if F = 400 ∧ q = 7 then g1 i else if F = 400 ∧ q = 8 then g2 i else _) = if F = 400 ∧ q = 7 then g1 i else if F = 400 ∧ q = 8 then upd g2 j v i else _
  unfold upd
  by_cases e : F = 400 ∧ q = 8
  · rw [if_neg (show ¬ (F = 400 ∧ q = 7) by omega), if_pos e, if_neg (show ¬ (F = 400 ∧ q = 7) by omega), if_pos e]
    by_cases e2 : i = j
    · rw [if_pos ⟨e.1, e.2, e2⟩, if_pos e2]
    · rw [if_neg (fun z => e2 z.2.2), if_neg e2]
  · rw [if_neg (fun z => e ⟨z.1, z.2.1⟩), if_neg e, if_neg e]
theorem w3_u9 {j : Nat} {v : Int32} : cx_ui (w3 c g1 g2 g3) 400 9 j v = w3 c g1 g2 (upd g3 j v) := by
  refine Prod.ext ?_ rfl
  funext F q i
  show (if F = 400 ∧ q = 9 ∧ i = j then v else if F = 400 ∧ q = 7 then g1 i else if F = 400 ∧ q = 8 then g2 i else if F = 400 ∧ q = 9 then g3 i else _) = if F = 400 ∧ q = 7 then g1 i else if F = 400 ∧ q = 8 then g2 i else if F = 400 ∧ q = 9 then upd g3 j v i else _
  unfold upd
  by_cases e : F = 400 ∧ q = 9
  · rw [if_neg (show ¬ (F = 400 ∧ q = 7) by omega), if_neg (show ¬ (F = 400 ∧ q = 8) by omega), if_pos e, if_neg (show ¬ (F = 400 ∧ q = 7) by omega), if_neg (show ¬ (F = 400 ∧ q = 8) by omega), if_pos e]
    by_cases e2 : i = j
    · rw [if_pos ⟨e.1, e.2, e2⟩, if_pos e2]
    · rw [if_neg (fun z => e2 z.2.2), if_neg e2]
  · rw [if_neg (fun z => e ⟨z.1, z.2.1⟩), if_neg e, if_neg e]
theorem CRep_w3 (h : CRep K c s) : CRep K (w3 c g1 g2 g3) s :=
  CRep_ext h (fun F q _ z => by
    funext j
    show (if F = 400 ∧ q = 7 then g1 j else if F = 400 ∧ q = 8 then g2 j else if F = 400 ∧ q = 9 then g3 j else cI c F q j) = _
    unfold Sc at z
    rw [if_neg (by omega), if_neg (by omega), if_neg (by omega)]) (fun _ _ _ => rfl) (fun _ _ => rfl) (Nat.le_refl _)
end W3
def CA (g1 g2 g3 : Nat → Int32) (A : A3) : Prop := Ec 12 25 g1 A.1 ∧ Ec 12 12 g2 A.2.1 ∧ Ec 25 12 g3 A.2.2
def b01 (b : Bool) : Int32 := if b = true then nI 1 else nI 0
theorem b01_0 {b : Bool} : (b01 b = 0) = (b = false) := by cases b <;> simp [b01] <;> decide
theorem b01_o {β : Type} {b : Bool} {k : Option β} : ozb (b01 b) k = k := by cases b <;> simp only [b01, if_true, Bool.false_eq_true, if_false, ozb_0, ozb_1]
theorem b01_t : b01 true = nI 1 := rfl
theorem b01_f : b01 false = nI 0 := rfl
theorem join_C (h : CRep K c s) {t b : Nat} (t12 : t < 12) (hb : b ≤ 24) {g1 g2 g3 : Nat → Int32} {A : A3} (hA : CA g1 g2 g3 A) :
    ∃ e1 e2 e3, D_C_joinBranch f 5 (nI t) (nI b) (w3 c g1 g2 g3) = some (b01 (cJoin A t b).1, w3 c e1 e2 e3) ∧ CA e1 e2 e3 (cJoin A t b).2 := by
  obtain ⟨a1, a2, a3⟩ := hA
  unfold D_C_joinBranch cJoin
  by_cases b0 : b = 0
  · subst b0
    simp only [b_00, if_true]
    exact ⟨g1, g2, g3, rfl, a1, a2, a3⟩
  have bn : ¬ nI b = 0 := nI_ne0 (by omega) (by omega)
  have f12 : (b - 1) / 2 < 12 := by omega
  have ef : (nI b - nI 1) / nI 2 = nI ((b - 1) / 2) := by rw [pk_sub (by omega), pk_div (by omega) (by decide) (by decide)]
  have o2 : ∀ {β : Type} {k : Option β}, od (nI 2) k = k := fun {β k} => if_neg (by decide)
  have hj := a1 t t12
  have hjf := a1 ((b - 1) / 2) f12
  have hb3 := a3 b (by omega)
  have hf2 := a2 t t12
  have o5 : ∀ (g1 g2 g3 : Nat → Int32) {β : Type} {k : Nat → Option β}, oc 7 (some 5) (w3 c g1 g2 g3) k = k 5 := fun _ _ _ => b_oc h.fix.h5
  have r3 : ∀ (g1 g2 g3 : Nat → Int32), cR (w3 c g1 g2 g3) 113 5 0 = some 7 := fun _ _ _ => h.fix.f113
  have r4 : ∀ (g1 g2 g3 : Nat → Int32), cR (w3 c g1 g2 g3) 114 5 0 = some 8 := fun _ _ _ => h.fix.f114
  have r5 : ∀ (g1 g2 g3 : Nat → Int32), cR (w3 c g1 g2 g3) 115 5 0 = some 9 := fun _ _ _ => h.fix.f115
  have x7 : ∀ (g1 g2 g3 : Nat → Int32) {β : Type} {k : Nat → Nat → Option β}, oa 400 (some 7) (nI t) (w3 c g1 g2 g3) k = k 7 t := fun _ _ _ => b_oa h.fix.h7 t12 (by decide)
  have x7f : ∀ (g1 g2 g3 : Nat → Int32) {β : Type} {k : Nat → Nat → Option β}, oa 400 (some 7) (nI ((b - 1) / 2)) (w3 c g1 g2 g3) k = k 7 ((b - 1) / 2) := fun _ _ _ => b_oa h.fix.h7 f12 (by decide)
  have x8 : ∀ (g1 g2 g3 : Nat → Int32) {β : Type} {k : Nat → Nat → Option β}, oa 400 (some 8) (nI t) (w3 c g1 g2 g3) k = k 8 t := fun _ _ _ => b_oa h.fix.h8 t12 (by decide)
  have x9 : ∀ (g1 g2 g3 : Nat → Int32) {β : Type} {k : Nat → Nat → Option β}, oa 400 (some 9) (nI b) (w3 c g1 g2 g3) k = k 9 b := fun _ _ _ => b_oa h.fix.h9 (by omega) (by decide)
  simp only [if_neg bn, if_neg b0, o2, ef, o5, r3, r5, x7, x7f, x9, cR_ui, r4, x8, b_oj, w3_7, w3_u7, w3_u8, w3_8, w3_9]
  by_cases q : A.1 t = 0
  · have q1 : g1 t = -1 := by rw [hj.1, q]; rfl
    simp only [if_pos q, if_pos q1]
    by_cases q2 : A.2.2 b = 0
    · have q3 : g3 b = -1 := by rw [hb3.1, q2]; rfl
      simp only [if_pos q2, if_pos q3, w3_u9, o5, r4, r5, x8, x9, w3_8, w3_9, upd_s, if_true, ozb_1, up_eq, and_self, decide_true]
      exact ⟨_, _, _, rfl, Ec_up a1 hjf.1 hjf.2, Ec_up a2 rfl (by omega), Ec_up a3 rfl (by omega)⟩
    · have q3 : ¬ g3 b = -1 := by rw [hb3.1, ec_m1 (by omega)]; exact q2
      simp only [if_neg q2, if_neg q3, o5, r4, r5, x8, x9, w3_8, w3_9, upd_s, if_true, up_eq, true_and]
      refine ⟨_, _, g3, ?_, Ec_up a1 hjf.1 hjf.2, Ec_up a2 rfl (by omega), a3⟩
      have e9 : (g3 b = nI t) = (A.2.2 b = t + 1) := by rw [hb3.1]; exact ec_nI (by omega) (by omega)
      simp only [e9]
      by_cases q4 : A.2.2 b = t + 1
      · simp only [if_true, ozb_1, q4, decide_true, b01_t, ec_s]
      · simp only [if_false, ozb_0, q4, decide_false, b01_f, ec_s]
  · have q1 : ¬ g1 t = -1 := by rw [hj.1, ec_m1 (by omega)]; exact q
    have e8 : (g2 t = nI ((b - 1) / 2)) = (A.2.1 t = (b - 1) / 2 + 1) := by rw [hf2.1]; exact ec_nI (by omega) (by omega)
    simp only [if_neg q, if_neg q1]
    by_cases q2 : A.2.2 b = 0
    · have q3 : g3 b = -1 := by rw [hb3.1, q2]; rfl
      simp only [if_pos q2, if_pos q3, w3_u9, o5, r4, r5, x8, x9, w3_8, w3_9, upd_s, if_true, up_eq, and_true, e8]
      refine ⟨g1, g2, _, ?_, a1, a2, Ec_up a3 rfl (by omega)⟩
      by_cases q4 : A.2.1 t = (b - 1) / 2 + 1
      · simp only [if_true, ozb_1, q4, decide_true, b01_t, ec_s]
      · simp only [if_false, ozb_0, q4, decide_false, b01_f, ec_s]
    · have q3 : ¬ g3 b = -1 := by rw [hb3.1, ec_m1 (by omega)]; exact q2
      have e9 : (g3 b = nI t) = (A.2.2 b = t + 1) := by rw [hb3.1]; exact ec_nI (by omega) (by omega)
      simp only [if_neg q2, if_neg q3, o5, r4, r5, x8, x9, w3_8, w3_9, e8, e9]
      refine ⟨g1, g2, g3, ?_, a1, a2, a3⟩
      by_cases q4 : A.2.1 t = (b - 1) / 2 + 1 <;> by_cases q5 : A.2.2 b = t + 1 <;> simp only [q4, q5, if_true, if_false, and_self, and_true, and_false, decide_true, decide_false, ozb_0, ozb_1, b01_t, b01_f]
theorem ent_C (h : CRep K c s) (hI : Iv K W bd s) {r t b : Nat} (hr : r < 4) (ht : t < nt (s 7 r)) (hb : b ≤ 24) {bg : Bool} {g1 g2 g3 : Nat → Int32} {A : A3} (hA : CA g1 g2 g3 A) :
    ∃ e1 e2 e3, D_C_enterBranch f 5 (some (40 + 3 * r)) (nI t) (nI b) (b01 bg) (w3 c g1 g2 g3) = some (b01 (cEnt (zk s r) A t b bg).1, w3 c e1 e2 e3) ∧ CA e1 e2 e3 (cEnt (zk s r) A t b bg).2 := by
  have m7 := hI.i7 r hr
  have ml := m7.lt
  have hw : ∀ {g1 g2 g3}, CRep K (w3 c g1 g2 g3) s := fun {g1 g2 g3} => CRep_w3 h
  have em : ∀ {g1 g2 g3}, cI (w3 c g1 g2 g3) 97 (40 + 3 * r) 0 = nI (nt (s 7 r)) := fun {g1 g2 g3} => by rw [(hw (g1 := g1) (g2 := g2) (g3 := g3)).rm r hr]; exact m7.eq
  have hst := h.sh r hr t ht
  have k10 := hI.i9 r hr t ht
  have hk : (s 9 (12 * r + t) = nI 6) ↔ zk s r t = 6 := by rw [k10.eq, nI_eq (by have := k10.lt; omega) (by decide)]
  have hw0 := hw (g1 := g1) (g2 := g2) (g3 := g3)
  obtain ⟨a1, a2, a3⟩ := hA
  have t12 : t < 12 := by omega
  unfold D_C_enterBranch
  simp only [b_oc (hw0.fix.hRec r hr), em, b_below_t ht (show nt (s 7 r) < 2 ^ 31 by omega), b_ob, b_10, if_false, hw0.fix.stp r hr, b_oa (hw0.fix.hStp r hr) t12 (show 12 < 2 ^ 31 by decide), (show cR (w3 c g1 g2 g3) 407 (42 + 3 * r) t = some (kS K r t) from hst.1), b_oc (show cH (w3 c g1 g2 g3) (kS K r t) = some (8, 0) from hst.2), hw0.s0 r hr t ht, b_oc hw0.fix.h5, hw0.fix.f113, b_oa hw0.fix.h7 t12 (show 12 < 2 ^ 31 by decide), w3_7, b_oj]
  unfold cEnt
  by_cases k6 : zk s r t = 6
  · rw [if_pos (hk.mpr k6), if_pos k6]
    cases bg with
    | true =>
      rw [if_neg (by simp [b01]; decide), ozb_0]
      exact ⟨g1, g2, g3, rfl, a1, a2, a3⟩
    | false =>
      obtain ⟨e1, e2, e3, w1, w2⟩ := join_C (f := f) h t12 hb ⟨a1, a2, a3⟩
      rw [if_pos (show b01 false = 0 from rfl), w1, b_ob]
      simp only [Bool.false_eq_true, if_false]
      refine ⟨e1, e2, e3, ?_, w2⟩
      cases (cJoin A t b).1 with
      | true => simp only [b01_t, b_10, if_false, ozb_1]
      | false => simp only [b01_f, b_00, if_true, ozb_0]
  · rw [if_neg (fun z => k6 (hk.mp z)), if_neg k6]
    have hj := a1 t t12
    by_cases q : A.1 t = 0
    · have q1 : g1 t = -1 := by rw [hj.1, q]; rfl
      have hw2 := hw (g1 := upd g1 t (nI b)) (g2 := g2) (g3 := g3)
      simp only [if_pos q, if_pos q1, w3_u7, b_oc hw2.fix.h5, hw2.fix.f113, b_oa hw2.fix.h7 t12 (show 12 < 2 ^ 31 by decide), w3_7, upd_s, if_true, ozb_1, up_eq]
      refine ⟨upd g1 t (nI b), g2, g3, by simp [b01], Ec_up a1 rfl (by omega), a2, a3⟩
    · have q1 : ¬ g1 t = -1 := by rw [hj.1, ec_m1 (by omega)]; exact q
      simp only [if_neg q, if_neg q1, b_oc hw0.fix.h5, hw0.fix.f113, b_oa hw0.fix.h7 t12 (show 12 < 2 ^ 31 by decide), w3_7]
      refine ⟨g1, g2, g3, ?_, a1, a2, a3⟩
      have e7 : (g1 t = nI b) = (A.1 t = b + 1) := by rw [hj.1]; exact ec_nI (by omega) (by omega)
      simp only [e7]
      by_cases q2 : A.1 t = b + 1
      · simp only [ozb_1, q2, decide_true, b01_t, if_true]
      · simp only [ozb_0, q2, decide_false, b01_f, if_false]
end BRC
