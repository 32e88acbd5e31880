/-! how the class stands for the reference's state s. K: the places of steps, batches, tokens, lots, their parts and amounts; the line. -/
def fixR : List (Nat × Nat × Nat × Nat) := [(0, 2, 0, 3), (1, 2, 0, 4), (3, 2, 0, 5), (4, 2, 0, 12), (5, 2, 0, 13), (6, 2, 0, 14), (403, 3, 0, 40), (403, 3, 1, 43), (403, 3, 2, 46), (403, 3, 3, 49), (112, 5, 0, 6), (113, 5, 0, 7), (114, 5, 0, 8), (115, 5, 0, 9), (116, 5, 0, 10), (117, 5, 0, 11), (32, 12, 0, 13), (33, 12, 0, 14), (34, 12, 0, 17), (35, 12, 0, 20), (37, 12, 0, 21), (405, 13, 0, 22), (405, 13, 1, 25), (405, 13, 2, 28), (405, 13, 3, 31), (405, 13, 4, 34), (405, 13, 5, 37), (65, 14, 0, 15), (66, 14, 0, 16), (80, 17, 0, 18), (81, 17, 0, 19), (163, 22, 0, 23), (164, 22, 0, 24), (163, 25, 0, 26), (164, 25, 0, 27), (163, 28, 0, 29), (164, 28, 0, 30), (163, 31, 0, 32), (164, 31, 0, 33), (163, 34, 0, 35), (164, 34, 0, 36), (163, 37, 0, 38), (164, 37, 0, 39), (98, 40, 0, 41), (99, 40, 0, 42), (98, 43, 0, 44), (99, 43, 0, 45), (98, 46, 0, 47), (99, 46, 0, 48), (98, 49, 0, 50), (99, 49, 0, 51)]
def fixH : List (Nat × Nat × Nat) := [(0, 400, 0), (2, 0, 0), (3, 403, 4), (4, 404, 16), (5, 7, 0), (6, 400, 12), (7, 400, 12), (8, 400, 12), (9, 400, 25), (10, 400, 12), (11, 400, 25), (12, 2, 0), (13, 405, 6), (14, 4, 0), (15, 406, 100), (16, 400, 100), (17, 5, 0), (18, 400, 100), (19, 400, 100), (20, 404, 16), (21, 400, 3), (22, 10, 0), (23, 400, 100), (24, 400, 100), (25, 10, 0), (26, 400, 100), (27, 400, 100), (28, 10, 0), (29, 400, 100), (30, 400, 100), (31, 10, 0), (32, 400, 100), (33, 400, 100), (34, 10, 0), (35, 400, 100), (36, 400, 100), (37, 10, 0), (38, 400, 100), (39, 400, 100), (40, 6, 0), (41, 400, 3), (42, 407, 12), (43, 6, 0), (44, 400, 3), (45, 407, 12), (46, 6, 0), (47, 400, 3), (48, 407, 12), (49, 6, 0), (50, 400, 3), (51, 407, 12)]
def CFix (c : cx_S) : Prop := (∀ q ∈ fixR, cR c q.1 q.2.1 q.2.2.1 = some q.2.2.2) ∧ (∀ q ∈ fixH, cH c q.1 = some q.2) ∧ 96 ≤ cN c
theorem CFix_ui {c : cx_S} {F p j : Nat} {x : Int32} (h : CFix c) : CFix (cx_ui c F p j x) := h
theorem CFix_ur {c : cx_S} {F p j : Nat} {x : Option Nat} (hF : ∀ q ∈ fixR, ¬ (q.1 = F ∧ q.2.1 = p)) (h : CFix c) : CFix (cx_ur c F p j x) := by
  refine ⟨fun q hq => ?_, h.2⟩
  rw [cR_ur, if_neg (fun w => hF q hq ⟨w.1, w.2.1⟩)]
  exact h.1 q hq
theorem fix_lt : (∀ q ∈ fixR, q.2.1 < 96) ∧ (∀ q ∈ fixH, q.1 < 96) := by decide +kernel
theorem CFix_mk {c : cx_S} {k : Nat × Nat} {z : Nat} (h : CFix c) : CFix (cx_mk c k z) := by
  obtain ⟨h1, h2, h3⟩ := h
  refine ⟨fun q hq => ?_, fun q hq => ?_, by rw [cN_mk]; omega⟩
  · have := fix_lt.1 q hq
    rw [cR_mk, if_neg (by omega)]; exact h1 q hq
  · have := fix_lt.2 q hq
    rw [cH_mk, if_neg (by omega)]; exact h2 q hq
theorem CFix.recA {c : cx_S} (h : CFix c) (r : Nat) (hv : r < 4) : cR c 403 3 r = some (40 + 3 * r) := h.1 (403, 3, r, (40 + 3 * r)) ((by decide : ∀ r < 4, (403, 3, r, (40 + 3 * r)) ∈ fixR) r hv)
theorem CFix.hRec {c : cx_S} (h : CFix c) (r : Nat) (hv : r < 4) : cH c (40 + 3 * r) = some (6, 0) := h.2.1 ((40 + 3 * r), 6, 0) ((by decide : ∀ r < 4, ((40 + 3 * r), 6, 0) ∈ fixH) r hv)
theorem CFix.grp {c : cx_S} (h : CFix c) (r : Nat) (hv : r < 4) : cR c 98 (40 + 3 * r) 0 = some (41 + 3 * r) := h.1 (98, (40 + 3 * r), 0, (41 + 3 * r)) ((by decide : ∀ r < 4, (98, (40 + 3 * r), 0, (41 + 3 * r)) ∈ fixR) r hv)
theorem CFix.hGrp {c : cx_S} (h : CFix c) (r : Nat) (hv : r < 4) : cH c (41 + 3 * r) = some (400, 3) := h.2.1 ((41 + 3 * r), 400, 3) ((by decide : ∀ r < 4, ((41 + 3 * r), 400, 3) ∈ fixH) r hv)
theorem CFix.stp {c : cx_S} (h : CFix c) (r : Nat) (hv : r < 4) : cR c 99 (40 + 3 * r) 0 = some (42 + 3 * r) := h.1 (99, (40 + 3 * r), 0, (42 + 3 * r)) ((by decide : ∀ r < 4, (99, (40 + 3 * r), 0, (42 + 3 * r)) ∈ fixR) r hv)
theorem CFix.hStp {c : cx_S} (h : CFix c) (r : Nat) (hv : r < 4) : cH c (42 + 3 * r) = some (407, 12) := h.2.1 ((42 + 3 * r), 407, 12) ((by decide : ∀ r < 4, ((42 + 3 * r), 407, 12) ∈ fixH) r hv)
theorem CFix.unA {c : cx_S} (h : CFix c) (u : Nat) (hv : u < 6) : cR c 405 13 u = some (22 + 3 * u) := h.1 (405, 13, u, (22 + 3 * u)) ((by decide : ∀ u < 6, (405, 13, u, (22 + 3 * u)) ∈ fixR) u hv)
theorem CFix.hUn {c : cx_S} (h : CFix c) (u : Nat) (hv : u < 6) : cH c (22 + 3 * u) = some (10, 0) := h.2.1 ((22 + 3 * u), 10, 0) ((by decide : ∀ u < 6, ((22 + 3 * u), 10, 0) ∈ fixH) u hv)
theorem CFix.lots {c : cx_S} (h : CFix c) (u : Nat) (hv : u < 6) : cR c 163 (22 + 3 * u) 0 = some (23 + 3 * u) := h.1 (163, (22 + 3 * u), 0, (23 + 3 * u)) ((by decide : ∀ u < 6, (163, (22 + 3 * u), 0, (23 + 3 * u)) ∈ fixR) u hv)
theorem CFix.hLots {c : cx_S} (h : CFix c) (u : Nat) (hv : u < 6) : cH c (23 + 3 * u) = some (400, 100) := h.2.1 ((23 + 3 * u), 400, 100) ((by decide : ∀ u < 6, ((23 + 3 * u), 400, 100) ∈ fixH) u hv)
theorem CFix.amts {c : cx_S} (h : CFix c) (u : Nat) (hv : u < 6) : cR c 164 (22 + 3 * u) 0 = some (24 + 3 * u) := h.1 (164, (22 + 3 * u), 0, (24 + 3 * u)) ((by decide : ∀ u < 6, (164, (22 + 3 * u), 0, (24 + 3 * u)) ∈ fixR) u hv)
theorem CFix.hAmts {c : cx_S} (h : CFix c) (u : Nat) (hv : u < 6) : cH c (24 + 3 * u) = some (400, 100) := h.2.1 ((24 + 3 * u), 400, 100) ((by decide : ∀ u < 6, ((24 + 3 * u), 400, 100) ∈ fixH) u hv)
theorem CFix.f0 {c : cx_S} (h : CFix c) : cR c 0 2 0 = some 3 := h.1 (0, 2, 0, 3) (by decide)
theorem CFix.f1 {c : cx_S} (h : CFix c) : cR c 1 2 0 = some 4 := h.1 (1, 2, 0, 4) (by decide)
theorem CFix.f3 {c : cx_S} (h : CFix c) : cR c 3 2 0 = some 5 := h.1 (3, 2, 0, 5) (by decide)
theorem CFix.f4 {c : cx_S} (h : CFix c) : cR c 4 2 0 = some 12 := h.1 (4, 2, 0, 12) (by decide)
theorem CFix.f5 {c : cx_S} (h : CFix c) : cR c 5 2 0 = some 13 := h.1 (5, 2, 0, 13) (by decide)
theorem CFix.f6 {c : cx_S} (h : CFix c) : cR c 6 2 0 = some 14 := h.1 (6, 2, 0, 14) (by decide)
theorem CFix.f32 {c : cx_S} (h : CFix c) : cR c 32 12 0 = some 13 := h.1 (32, 12, 0, 13) (by decide)
theorem CFix.f33 {c : cx_S} (h : CFix c) : cR c 33 12 0 = some 14 := h.1 (33, 12, 0, 14) (by decide)
theorem CFix.f34 {c : cx_S} (h : CFix c) : cR c 34 12 0 = some 17 := h.1 (34, 12, 0, 17) (by decide)
theorem CFix.f35 {c : cx_S} (h : CFix c) : cR c 35 12 0 = some 20 := h.1 (35, 12, 0, 20) (by decide)
theorem CFix.f37 {c : cx_S} (h : CFix c) : cR c 37 12 0 = some 21 := h.1 (37, 12, 0, 21) (by decide)
theorem CFix.f65 {c : cx_S} (h : CFix c) : cR c 65 14 0 = some 15 := h.1 (65, 14, 0, 15) (by decide)
theorem CFix.f66 {c : cx_S} (h : CFix c) : cR c 66 14 0 = some 16 := h.1 (66, 14, 0, 16) (by decide)
theorem CFix.f80 {c : cx_S} (h : CFix c) : cR c 80 17 0 = some 18 := h.1 (80, 17, 0, 18) (by decide)
theorem CFix.f81 {c : cx_S} (h : CFix c) : cR c 81 17 0 = some 19 := h.1 (81, 17, 0, 19) (by decide)
theorem CFix.f112 {c : cx_S} (h : CFix c) : cR c 112 5 0 = some 6 := h.1 (112, 5, 0, 6) (by decide)
theorem CFix.f113 {c : cx_S} (h : CFix c) : cR c 113 5 0 = some 7 := h.1 (113, 5, 0, 7) (by decide)
theorem CFix.f114 {c : cx_S} (h : CFix c) : cR c 114 5 0 = some 8 := h.1 (114, 5, 0, 8) (by decide)
theorem CFix.f115 {c : cx_S} (h : CFix c) : cR c 115 5 0 = some 9 := h.1 (115, 5, 0, 9) (by decide)
theorem CFix.f116 {c : cx_S} (h : CFix c) : cR c 116 5 0 = some 10 := h.1 (116, 5, 0, 10) (by decide)
theorem CFix.f117 {c : cx_S} (h : CFix c) : cR c 117 5 0 = some 11 := h.1 (117, 5, 0, 11) (by decide)
theorem CFix.h0 {c : cx_S} (h : CFix c) : cH c 0 = some (400, 0) := h.2.1 (0, 400, 0) (by decide)
theorem CFix.h2 {c : cx_S} (h : CFix c) : cH c 2 = some (0, 0) := h.2.1 (2, 0, 0) (by decide)
theorem CFix.h3 {c : cx_S} (h : CFix c) : cH c 3 = some (403, 4) := h.2.1 (3, 403, 4) (by decide)
theorem CFix.h4 {c : cx_S} (h : CFix c) : cH c 4 = some (404, 16) := h.2.1 (4, 404, 16) (by decide)
theorem CFix.h5 {c : cx_S} (h : CFix c) : cH c 5 = some (7, 0) := h.2.1 (5, 7, 0) (by decide)
theorem CFix.h6 {c : cx_S} (h : CFix c) : cH c 6 = some (400, 12) := h.2.1 (6, 400, 12) (by decide)
theorem CFix.h7 {c : cx_S} (h : CFix c) : cH c 7 = some (400, 12) := h.2.1 (7, 400, 12) (by decide)
theorem CFix.h8 {c : cx_S} (h : CFix c) : cH c 8 = some (400, 12) := h.2.1 (8, 400, 12) (by decide)
theorem CFix.h9 {c : cx_S} (h : CFix c) : cH c 9 = some (400, 25) := h.2.1 (9, 400, 25) (by decide)
theorem CFix.h10 {c : cx_S} (h : CFix c) : cH c 10 = some (400, 12) := h.2.1 (10, 400, 12) (by decide)
theorem CFix.h11 {c : cx_S} (h : CFix c) : cH c 11 = some (400, 25) := h.2.1 (11, 400, 25) (by decide)
theorem CFix.h12 {c : cx_S} (h : CFix c) : cH c 12 = some (2, 0) := h.2.1 (12, 2, 0) (by decide)
theorem CFix.h13 {c : cx_S} (h : CFix c) : cH c 13 = some (405, 6) := h.2.1 (13, 405, 6) (by decide)
theorem CFix.h14 {c : cx_S} (h : CFix c) : cH c 14 = some (4, 0) := h.2.1 (14, 4, 0) (by decide)
theorem CFix.h15 {c : cx_S} (h : CFix c) : cH c 15 = some (406, 100) := h.2.1 (15, 406, 100) (by decide)
theorem CFix.h16 {c : cx_S} (h : CFix c) : cH c 16 = some (400, 100) := h.2.1 (16, 400, 100) (by decide)
theorem CFix.h17 {c : cx_S} (h : CFix c) : cH c 17 = some (5, 0) := h.2.1 (17, 5, 0) (by decide)
theorem CFix.h18 {c : cx_S} (h : CFix c) : cH c 18 = some (400, 100) := h.2.1 (18, 400, 100) (by decide)
theorem CFix.h19 {c : cx_S} (h : CFix c) : cH c 19 = some (400, 100) := h.2.1 (19, 400, 100) (by decide)
theorem CFix.h20 {c : cx_S} (h : CFix c) : cH c 20 = some (404, 16) := h.2.1 (20, 404, 16) (by decide)
theorem CFix.h21 {c : cx_S} (h : CFix c) : cH c 21 = some (400, 3) := h.2.1 (21, 400, 3) (by decide)
theorem CFix.n {c : cx_S} (h : CFix c) : 96 ≤ cN c := h.2.2
/-! the reference's numbers -/
abbrev nt (x : Int32) : Nat := x.toNatClampNeg
theorem nt_nI {n : Nat} (h : n < 2 ^ 31) : nt (nI n) = n := nI_clamp h
def rg (x : Int32) (n : Nat) : Prop := x = nI (nt x) ∧ nt x < n
def rgm (x : Int32) (n : Nat) : Prop := x = -1 ∨ rg x n
theorem rg_of {j n : Nat} (h : j < n) (hn : n < 2 ^ 31) : rg (nI j) n := ⟨by rw [nt_nI (by omega)], by rw [nt_nI (by omega)]; exact h⟩
abbrev kx : Type := (Nat → Nat → Nat) × (Nat → Nat) × (Nat → Nat → Nat) × (Nat → Nat) × (Nat → Nat) × (Nat → Nat) × (Nat → Nat) × Nat
abbrev kS (K : kx) : Nat → Nat → Nat := K.1
abbrev kB (K : kx) : Nat → Nat := K.2.1
abbrev kT (K : kx) : Nat → Nat → Nat := K.2.2.1
abbrev kL (K : kx) : Nat → Nat := K.2.2.2.1
abbrev kP (K : kx) : Nat → Nat := K.2.2.2.2.1
abbrev kQ (K : kx) : Nat → Nat := K.2.2.2.2.2.1
abbrev kN (K : kx) : Nat → Nat := K.2.2.2.2.2.2.1
abbrev kM (K : kx) : Nat := K.2.2.2.2.2.2.2
