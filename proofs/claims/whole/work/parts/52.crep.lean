def U1 (a : Nat → Nat → Int32) (x : Nat → Int32) : Prop := ∀ u, u < 6 → a (22 + 3 * u) 0 = x u
def UQ (w : Nat) (a : Nat → Nat → Int32) (h x : Nat → Int32) : Prop := ∀ u, u < 6 → ∀ j, j < nt (h u) → a (w + 3 * u) j = x (100 * u + j)
def R1 (a : Nat → Nat → Int32) (x : Nat → Int32) : Prop := ∀ r, r < 4 → a (40 + 3 * r) 0 = x r
def RG (a : Nat → Nat → Int32) (x : Nat → Int32) : Prop := ∀ r, r < 4 → ∀ k, k < 3 → a (41 + 3 * r) k = x (3 * r + k)
def SH (K : kx) (R : Nat → Nat → Option Nat) (H : Nat → Option (Nat × Nat)) (m : Nat → Int32) : Prop := ∀ r, r < 4 → ∀ i, i < nt (m r) → R (42 + 3 * r) i = some (kS K r i) ∧ H (kS K r i) = some (8, 0)
def SV (K : kx) (a : Nat → Nat → Int32) (m x : Nat → Int32) : Prop := ∀ r, r < 4 → ∀ i, i < nt (m r) → a (kS K r i) 0 = x (12 * r + i)
def SG (K : kx) (n : Nat) (m : Nat → Int32) : Prop := (∀ r, r < 4 → ∀ i, i < nt (m r) → 96 ≤ kS K r i ∧ kS K r i < n) ∧ ∀ r, r < 4 → ∀ i, i < nt (m r) → ∀ r2, r2 < 4 → ∀ i2, i2 < nt (m r2) → kS K r i = kS K r2 i2 → r = r2 ∧ i = i2
def B1 (K : kx) (n : Nat) (a : Nat → Nat → Int32) (x : Nat → Int32) : Prop := ∀ t, t < n → a (kB K t) 0 = x t
def BQ (K : kx) (n w v : Nat) (a : Nat → Nat → Int32) (x : Nat → Int32) : Prop := ∀ t, t < n → ∀ j, j < v → a (kB K t + w) j = x (v * t + j)
def BH (K : kx) (n : Nat) (R : Nat → Nat → Nat → Option Nat) (H : Nat → Option (Nat × Nat)) (rc : Nat → Int32) : Prop := ∀ t, t < n → R 404 4 t = some (kB K t) ∧ H (kB K t) = some (1, 0) ∧ R 18 (kB K t) 0 = some (40 + 3 * nt (rc t)) ∧ R 22 (kB K t) 0 = some (kB K t + 1) ∧ R 23 (kB K t) 0 = some (kB K t + 2) ∧ R 24 (kB K t) 0 = some (kB K t + 3) ∧ R 25 (kB K t) 0 = some (kB K t + 4) ∧
  H (kB K t + 1) = some (408, 8) ∧ H (kB K t + 2) = some (400, 4) ∧ H (kB K t + 3) = some (400, 12) ∧ H (kB K t + 4) = some (400, 3)
def BG (K : kx) (n N : Nat) : Prop := (∀ t, t < n → 96 ≤ kB K t ∧ kB K t + 13 ≤ N) ∧ ∀ t, t < n → ∀ t2, t2 < n → t ≠ t2 → kB K t + 13 ≤ kB K t2 ∨ kB K t2 + 13 ≤ kB K t
def TH (K : kx) (n : Nat) (R : Nat → Nat → Option Nat) (H : Nat → Option (Nat × Nat)) : Prop := ∀ t, t < n → ∀ i, i < 8 → R (kB K t + 1) i = some (kT K t i) ∧ H (kT K t i) = some (9, 0)
def TG (K : kx) (n : Nat) : Prop := (∀ t, t < n → ∀ i, i < 8 → kB K t + 5 ≤ kT K t i ∧ kT K t i < kB K t + 13) ∧ ∀ t, t < n → ∀ i, i < 8 → ∀ i2, i2 < 8 → kT K t i = kT K t i2 → i = i2
def T8 (n : Nat) (m : Nat → Int32) : Prop := ∀ t, t < n → nt (m t) ≤ 8
def T1 (K : kx) (n : Nat) (m : Nat → Int32) (a : Nat → Nat → Int32) (x : Nat → Int32) : Prop := ∀ t, t < n → ∀ i, i < nt (m t) → a (kT K t i) 0 = x (8 * t + i)
/-- the kind of the step where token i of batch t stands -/
def ka (s : rx_S) (t i : Nat) : Int32 := s 9 (12 * nt (s 16 t) + nt (s 23 (8 * t + i)))
def TL (K : kx) (n : Nat) (a : Nat → Nat → Int32) (s : rx_S) : Prop := ∀ t, t < n → ∀ i, i < nt (s 19 t) → s 26 (8 * t + i) = nI 1 → a (kT K t i) 0 = if ka s t i = nI 4 then (if s 27 (8 * t + i) = nI 1 then nI 0 else nI 1) else s 24 (8 * t + i)
def TC (K : kx) (n : Nat) (a : Nat → Nat → Int32) (s : rx_S) : Prop := ∀ t, t < n → ∀ i, i < nt (s 19 t) → s 26 (8 * t + i) = nI 1 → ka s t i = nI 0 → a (kT K t i) 0 = s 25 (8 * t + i)
/-- how many parts lot l has -/
def pl (x : Nat → Int32) (l : Nat) : Nat := nt (x (l + 1)) - nt (x l)
/-- how often lot l is among the first n of x -/
def cn (x : Nat → Int32) (l : Nat) : Nat → Nat
  | 0 => 0
  | n + 1 => cn x l n + if x n = nI l then 1 else 0
def LH (K : kx) (n : Nat) (R : Nat → Nat → Nat → Option Nat) (H : Nat → Option (Nat × Nat)) (rf : Nat → Int32) : Prop := ∀ l, l < n → R 406 15 l = some (kL K l) ∧ H (kL K l) = some (3, 0) ∧ R 50 (kL K l) 0 = some (kP K l) ∧ R 51 (kL K l) 0 = some (kQ K l) ∧ H (kP K l) = some (400, pl rf l) ∧ H (kQ K l) = some (400, pl rf l)
def LG (K : kx) (n nb N : Nat) : Prop := (∀ l, l < n → 96 ≤ kL K l ∧ kL K l < N ∧ (kP K l = 0 ∨ 96 ≤ kP K l) ∧ kP K l < N ∧ (kQ K l = 0 ∨ 96 ≤ kQ K l) ∧ kQ K l < N) ∧ (∀ l, l < n → ∀ l2, l2 < n → kL K l = kL K l2 → l = l2) ∧
  ∀ l, l < n → ∀ t, t < nb → (kP K l < kB K t ∨ kB K t + 13 ≤ kP K l) ∧ (kQ K l < kB K t ∨ kB K t + 13 ≤ kQ K l)
def L1 (K : kx) (n : Nat) (a : Nat → Nat → Int32) (x : Nat → Int32) : Prop := ∀ l, l < n → a (kL K l) 0 = x l
def LU (K : kx) (n : Nat) (a : Nat → Nat → Int32) (x : Nat → Int32) (m : Nat) : Prop := ∀ l, l < n → a (kL K l) 0 = nI (cn x l m)
def LPt (p : Nat → Nat) (n : Nat) (a : Nat → Nat → Int32) (rf x : Nat → Int32) : Prop := ∀ l, l < n → ∀ j, j < pl rf l → a (p l) j = x (nt (rf l) + j)
def NL (K : kx) (R : Nat → Nat → Option Nat) : Prop := ∀ i, i < kM K → R 20 i = some (kB K (kN K i))
/-- the ones in the line that wait, in their order -/
def nw (K : kx) (st : Nat → Int32) : List Nat := ((List.range (kM K)).map (kN K)).filter (fun t => st t == nI 1)
def NW (K : kx) (st : Nat → Int32) (w : Int32) (ln : Nat → Int32) : Prop := w = nI (nw K st).length ∧ ∀ i, i < (nw K st).length → ln i = nI ((nw K st).getD i 0)
/-- the line: who was started, who of them waits -/
def Lin (K : kx) (n : Nat) (st : Nat → Int32) (w : Int32) (ln : Nat → Int32) : Prop := kM K ≤ 16 ∧ (∀ i, i < kM K → kN K i < n) ∧ (∀ i, i < kM K → ∀ j, j < kM K → kN K i = kN K j → i = j) ∧ (∀ t, t < n → (st t = nI 0 ↔ ∀ i, i < kM K → kN K i ≠ t)) ∧ NW K st w ln
def CRep (K : kx) (c : cx_S) (s : rx_S) : Prop := CFix c ∧ U1 (cI c 160) (s 1) ∧ U1 (cI c 161) (s 2) ∧ U1 (cI c 162) (s 3) ∧ UQ 23 (cI c 400) (s 3) (s 4) ∧ UQ 24 (cI c 400) (s 3) (s 5) ∧ R1 (cI c 96) (s 8) ∧ R1 (cI c 97) (s 7) ∧ RG (cI c 400) (s 6) ∧ SH K (cR c 407) (cH c) (s 7) ∧ SG K (cN c) (s 7) ∧ SV K (cI c 128) (s 7) (s 9) ∧ SV K (cI c 129) (s 7) (s 10) ∧ SV K (cI c 130) (s 7) (s 11) ∧ SV K (cI c 131) (s 7) (s 12) ∧ SV K (cI c 132) (s 7) (s 13) ∧ SV K (cI c 133) (s 7) (s 14) ∧ cI c 2 2 0 = s 15 0 ∧ BH K (nt (s 15 0)) (cR c) (cH c) (s 16) ∧ BG K (nt (s 15 0)) (cN c) ∧ B1 K (nt (s 15 0)) (cI c 16) nI ∧ B1 K (nt (s 15 0)) (cI c 17) (s 16) ∧ B1 K (nt (s 15 0)) (cI c 19) (s 17) ∧ B1 K (nt (s 15 0)) (cI c 20) (s 18) ∧ B1 K (nt (s 15 0)) (cI c 21) (s 19) ∧ BQ K (nt (s 15 0)) 2 4 (cI c 400) (s 20) ∧ BQ K (nt (s 15 0)) 3 12 (cI c 400) (s 21) ∧ BQ K (nt (s 15 0)) 4 3 (cI c 400) (s 22) ∧ TH K (nt (s 15 0)) (cR c 408) (cH c) ∧ TG K (nt (s 15 0)) ∧ T8 (nt (s 15 0)) (s 19) ∧ T1 K (nt (s 15 0)) (s 19) (cI c 144) (s 23) ∧ T1 K (nt (s 15 0)) (s 19) (cI c 145) (s 26) ∧ TL K (nt (s 15 0)) (cI c 146) s ∧ TC K (nt (s 15 0)) (cI c 147) s ∧ cI c 64 14 0 = s 31 0 ∧ LH K (nt (s 31 0)) (cR c) (cH c) (s 35) ∧ LG K (nt (s 31 0)) (nt (s 15 0)) (cN c) ∧ L1 K (nt (s 31 0)) (cI c 48) (s 33) ∧ L1 K (nt (s 31 0)) (cI c 49) (s 34) ∧ LU K (nt (s 31 0)) (cI c 52) (s 36) (nt (s 32 0)) ∧ LPt (kP K) (nt (s 31 0)) (cI c 400) (s 35) (s 36) ∧ LPt (kQ K) (nt (s 31 0)) (cI c 400) (s 35) (s 37) ∧ cI c 36 12 0 = nI (kM K) ∧ NL K (cR c 404)
theorem CRep.fix {K : kx} {c : cx_S} {s : rx_S} (h : CRep K c s) : CFix c := h.1
theorem CRep.ug {K : kx} {c : cx_S} {s : rx_S} (h : CRep K c s) : U1 (cI c 160) (s 1) := h.2.1
theorem CRep.uo {K : kx} {c : cx_S} {s : rx_S} (h : CRep K c s) : U1 (cI c 161) (s 2) := h.2.2.1
theorem CRep.uh {K : kx} {c : cx_S} {s : rx_S} (h : CRep K c s) : U1 (cI c 162) (s 3) := h.2.2.2.1
theorem CRep.ul {K : kx} {c : cx_S} {s : rx_S} (h : CRep K c s) : UQ 23 (cI c 400) (s 3) (s 4) := h.2.2.2.2.1
theorem CRep.ua {K : kx} {c : cx_S} {s : rx_S} (h : CRep K c s) : UQ 24 (cI c 400) (s 3) (s 5) := h.2.2.2.2.2.1
theorem CRep.rr {K : kx} {c : cx_S} {s : rx_S} (h : CRep K c s) : R1 (cI c 96) (s 8) := h.2.2.2.2.2.2.1
theorem CRep.rm {K : kx} {c : cx_S} {s : rx_S} (h : CRep K c s) : R1 (cI c 97) (s 7) := h.2.2.2.2.2.2.2.1
theorem CRep.rgr {K : kx} {c : cx_S} {s : rx_S} (h : CRep K c s) : RG (cI c 400) (s 6) := h.2.2.2.2.2.2.2.2.1
theorem CRep.sh {K : kx} {c : cx_S} {s : rx_S} (h : CRep K c s) : SH K (cR c 407) (cH c) (s 7) := h.2.2.2.2.2.2.2.2.2.1
theorem CRep.sg {K : kx} {c : cx_S} {s : rx_S} (h : CRep K c s) : SG K (cN c) (s 7) := h.2.2.2.2.2.2.2.2.2.2.1
theorem CRep.s0 {K : kx} {c : cx_S} {s : rx_S} (h : CRep K c s) : SV K (cI c 128) (s 7) (s 9) := h.2.2.2.2.2.2.2.2.2.2.2.1
theorem CRep.s1 {K : kx} {c : cx_S} {s : rx_S} (h : CRep K c s) : SV K (cI c 129) (s 7) (s 10) := h.2.2.2.2.2.2.2.2.2.2.2.2.1
theorem CRep.s2 {K : kx} {c : cx_S} {s : rx_S} (h : CRep K c s) : SV K (cI c 130) (s 7) (s 11) := h.2.2.2.2.2.2.2.2.2.2.2.2.2.1
theorem CRep.s3 {K : kx} {c : cx_S} {s : rx_S} (h : CRep K c s) : SV K (cI c 131) (s 7) (s 12) := h.2.2.2.2.2.2.2.2.2.2.2.2.2.2.1
theorem CRep.s4 {K : kx} {c : cx_S} {s : rx_S} (h : CRep K c s) : SV K (cI c 132) (s 7) (s 13) := h.2.2.2.2.2.2.2.2.2.2.2.2.2.2.2.1
theorem CRep.s5 {K : kx} {c : cx_S} {s : rx_S} (h : CRep K c s) : SV K (cI c 133) (s 7) (s 14) := h.2.2.2.2.2.2.2.2.2.2.2.2.2.2.2.2.1
theorem CRep.bn {K : kx} {c : cx_S} {s : rx_S} (h : CRep K c s) : cI c 2 2 0 = s 15 0 := h.2.2.2.2.2.2.2.2.2.2.2.2.2.2.2.2.2.1
theorem CRep.bh {K : kx} {c : cx_S} {s : rx_S} (h : CRep K c s) : BH K (nt (s 15 0)) (cR c) (cH c) (s 16) := h.2.2.2.2.2.2.2.2.2.2.2.2.2.2.2.2.2.2.1
theorem CRep.bg {K : kx} {c : cx_S} {s : rx_S} (h : CRep K c s) : BG K (nt (s 15 0)) (cN c) := h.2.2.2.2.2.2.2.2.2.2.2.2.2.2.2.2.2.2.2.1
theorem CRep.b0 {K : kx} {c : cx_S} {s : rx_S} (h : CRep K c s) : B1 K (nt (s 15 0)) (cI c 16) nI := h.2.2.2.2.2.2.2.2.2.2.2.2.2.2.2.2.2.2.2.2.1
theorem CRep.b1 {K : kx} {c : cx_S} {s : rx_S} (h : CRep K c s) : B1 K (nt (s 15 0)) (cI c 17) (s 16) := h.2.2.2.2.2.2.2.2.2.2.2.2.2.2.2.2.2.2.2.2.2.1
theorem CRep.b3 {K : kx} {c : cx_S} {s : rx_S} (h : CRep K c s) : B1 K (nt (s 15 0)) (cI c 19) (s 17) := h.2.2.2.2.2.2.2.2.2.2.2.2.2.2.2.2.2.2.2.2.2.2.1
theorem CRep.b4 {K : kx} {c : cx_S} {s : rx_S} (h : CRep K c s) : B1 K (nt (s 15 0)) (cI c 20) (s 18) := h.2.2.2.2.2.2.2.2.2.2.2.2.2.2.2.2.2.2.2.2.2.2.2.1
theorem CRep.b5 {K : kx} {c : cx_S} {s : rx_S} (h : CRep K c s) : B1 K (nt (s 15 0)) (cI c 21) (s 19) := h.2.2.2.2.2.2.2.2.2.2.2.2.2.2.2.2.2.2.2.2.2.2.2.2.1
theorem CRep.bv {K : kx} {c : cx_S} {s : rx_S} (h : CRep K c s) : BQ K (nt (s 15 0)) 2 4 (cI c 400) (s 20) := h.2.2.2.2.2.2.2.2.2.2.2.2.2.2.2.2.2.2.2.2.2.2.2.2.2.1
theorem CRep.br {K : kx} {c : cx_S} {s : rx_S} (h : CRep K c s) : BQ K (nt (s 15 0)) 3 12 (cI c 400) (s 21) := h.2.2.2.2.2.2.2.2.2.2.2.2.2.2.2.2.2.2.2.2.2.2.2.2.2.2.1
theorem CRep.bo {K : kx} {c : cx_S} {s : rx_S} (h : CRep K c s) : BQ K (nt (s 15 0)) 4 3 (cI c 400) (s 22) := h.2.2.2.2.2.2.2.2.2.2.2.2.2.2.2.2.2.2.2.2.2.2.2.2.2.2.2.1
theorem CRep.th {K : kx} {c : cx_S} {s : rx_S} (h : CRep K c s) : TH K (nt (s 15 0)) (cR c 408) (cH c) := h.2.2.2.2.2.2.2.2.2.2.2.2.2.2.2.2.2.2.2.2.2.2.2.2.2.2.2.2.1
theorem CRep.tg {K : kx} {c : cx_S} {s : rx_S} (h : CRep K c s) : TG K (nt (s 15 0)) := h.2.2.2.2.2.2.2.2.2.2.2.2.2.2.2.2.2.2.2.2.2.2.2.2.2.2.2.2.2.1
theorem CRep.t8 {K : kx} {c : cx_S} {s : rx_S} (h : CRep K c s) : T8 (nt (s 15 0)) (s 19) := h.2.2.2.2.2.2.2.2.2.2.2.2.2.2.2.2.2.2.2.2.2.2.2.2.2.2.2.2.2.2.1
theorem CRep.ta {K : kx} {c : cx_S} {s : rx_S} (h : CRep K c s) : T1 K (nt (s 15 0)) (s 19) (cI c 144) (s 23) := h.2.2.2.2.2.2.2.2.2.2.2.2.2.2.2.2.2.2.2.2.2.2.2.2.2.2.2.2.2.2.2.1
theorem CRep.tb {K : kx} {c : cx_S} {s : rx_S} (h : CRep K c s) : T1 K (nt (s 15 0)) (s 19) (cI c 145) (s 26) := h.2.2.2.2.2.2.2.2.2.2.2.2.2.2.2.2.2.2.2.2.2.2.2.2.2.2.2.2.2.2.2.2.1
theorem CRep.tl {K : kx} {c : cx_S} {s : rx_S} (h : CRep K c s) : TL K (nt (s 15 0)) (cI c 146) s := h.2.2.2.2.2.2.2.2.2.2.2.2.2.2.2.2.2.2.2.2.2.2.2.2.2.2.2.2.2.2.2.2.2.1
theorem CRep.tc {K : kx} {c : cx_S} {s : rx_S} (h : CRep K c s) : TC K (nt (s 15 0)) (cI c 147) s := h.2.2.2.2.2.2.2.2.2.2.2.2.2.2.2.2.2.2.2.2.2.2.2.2.2.2.2.2.2.2.2.2.2.2.1
theorem CRep.ln {K : kx} {c : cx_S} {s : rx_S} (h : CRep K c s) : cI c 64 14 0 = s 31 0 := h.2.2.2.2.2.2.2.2.2.2.2.2.2.2.2.2.2.2.2.2.2.2.2.2.2.2.2.2.2.2.2.2.2.2.2.1
theorem CRep.lh {K : kx} {c : cx_S} {s : rx_S} (h : CRep K c s) : LH K (nt (s 31 0)) (cR c) (cH c) (s 35) := h.2.2.2.2.2.2.2.2.2.2.2.2.2.2.2.2.2.2.2.2.2.2.2.2.2.2.2.2.2.2.2.2.2.2.2.2.1
theorem CRep.lg {K : kx} {c : cx_S} {s : rx_S} (h : CRep K c s) : LG K (nt (s 31 0)) (nt (s 15 0)) (cN c) := h.2.2.2.2.2.2.2.2.2.2.2.2.2.2.2.2.2.2.2.2.2.2.2.2.2.2.2.2.2.2.2.2.2.2.2.2.2.1
theorem CRep.lb {K : kx} {c : cx_S} {s : rx_S} (h : CRep K c s) : L1 K (nt (s 31 0)) (cI c 48) (s 33) := h.2.2.2.2.2.2.2.2.2.2.2.2.2.2.2.2.2.2.2.2.2.2.2.2.2.2.2.2.2.2.2.2.2.2.2.2.2.2.1
theorem CRep.lt {K : kx} {c : cx_S} {s : rx_S} (h : CRep K c s) : L1 K (nt (s 31 0)) (cI c 49) (s 34) := h.2.2.2.2.2.2.2.2.2.2.2.2.2.2.2.2.2.2.2.2.2.2.2.2.2.2.2.2.2.2.2.2.2.2.2.2.2.2.2.1
theorem CRep.lu {K : kx} {c : cx_S} {s : rx_S} (h : CRep K c s) : LU K (nt (s 31 0)) (cI c 52) (s 36) (nt (s 32 0)) := h.2.2.2.2.2.2.2.2.2.2.2.2.2.2.2.2.2.2.2.2.2.2.2.2.2.2.2.2.2.2.2.2.2.2.2.2.2.2.2.2.1
theorem CRep.lp {K : kx} {c : cx_S} {s : rx_S} (h : CRep K c s) : LPt (kP K) (nt (s 31 0)) (cI c 400) (s 35) (s 36) := h.2.2.2.2.2.2.2.2.2.2.2.2.2.2.2.2.2.2.2.2.2.2.2.2.2.2.2.2.2.2.2.2.2.2.2.2.2.2.2.2.2.1
theorem CRep.lq {K : kx} {c : cx_S} {s : rx_S} (h : CRep K c s) : LPt (kQ K) (nt (s 31 0)) (cI c 400) (s 35) (s 37) := h.2.2.2.2.2.2.2.2.2.2.2.2.2.2.2.2.2.2.2.2.2.2.2.2.2.2.2.2.2.2.2.2.2.2.2.2.2.2.2.2.2.2.1
theorem CRep.nn {K : kx} {c : cx_S} {s : rx_S} (h : CRep K c s) : cI c 36 12 0 = nI (kM K) := h.2.2.2.2.2.2.2.2.2.2.2.2.2.2.2.2.2.2.2.2.2.2.2.2.2.2.2.2.2.2.2.2.2.2.2.2.2.2.2.2.2.2.2.1
theorem CRep.nl {K : kx} {c : cx_S} {s : rx_S} (h : CRep K c s) : NL K (cR c 404) := h.2.2.2.2.2.2.2.2.2.2.2.2.2.2.2.2.2.2.2.2.2.2.2.2.2.2.2.2.2.2.2.2.2.2.2.2.2.2.2.2.2.2.2.2
