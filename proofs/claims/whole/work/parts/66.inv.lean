/-! what the reference's numbers keep -/
/-- step i of recipe r: kind, a, b, c, next, other -/
abbrev zk (s : rx_S) (r i : Nat) : Nat := nt (s 9 (12 * r + i))
abbrev za (s : rx_S) (r i : Nat) : Nat := nt (s 10 (12 * r + i))
abbrev zb (s : rx_S) (r i : Nat) : Nat := nt (s 11 (12 * r + i))
abbrev zn (s : rx_S) (r i : Nat) : Nat := nt (s 13 (12 * r + i))
abbrev zo (s : rx_S) (r i : Nat) : Nat := nt (s 14 (12 * r + i))
/-- a sound step -/
def SS (s : rx_S) (r i : Nat) : Prop :=
  (zk s r i ≤ 4 → rg (s 10 (12 * r + i)) 3 ∧ nt (s 6 (3 * r + za s r i)) < 3) ∧
  (zk s r i = 0 → rg (s 11 (12 * r + i)) 501 ∧ rg (s 12 (12 * r + i)) 501) ∧
  (zk s r i = 1 ∨ zk s r i = 3 → rg (s 11 (12 * r + i)) 21 ∧ 1 ≤ zb s r i) ∧
  (zk s r i = 2 → rg (s 11 (12 * r + i)) 3 ∧ nt (s 6 (3 * r + zb s r i)) < 3 ∧ za s r i ≠ zb s r i ∧ rg (s 12 (12 * r + i)) 101) ∧
  (zk s r i = 4 → rg (s 11 (12 * r + i)) 4) ∧ (zk s r i = 7 → rg (s 10 (12 * r + i)) 4) ∧ (zk s r i = 8 → rg (s 10 (12 * r + i)) 6 ∧ 1 ≤ za s r i) ∧
  (zk s r i ≠ 9 → rg (s 13 (12 * r + i)) (nt (s 7 r)) ∧ i < zn s r i) ∧
  (zk s r i = 5 ∨ zk s r i = 7 → rg (s 14 (12 * r + i)) (nt (s 7 r)) ∧ i < zo s r i) ∧
  (zk s r i = 8 → rg (s 14 (12 * r + i)) (nt (s 7 r)) ∧ zo s r i < i)
def IR (s : rx_S) : Prop := RN 6 101 (s 3) ∧ RN 12 4 (s 6) ∧ RN 4 13 (s 7) ∧ RN 4 2 (s 8) ∧ (∀ r, r < 4 → ∀ i, i < nt (s 7 r) → rg (s 9 (12 * r + i)) 10) ∧ rg (s 15 0) 17 ∧ rg (s 31 0) 101 ∧ rg (s 32 0) 5000 ∧ ∀ j, j < 128 → s 27 j = nI 0 ∨ s 27 j = nI 1
def IW (W : Nat → Nat → Nat) (s : rx_S) : Prop := ∀ r, r < 4 → s 8 r = nI 1 → 0 < nt (s 7 r) ∧ (∀ i, i < nt (s 7 r) → SS s r i) ∧ WG (nt (s 7 r)) (zk s r) (zn s r) (zo s r) (W r)
def IF (s : rx_S) : Prop := ∀ t, nt (s 15 0) ≤ t → t < 16 → s 18 t = nI 0 ∧ s 19 t = nI 0 ∧ (∀ j, j < 4 → s 20 (4 * t + j) = nI 0) ∧ (∀ j, j < 12 → s 21 (12 * t + j) = nI 0) ∧ ∀ j, j < 3 → s 22 (3 * t + j) = -1
/-- a batch -/
def IB (W : Nat → Nat → Nat) (s : rx_S) (t : Nat) : Prop := rg (s 16 t) 4 ∧ s 8 (nt (s 16 t)) = nI 1 ∧ rg (s 17 t) 1001 ∧ rg (s 18 t) 8 ∧ rg (s 19 t) 9 ∧
  (s 18 t = nI 2 ∨ s 18 t = nI 3 ∨ s 18 t = nI 4 ∨ (s 19 t = nI 0 ∧ ∀ k, k < 3 → s 22 (3 * t + k) = -1)) ∧
  (s 18 t = nI 2 ∨ s 18 t = nI 3 ∨ s 18 t = nI 4 → (∀ k, k < 3 → nt (s 6 (3 * nt (s 16 t) + k)) < 3 → rg (s 22 (3 * t + k)) 6) ∧ ∀ k, k < 3 → ∀ j, j < 3 → s 22 (3 * t + k) ≠ -1 → s 22 (3 * t + k) = s 22 (3 * t + j) → k = j) ∧
  (∀ k, k < 3 → rgm (s 22 (3 * t + k)) 6) ∧
  (∀ i, i < nt (s 7 (nt (s 16 t))) → zk s (nt (s 16 t)) i = 8 → rg (s 21 (12 * t + i)) (za s (nt (s 16 t)) i + 1)) ∧
  gs (W (nt (s 16 t))) (fun i => nt (s 23 (8 * t + i))) (nt (s 19 t)) ≤ 8
/-- a token -/
def IT (bd : Nat) (s : rx_S) (t i : Nat) : Prop := rg (s 23 (8 * t + i)) (nt (s 7 (nt (s 16 t)))) ∧ rg (s 26 (8 * t + i)) 2 ∧
  (s 26 (8 * t + i) = nI 1 → rg (s 27 (8 * t + i)) 2 ∧ nt (ka s t i) ≤ 4 ∧ (ka s t i = nI 1 ∨ ka s t i = nI 3 → rg (s 24 (8 * t + i)) 21 ∧ (1 ≤ nt (s 24 (8 * t + i)) ∨ bd / 1099511627776 = 8 * t + i + 1)) ∧ (ka s t i = nI 0 → rg (s 25 (8 * t + i)) (nt (s 31 0))))
/-- a unit's content -/
def IU (s : rx_S) (u : Nat) : Prop := (∀ j, j < nt (s 3 u) → rg (s 4 (100 * u + j)) (nt (s 31 0))) ∧ (∀ j, j < nt (s 3 u) → ∀ k, k < nt (s 3 u) → s 4 (100 * u + j) = s 4 (100 * u + k) → j = k) ∧ ∀ j, j < nt (s 3 u) → rg (s 5 (100 * u + j)) (2 ^ 31) ∧ 1 ≤ nt (s 5 (100 * u + j))
def tU (s : rx_S) (u : Nat) : Nat := gs (fun v => v) (fun j => nt (s 5 (100 * u + j))) (nt (s 3 u))
def IL (s : rx_S) : Prop := s 35 0 = nI 0 ∧ (∀ l, l ≤ nt (s 31 0) → rg (s 35 l) 5000) ∧ (∀ l, l < nt (s 31 0) → nt (s 35 l) ≤ nt (s 35 (l + 1))) ∧ s 35 (nt (s 31 0)) = s 32 0 ∧ 2 * nt (s 32 0) ≤ nt (s 31 0) * (nt (s 31 0) - 1) ∧ ∀ l, l < nt (s 31 0) → ∀ j, j < pl (s 35) l → rg (s 36 (nt (s 35 l) + j)) l
