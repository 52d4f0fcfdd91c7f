/-! THE STATE: rooms' numbers (beds, comfort, least, let, taken), ghosts' (home, fright, wakes, bed), guests' (coins, needs, nerve, for, price, slept, bad), doors by bits; how many; night, coins, given back -/
abbrev Sg : Type := (Nat → Nat → Int32) × (Nat → Nat → Int32) × (Nat → Nat → Int32) × (Nat → Int32) × (Nat × Nat × Nat × Nat) × (Int32 × Int32 × Int32)
def sRm (σ : Sg) : Nat → Nat → Int32 := σ.1
def sGh (σ : Sg) : Nat → Nat → Int32 := σ.2.1
def sGu (σ : Sg) : Nat → Nat → Int32 := σ.2.2.1
def sJn (σ : Sg) : Nat → Int32 := σ.2.2.2.1
def kR (σ : Sg) : Nat := σ.2.2.2.2.1.1
def kG (σ : Sg) : Nat := σ.2.2.2.2.1.2.1
def kU (σ : Sg) : Nat := σ.2.2.2.2.1.2.2.1
def kD (σ : Sg) : Nat := σ.2.2.2.2.1.2.2.2
def sN (σ : Sg) : Int32 := σ.2.2.2.2.2.1
def sH (σ : Sg) : Int32 := σ.2.2.2.2.2.2.1
def sB (σ : Sg) : Int32 := σ.2.2.2.2.2.2.2
/-- the first number below n, from lo on, whose bit is set -/
def bitAt (b : Int32) (j : Nat) : Bool := decide (b >>> (nI j &&& 31) &&& 1 = 1)
def fstB (b : Int32) : Nat → Nat → Option Nat
  | _, 0 => none
  | lo, n + 1 => if bitAt b lo then some lo else fstB b (lo + 1) n
/-- the next room of a ghost -/
def nxt (b : Int32) (r : Nat) : Nat := match fstB b (r + 1) (9 - r) with
  | some j => j
  | none => match fstB b 0 10 with
    | some j => j
    | none => r
def plN (σ : Sg) (i : Nat) : Nat → Nat
  | 0 => (sGh σ i 0).toNatClampNeg
  | k + 1 => nxt (sJn σ (plN σ i k)) (plN σ i k)
/-- where a ghost is in an hour -/
def plc (σ : Sg) (i h : Nat) : Int32 := if sGh σ i 2 ≤ nI h ∧ nI h < sGh σ i 3 then nI (plN σ i (h - (sGh σ i 2).toNatClampNeg)) else -1
/-- what holds in every state -/
def VS (σ : Sg) : Prop := (kR σ ≤ 10 ∧ kG σ ≤ 5 ∧ kU σ ≤ 12 ∧ kD σ ≤ 20) ∧
  (∀ i, i < kR σ → 0 ≤ sRm σ i 1 ∧ sRm σ i 1 ≤ 9) ∧
  (∀ i, i < kG σ → (∃ r w, r < kR σ ∧ w < 12 ∧ sGh σ i 0 = nI r ∧ sGh σ i 2 = nI w)) ∧
  (∀ i, i < kU σ → (sGu σ i 3 = -1 ∧ sGu σ i 4 = 0 ∨ ∃ r, r < kR σ ∧ sGu σ i 3 = nI r ∧ 1 ≤ sGu σ i 4 ∧ sGu σ i 4 ≤ 200)) ∧
  (∀ i, ∃ b : Nat, b < 2 ^ kR σ ∧ sJn σ i = nI b)
def roomE (σ : Sg) (i : Nat) : va_E := .inr (3, [.int (sRm σ i 0), .int (sRm σ i 2), .int (sRm σ i 1), .int (sRm σ i 3), .int (sRm σ i 4), .int (sJn σ i)])
def ghostE (g : Nat → Nat) (σ : Sg) (i : Nat) : va_E := .inr (1, [.int (sGh σ i 0), .int (sGh σ i 1), .int (sGh σ i 2), .int (sGh σ i 3), .ref (g (300 + i))])
def guestE (σ : Sg) (i : Nat) : va_E := .inr (2, [.int (sGu σ i 1), .int (sGu σ i 0), .int (sGu σ i 2), .int (sGu σ i 3), .int (sGu σ i 4), .int (sGu σ i 5), .int (sGu σ i 6)])
/-- a list: its object at the tag tl, its row at te, its elements at base, base + 1 .. -/
def LW (E : gE) (g : Nat → Nat) (M : gM) (tl te base n : Nat) : Prop := ∃ (mc : Int32) (el : Nat), M tl = some (.inr (0, [.int mc, .ref el, .int (nI n)])) ∧ (n = 0 → el = E.2.2.2.2 ∧ M te = none) ∧
  (0 < n → el = g te ∧ ∃ f : Nat → Option Nat, M te = some (.inl (E.2.2.2.1, (if n ≤ 10 then 10 else 15), .inr (.inr (.inr (.inr f))))) ∧ ∀ i, i < n → f i = some (g (base + i)))
/-- the class's world holds the state σ -/
def CW (E : gE) (g : Nat → Nat) (M : gM) (σ : Sg) : Prop :=
  (M 0 = some (.inr (5, [.ref (g 1), .ref (g 2), .ref (g 3), .ref (g 4), .int (nI (kD σ)), .int (sN σ), .int (sH σ), .int (sB σ)])) ∧ LW E g M 1 7 100 (kR σ) ∧ LW E g M 2 8 200 (kG σ) ∧ LW E g M 3 9 400 (kU σ)) ∧
  ((∃ as, M 4 = some (.inr (4, [.ref (g 5), .ref (g 6), .int as]))) ∧ (∃ f, M 5 = some (.inl (E.2.1, 12, .inl f))) ∧ (∃ f, M 6 = some (.inl (E.2.1, 10, .inl f)))) ∧
  (∀ i, i < kR σ → M (100 + i) = some (roomE σ i)) ∧
  (∀ i, i < kG σ → M (200 + i) = some (ghostE g σ i)) ∧
  (∀ i, i < kU σ → M (400 + i) = some (guestE σ i))
/-- the ghosts' rows of places -/
def PW (E : gE) (M : gM) (σ : Sg) : Prop := ∀ i, i < kG σ → ∃ f : Nat → Int32, M (300 + i) = some (.inl (E.2.1, 12, .inl f)) ∧ ∀ h, h < 12 → f h = plc σ i h
/-- no other cells -/
def CD (M : gM) (σ : Sg) : Prop := ∀ t e, M t = some e → t < 10 ∨ (∃ i, i < kR σ ∧ t = 100 + i) ∨ (∃ i, i < kG σ ∧ (t = 200 + i ∨ t = 300 + i)) ∨ ∃ i, i < kU σ ∧ t = 400 + i
theorem CW.x {E : gE} {g : Nat → Nat} {M : gM} {σ : Sg} (h : CW E g M σ) : M 0 = some (.inr (5, [.ref (g 1), .ref (g 2), .ref (g 3), .ref (g 4), .int (nI (kD σ)), .int (sN σ), .int (sH σ), .int (sB σ)])) := h.1.1
theorem CW.room {E : gE} {g : Nat → Nat} {M : gM} {σ : Sg} (h : CW E g M σ) {i : Nat} (hi : i < kR σ) : M (100 + i) = some (roomE σ i) := h.2.2.1 i hi
theorem CW.ghost {E : gE} {g : Nat → Nat} {M : gM} {σ : Sg} (h : CW E g M σ) {i : Nat} (hi : i < kG σ) : M (200 + i) = some (ghostE g σ i) := h.2.2.2.1 i hi
theorem CW.guest {E : gE} {g : Nat → Nat} {M : gM} {σ : Sg} (h : CW E g M σ) {i : Nat} (hi : i < kU σ) : M (400 + i) = some (guestE σ i) := h.2.2.2.2 i hi
theorem CW.LR {E : gE} {g : Nat → Nat} {M : gM} {σ : Sg} (h : CW E g M σ) : LW E g M 1 7 100 (kR σ) := h.1.2.1
theorem CW.LG {E : gE} {g : Nat → Nat} {M : gM} {σ : Sg} (h : CW E g M σ) : LW E g M 2 8 200 (kG σ) := h.1.2.2.1
theorem CW.LU {E : gE} {g : Nat → Nat} {M : gM} {σ : Sg} (h : CW E g M σ) : LW E g M 3 9 400 (kU σ) := h.1.2.2.2
theorem ix_ok {n N : Nat} (h : n < N ∧ N < 2 ^ 31) : vp_in (nI n) N := vp_in_nI h.1 h.2
theorem rd_ok {α : Type} {f : Nat → α} {i : Nat} {x : α} (hi : i < 2 ^ 31) (h : f i = x) : f (nI i).toNatClampNeg = x := by rw [nI_clamp hi]; exact h
