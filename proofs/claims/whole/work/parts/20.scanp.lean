/-! SCAN: the table of right bytes. Its state: at, inside, the table -/
abbrev sS : Type := Int × Int × (Nat → Nat → Int) × Nat
def scVal (b : Nat → Int) (sz : Nat) (at_ : Int) : Int := bFz b sz (at_ + 1) sz + 1
def scLen (b : Nat → Int) (sz : Nat) (at_ : Int) : Int := kVlen (bGet b sz at_) b sz (scVal b sz at_)
def scStep (b : Nat → Int) (sz : Nat) (at_ ins : Int) (T : Nat → Nat → Int) (cnt : Nat) : sS :=
  if nLast T cnt ins ≤ at_ then (at_ + 1, nCell T cnt 1 ins, T, cnt)
  else (scVal b sz at_ + (if kHold (bGet b sz at_) = true then 4 else scLen b sz at_), (if kHold (bGet b sz at_) = true then (cnt : Int) else ins), nApp T cnt (bGet b sz at_) ins (at_ + 1) (scVal b sz at_) (scLen b sz at_), cnt + 1)
def scGo (b : Nat → Int) (sz : Nat) : Nat → sS → sS
  | 0, s => s
  | N + 1, s => if 0 ≤ s.2.1 then scGo b sz N (scStep b sz s.1 s.2.1 s.2.2.1 s.2.2.2) else s
def scGood (b : Nat → Int) (sz : Nat) : Nat → sS → Prop
  | 0, s => -1000000 ≤ s.2.1 ∧ s.2.1 ≤ 1000000
  | N + 1, s => (-1000000 ≤ s.2.1 ∧ s.2.1 ≤ 1000000) ∧ (0 ≤ s.2.1 → ((0 ≤ s.1 ∧ s.1 ≤ 90000) ∧ s.2.1 < s.2.2.2 ∧ s.2.2.2 < 700 ∧ (0 ≤ nLast s.2.2.1 s.2.2.2 s.2.1 ∧ nLast s.2.2.1 s.2.2.2 s.2.1 ≤ 90000) ∧ (0 ≤ scLen b sz s.1 ∧ scLen b sz s.1 ≤ 90000)) ∧ scGood b sz N (scStep b sz s.1 s.2.1 s.2.2.1 s.2.2.2))
theorem scGood_in {b : Nat → Int} {sz : Nat} {N : Nat} {s : sS} (h : scGood b sz N s) : -1000000 ≤ s.2.1 ∧ s.2.1 ≤ 1000000 := by
  cases N with
  | zero => exact h
  | succ N => exact h.1
def scStart (sz : Nat) (T : Nat → Nat → Int) : sS := (4, 0, nApp T 0 3 (-1) (-1) 0 sz, 1)
def scAll (b : Nat → Int) (sz : Nat) (T : Nat → Nat → Int) : sS := scGo b sz 2000 (scStart sz T)
theorem scGo_0 {b : Nat → Int} {sz : Nat} {N : Nat} {s : sS} (h : N = 0) : scGo b sz N s = s := by rw [h]; rfl
theorem scGo_e {b : Nat → Int} {sz : Nat} {N : Nat} {s : sS} (h : 0 ≤ s.2.1 → False) : scGo b sz N s = s := by
  cases N with
  | zero => rfl
  | succ N => exact if_neg h
theorem scGo_s {b : Nat → Int} {sz : Nat} {N : Nat} {s : sS} (h : 0 ≤ s.2.1) : scGo b sz (N + 1) s = scGo b sz N (scStep b sz s.1 s.2.1 s.2.2.1 s.2.2.2) := if_pos h
