/-- the name's length of a new element of x -/
def dNl (T : Nat → Nat → Int) (cnt : Nat) (x n : Int) : Int := if nCell T cnt 0 x = 4 then bDigits (nCell T cnt 6 x) else n
/-- insertFresh's answer -/
def dInsA (T : Nat → Nat → Int) (cnt : Nat) (b : Nat → Int) (z : Nat) (bT : Nat → Int) (zT zF : Nat) (x n lv : Int) : Int :=
  if ¬ nCell T cnt 0 x = 4 ∧ dFree T cnt b z bT zT x n = false then -3
  else if 16 < nCell T cnt 2 x + lv then -4
  else if 2000 < (z : Int) + (2 + dNl T cnt x n + zF) then -5
  else nBeh T cnt x
/-- and the slot's size and bytes, where it does -/
def dInsZ (T : Nat → Nat → Int) (cnt : Nat) (z zF : Nat) (x n : Int) : Nat := z + (2 + dNl T cnt x n + zF).toNat
def dInsB (T : Nat → Nat → Int) (cnt : Nat) (b : Nat → Int) (z : Nat) (bT : Nat → Int) (bF : Nat → Int) (zF : Nat) (x k n : Int) : Nat → Int :=
  rzF T cnt (dInsZ T cnt z zF x n) (2 + dNl T cnt x n + zF) 0 x (dWrite T cnt b z bT bF zF x k (dNl T cnt x n))
/-- what addFromTape leaves in fresh -/
def dFresh (k v n m : Int) (bF bT : Nat → Int) : Nat × (Nat → Int) :=
  if k = 2 then (0 + 4 + m.toNat + 1, bAppNum (bApp (bAppNum bF 0 (m + 1) 4) (0 + 4) bT n m) (0 + 4 + m.toNat) 0 1)
  else if kHold k = true then (0 + 4 + 1, bAppNum (bAppNum bF 0 5 4) (0 + 4) 0 1)
  else (0 + (kWidth k).toNat, bAppNum bF 0 v (kWidth k))
def dAddOK (T : Nat → Nat → Int) (cnt : Nat) (x k v n m : Int) : Bool := kIs k && (kAllows k v && (dFits T cnt x n && decide (m = 0 ∨ k = 2)))
def dAddA (T : Nat → Nat → Int) (cnt : Nat) (b : Nat → Int) (z : Nat) (bT : Nat → Int) (zT : Nat) (bF : Nat → Int) (x k v n m : Int) : Int :=
  if dAddOK T cnt x k v n m = false then -2 else if ¬ uWrong bT zT n (n + m) = -1 then -3 else dInsA T cnt b z bT zT (dFresh k v n m bF bT).1 x n (bI (kHold k))
theorem dMay_has {s x : Int} {T : Nat → Nat → Int} {cnt : Nat} (h : dMay s x T cnt = true) : dHas s x cnt = true := by
  unfold dMay at h
  cases hh : dHas s x cnt
  · rw [hh] at h; cases h
  · rfl
/-- the node's last byte lies in the slot -/
def dLa (s x : Int) (T : Nat → Nat → Int) (cnt z : Nat) : Prop := dHas s x cnt = true → 0 ≤ nLast T cnt x ∧ nLast T cnt x ≤ z
/-- graft: what is copied lies in its slot -/
def dGrOK (t y : Int) (T : Nat → Nat → Int) (cnt z : Nat) : Prop := dHas t y cnt = true → (0 ≤ nCell T cnt 4 y ∧ 0 ≤ nCell T cnt 5 y ∧ nCell T cnt 4 y ≤ z - nCell T cnt 5 y) ∧ (0 ≤ nLevels T cnt y ∧ nLevels T cnt y ≤ 10000)
def dGrA (T : Nat → Nat → Int) (cnt : Nat) (b : Nat → Int) (z : Nat) (bT : Nat → Int) (zT zF : Nat) (x n lv : Int) : Int := if dFits T cnt x n = false then -2 else dInsA T cnt b z bT zT zF x n lv
