def dFeed (zT : Nat) (bT : Nat → Int) (a1 a2 a3 a4 a5 : Int) : Int × Nat × (Nat → Int) :=
  if 1980 < (zT : Int) then (-1, zT, bT) else (((zT + 4 + 4 + 4 + 4 + 4 : Nat) : Int), zT + 4 + 4 + 4 + 4 + 4, bAppHf (bAppHf (bAppHf (bAppHf (bAppHf bT zT a1) (zT + 4) a2) (zT + 4 + 4) a3) (zT + 4 + 4 + 4) a4) (zT + 4 + 4 + 4 + 4) a5)
/-- set: does it, and the slot's bytes then -/
def dSetOK (s x v : Int) (T : Nat → Nat → Int) (cnt : Nat) : Bool := dHas s x cnt && (decide (¬ kWidth (nCell T cnt 0 x) = 0) && kAllows (nCell T cnt 0 x) v)
theorem rGo_in {b : Nat → Int} {sz : Nat} : ∀ (N : Nat) (s : rS), rGood b sz N s → rIn (rGo b sz N s) := by
  intro N
  induction N with
  | zero => intro s h; exact h
  | succ N ih =>
    intro s h
    unfold rGo
    split
    · rename_i hc
      exact ih _ (h.2 hc).2
    · exact h.1
def dFr (L L1 : Nat → Nat) (κ κ1 : Nat → Option va_E) : Prop := L1 0 = L 0 ∧ (∀ r, 40 ≤ r → L1 r = L r) ∧ ∀ r, 40 ≤ r → κ1 r = κ r
/-- drop, behind the renumbering: the slot's size and bytes -/
def dDz (T : Nat → Nat → Int) (cnt : Nat) (x : Int) (z : Nat) (b : Nat → Int) : Nat × (Nat → Int) :=
  if nCell T cnt 0 (nCell T cnt 1 x) = 4 then rnF T cnt (nCell T cnt 1 x) x (nBeh T cnt (nCell T cnt 1 x) - 1) (nCell T cnt 6 (nCell T cnt 1 x) - 1) z b else (z, b)
def dDs (T : Nat → Nat → Int) (cnt : Nat) (x : Int) : Int := nCell T cnt 3 x - 1
def dDl (T : Nat → Nat → Int) (cnt : Nat) (x : Int) : Int := nLast T cnt x + 1 - dDs T cnt x
def dDropB (T : Nat → Nat → Int) (cnt : Nat) (x : Int) (z z1 : Nat) (b1 : Nat → Int) : Nat → Int :=
  rzF T cnt (z1 - (dDl T cnt x).toNat) (((z1 - (dDl T cnt x).toNat : Nat) : Int) - z) 0 (nCell T cnt 1 x) (bCut b1 z1 (dDs T cnt x) (dDl T cnt x))
def dDropOK (s x : Int) (T : Nat → Nat → Int) (cnt : Nat) (z : Nat) (b : Nat → Int) : Prop := dHas s x cnt = true → ¬ x = 0 →
  (0 ≤ nCell T cnt 1 x ∧ nCell T cnt 1 x ≤ 1000) ∧ (nCell T cnt 0 (nCell T cnt 1 x) = 4 → rnG T cnt (nCell T cnt 1 x) x (nBeh T cnt (nCell T cnt 1 x) - 1) (nCell T cnt 6 (nCell T cnt 1 x) - 1) z) ∧ (0 ≤ dDs T cnt x ∧ 0 ≤ dDl T cnt x ∧ dDs T cnt x ≤ ((dDz T cnt x z b).1 : Int) - dDl T cnt x)
