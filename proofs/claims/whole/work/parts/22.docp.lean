/-! DOCUMENTBYTES: the object in role 0, its array of slots in role 1, tape 2 3, fresh 4 5, nodes 6 .. 13, reader 14, slot k in 16 + 2 k and 17 + 2 k -/
def dob (L : Nat → Nat) (κ : Nat → Option va_E) (scn fpl : Int) : Prop := κ 0 = some (.inr (dbC, [.ref (L 2), .ref (L 1), .ref (L 4), .ref (L 6), .ref (L 14), .int (iI scn), .int (iI fpl)]))
def dSlot (s : Int) : Bool := decide (0 ≤ s ∧ s < 8)
theorem dSlot_t {s : Int} (h : 0 ≤ s ∧ s < 8) : true = dSlot s := (decide_eq_true h).symm
theorem dSlot_f {s : Int} (h : ¬ (0 ≤ s ∧ s < 8)) : false = dSlot s := (decide_eq_false h).symm
theorem dSlot_iff {s : Int} : dSlot s = true ↔ (0 ≤ s ∧ s < 8) := decide_eq_true_iff
theorem dSlot_ff {s : Int} : dSlot s = false ↔ ¬ (0 ≤ s ∧ s < 8) := decide_eq_false_iff_not
/-- nameCountFits -/
def dFits (T : Nat → Nat → Int) (cnt : Nat) (nd n : Int) : Bool := decide (n = 0 ∨ ¬ nCell T cnt 0 nd = 4)
/-- isFreeName: (b, sz) the document, (bT, zT) the tape -/
def dFree (T : Nat → Nat → Int) (cnt : Nat) (b : Nat → Int) (sz : Nat) (bT : Nat → Int) (zT : Nat) (nd n : Int) : Bool := decide (bFz bT zT 0 n = -1 ∧ uWrong bT zT 0 n = -1 ∧ nNamed T cnt b sz nd bT zT 0 n = -1)
/-- resizeUpwards -/
def rzN (T : Nat → Nat → Int) (cnt sz : Nat) (ch : Int) : Nat → Int → (Nat → Int) → Nat → Int
  | 0, _, b => b
  | N + 1, ar, b => if 0 ≤ ar then rzN T cnt sz ch N (nCell T cnt 1 ar) (bPn sz (nCell T cnt 4 ar) (bNum b sz (nCell T cnt 4 ar) 3 0 + ch) 4 0 b) else b
def rzF (T : Nat → Nat → Int) (cnt sz : Nat) (ch k ar : Int) (b : Nat → Int) : Nat → Int := rzN T cnt sz ch (16 - k).toNat ar b
theorem rzF_end {T : Nat → Nat → Int} {cnt sz : Nat} {ch k ar : Int} {b : Nat → Int} (h : 16 ≤ k ∨ ar < 0) : rzF T cnt sz ch k ar b = b := by
  unfold rzF
  cases hN : (16 - k).toNat with
  | zero => rfl
  | succ N => exact if_neg (by omega)
theorem rzF_step {T : Nat → Nat → Int} {cnt sz : Nat} {ch k ar : Int} {b : Nat → Int} (h : k < 16) (h2 : 0 ≤ ar) : rzF T cnt sz ch k ar b = rzF T cnt sz ch (k + 1) (nCell T cnt 1 ar) (bPn sz (nCell T cnt 4 ar) (bNum b sz (nCell T cnt 4 ar) 3 0 + ch) 4 0 b) := by
  unfold rzF
  rw [show (16 - k).toNat = (16 - (k + 1)).toNat + 1 by omega]
  exact if_pos h2
/-- renumberBehind: from row k down to node + 1; ix: the number of the last one seen -/
def rnN (T : Nat → Nat → Int) (cnt : Nat) (row : Int) : Nat → Int → Int → Nat → (Nat → Int) → Nat × (Nat → Int)
  | 0, _, _, sz, b => (sz, b)
  | N + 1, k, ix, sz, b => if nCell T cnt 1 k = row then
      rnN T cnt row N (k + (-1)) (ix + (-1)) (sz - (nNameLen T cnt k - bDigits (ix + (-1))).toNat) (bPd (sz - (nNameLen T cnt k - bDigits (ix + (-1))).toNat) (nCell T cnt 3 k) (bDigits (ix + (-1)) - 1) (ix + (-1)) (bCut b sz (nCell T cnt 3 k) (nNameLen T cnt k - bDigits (ix + (-1)))))
    else rnN T cnt row N (k + (-1)) ix sz b
/-- that each cut is one, all the way -/
def rnGood (T : Nat → Nat → Int) (cnt : Nat) (row : Int) : Nat → Int → Int → Nat → Prop
  | 0, _, _, _ => True
  | N + 1, k, ix, sz => if nCell T cnt 1 k = row then
      (1 ≤ ix ∧ ix ≤ 1000 ∧ 0 ≤ nCell T cnt 3 k ∧ bDigits (ix + (-1)) ≤ nNameLen T cnt k ∧ nCell T cnt 3 k ≤ sz - (nNameLen T cnt k - bDigits (ix + (-1)))) ∧ rnGood T cnt row N (k + (-1)) (ix + (-1)) (sz - (nNameLen T cnt k - bDigits (ix + (-1))).toNat)
    else rnGood T cnt row N (k + (-1)) ix sz
def rnF (T : Nat → Nat → Int) (cnt : Nat) (row nd k ix : Int) (sz : Nat) (b : Nat → Int) : Nat × (Nat → Int) := rnN T cnt row (k - nd).toNat k ix sz b
def rnG (T : Nat → Nat → Int) (cnt : Nat) (row nd k ix : Int) (sz : Nat) : Prop := rnGood T cnt row (k - nd).toNat k ix sz
theorem rnF_end {T : Nat → Nat → Int} {cnt : Nat} {row nd k ix : Int} {sz : Nat} {b : Nat → Int} (h : k ≤ nd) : rnF T cnt row nd k ix sz b = (sz, b) := by
  unfold rnF
  rw [show (k - nd).toNat = 0 by omega]
  rfl
theorem rnF_hit {T : Nat → Nat → Int} {cnt : Nat} {row nd k ix : Int} {sz : Nat} {b : Nat → Int} (h : nd < k) (h2 : nCell T cnt 1 k = row) : rnF T cnt row nd k ix sz b = rnF T cnt row nd (k + (-1)) (ix + (-1)) (sz - (nNameLen T cnt k - bDigits (ix + (-1))).toNat) (bPd (sz - (nNameLen T cnt k - bDigits (ix + (-1))).toNat) (nCell T cnt 3 k) (bDigits (ix + (-1)) - 1) (ix + (-1)) (bCut b sz (nCell T cnt 3 k) (nNameLen T cnt k - bDigits (ix + (-1))))) := by
  unfold rnF
  rw [show (k - nd).toNat = (k + (-1) - nd).toNat + 1 by omega]
  exact if_pos h2
theorem rnF_miss {T : Nat → Nat → Int} {cnt : Nat} {row nd k ix : Int} {sz : Nat} {b : Nat → Int} (h : nd < k) (h2 : ¬ nCell T cnt 1 k = row) : rnF T cnt row nd k ix sz b = rnF T cnt row nd (k + (-1)) ix sz b := by
  unfold rnF
  rw [show (k - nd).toNat = (k + (-1) - nd).toNat + 1 by omega]
  exact if_neg h2
theorem rnG_hit {T : Nat → Nat → Int} {cnt : Nat} {row nd k ix : Int} {sz : Nat} (h : nd < k) (h2 : nCell T cnt 1 k = row) (hg : rnG T cnt row nd k ix sz) : (1 ≤ ix ∧ ix ≤ 1000 ∧ 0 ≤ nCell T cnt 3 k ∧ bDigits (ix + (-1)) ≤ nNameLen T cnt k ∧ nCell T cnt 3 k ≤ sz - (nNameLen T cnt k - bDigits (ix + (-1)))) ∧ rnG T cnt row nd (k + (-1)) (ix + (-1)) (sz - (nNameLen T cnt k - bDigits (ix + (-1))).toNat) := by
  unfold rnG at hg ⊢
  rw [show (k - nd).toNat = (k + (-1) - nd).toNat + 1 by omega] at hg
  unfold rnGood at hg
  rw [if_pos h2] at hg
  exact hg
theorem rnG_miss {T : Nat → Nat → Int} {cnt : Nat} {row nd k ix : Int} {sz : Nat} (h : nd < k) (h2 : ¬ nCell T cnt 1 k = row) (hg : rnG T cnt row nd k ix sz) : rnG T cnt row nd (k + (-1)) ix sz := by
  unfold rnG at hg ⊢
  rw [show (k - nd).toNat = (k + (-1) - nd).toNat + 1 by omega] at hg
  unfold rnGood at hg
  rw [if_neg h2] at hg
  exact hg
/-- writeFresh -/
def dWrite (T : Nat → Nat → Int) (cnt : Nat) (b : Nat → Int) (sz : Nat) (bT : Nat → Int) (bF : Nat → Int) (zF : Nat) (nd k nl : Int) : Nat → Int :=
  let s := nLast T cnt nd
  let z := sz + (2 + nl + zF).toNat
  let b1 := bPut (bGap b sz s (2 + nl + zF)) z s k
  let b2 := if nCell T cnt 0 nd = 4 then bPd z (s + 1) (nl - 1) (nCell T cnt 6 nd) b1 else bCopy b1 bT (s + 1) 0 nl
  bCopy (bPut b2 z (s + 1 + nl + 1 - 1) 0) bF (s + 1 + nl + 1) 0 zF
