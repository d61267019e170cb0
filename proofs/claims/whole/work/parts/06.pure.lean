/-! BYTES: a row is b : Nat → Int (each 0 .. 255, 0 behind the row's end), of which the first sz count -/
def bGet (b : Nat → Int) (sz : Nat) (a : Int) : Int := if 0 ≤ a ∧ a < sz then b a.toNat else -1
theorem bGet_in {b : Nat → Int} {sz : Nat} {a : Int} (h1 : 0 ≤ a) (h2 : a < sz) : bGet b sz a = b a.toNat := if_pos ⟨h1, h2⟩
theorem bGet_out {b : Nat → Int} {sz : Nat} {a : Int} (h : a < 0 ∨ sz ≤ a) : bGet b sz a = -1 := if_neg (by omega)
theorem bGet_r {b : Nat → Int} {sz : Nat} (hb : ∀ x, 0 ≤ b x ∧ b x < 256) (a : Int) : -1 ≤ bGet b sz a ∧ bGet b sz a < 256 := by
  unfold bGet
  have := hb a.toNat
  split <;> omega
def bHas (sz : Nat) (n m : Int) : Bool := decide (0 ≤ n ∧ 0 ≤ m ∧ n ≤ sz ∧ m ≤ sz - n)
theorem bHas_t {sz : Nat} {n m : Int} (h : 0 ≤ n ∧ 0 ≤ m ∧ n ≤ sz ∧ m ≤ sz - n) : true = bHas sz n m := (decide_eq_true h).symm
theorem bHas_f {sz : Nat} {n m : Int} (h : ¬ (0 ≤ n ∧ 0 ≤ m ∧ n ≤ sz ∧ m ≤ sz - n)) : false = bHas sz n m := (decide_eq_false h).symm
theorem bHas_iff {sz : Nat} {n m : Int} : bHas sz n m = true ↔ (0 ≤ n ∧ 0 ≤ m ∧ n ≤ sz ∧ m ≤ sz - n) := decide_eq_true_iff
def bPut (b : Nat → Int) (sz : Nat) (a v : Int) : Nat → Int := if 0 ≤ a ∧ a < sz then va_up b a.toNat (v % 256) else b
def bFzN (b : Nat → Int) (sz : Nat) : Nat → Int → Int
  | 0, _ => -1
  | N + 1, k => if bGet b sz k = 0 then k else bFzN b sz N (k + 1)
def bFz (b : Nat → Int) (sz : Nat) (k to : Int) : Int := bFzN b sz (to - k).toNat k
theorem bFz_end {b : Nat → Int} {sz : Nat} {k to : Int} (h : to ≤ k) : bFz b sz k to = -1 := by
  unfold bFz
  rw [show (to - k).toNat = 0 by omega]
  rfl
theorem bFz_step {b : Nat → Int} {sz : Nat} {k to : Int} (h : k < to) : bFz b sz k to = if bGet b sz k = 0 then k else bFz b sz (k + 1) to := by
  unfold bFz
  rw [show (to - k).toNat = (to - (k + 1)).toNat + 1 by omega]
  rfl
/-- the bytes at, at + 1 .. as a number, lowest first -/
def bNumN (b : Nat → Int) (sz : Nat) (at_ : Int) : Nat → Int → Int
  | 0, acc => acc
  | N + 1, acc => bNumN b sz at_ N (acc * 256 + bGet b sz (at_ + N) % 256)
def bNum (b : Nat → Int) (sz : Nat) (at_ k acc : Int) : Int := bNumN b sz at_ (k + 1).toNat acc
theorem bNum_end {b : Nat → Int} {sz : Nat} {at_ k acc : Int} (h : k < 0) : bNum b sz at_ k acc = acc := by
  unfold bNum
  rw [show (k + 1).toNat = 0 by omega]
  rfl
theorem bNum_step {b : Nat → Int} {sz : Nat} {at_ k acc : Int} (h : 0 ≤ k) : bNum b sz at_ k acc = bNum b sz at_ (k + (-1)) (acc * 256 + bGet b sz (at_ + k) % 256) := by
  unfold bNum
  rw [show (k + 1).toNat = (k + (-1) + 1).toNat + 1 by omega]
  show bNumN b sz at_ _ (acc * 256 + bGet b sz (at_ + ((k + (-1) + 1).toNat : Int)) % 256) = _
  rw [show (((k + (-1) + 1).toNat : Nat) : Int) = k by omega]
def bPnN (sz : Nat) (at_ v : Int) : Nat → Int → (Nat → Int) → Nat → Int
  | 0, _, b => b
  | N + 1, k, b => bPnN sz at_ v N (k + 1) (bPut b sz (at_ + k) (v / 2 ^ (8 * k).toNat))
def bPn (sz : Nat) (at_ v w k : Int) (b : Nat → Int) : Nat → Int := bPnN sz at_ v (w - k).toNat k b
theorem bPn_end {sz : Nat} {at_ v w k : Int} {b : Nat → Int} (h : w ≤ k) : bPn sz at_ v w k b = b := by
  unfold bPn
  rw [show (w - k).toNat = 0 by omega]
  rfl
theorem bPn_step {sz : Nat} {at_ v w k : Int} {b : Nat → Int} (h : k < w) : bPn sz at_ v w k b = bPn sz at_ v w (k + 1) (bPut b sz (at_ + k) (v / 2 ^ (8 * k).toNat)) := by
  unfold bPn
  rw [show (w - k).toNat = (w - (k + 1)).toNat + 1 by omega]
  rfl
def bDigits (a : Int) : Int := if a < 10 then 1 else if a < 100 then 2 else if a < 1000 then 3 else 4
theorem bDigits_r (a : Int) : 1 ≤ bDigits a ∧ bDigits a ≤ 4 := by
  unfold bDigits
  split
  · omega
  · split
    · omega
    · split <;> omega
/-- decimal digits of v put at at_ + k, at_ + k - 1 .. at_ -/
def bPdN (sz : Nat) (at_ : Int) : Nat → Int → (Nat → Int) → Nat → Int
  | 0, _, b => b
  | N + 1, v, b => bPdN sz at_ N (v / 10) (bPut b sz (at_ + N) (48 + v % 10))
def bPd (sz : Nat) (at_ k v : Int) (b : Nat → Int) : Nat → Int := bPdN sz at_ (k + 1).toNat v b
theorem bPd_end {sz : Nat} {at_ k v : Int} {b : Nat → Int} (h : k < 0) : bPd sz at_ k v b = b := by
  unfold bPd
  rw [show (k + 1).toNat = 0 by omega]
  rfl
theorem bPd_step {sz : Nat} {at_ k v : Int} {b : Nat → Int} (h : 0 ≤ k) : bPd sz at_ k v b = bPd sz at_ (k + (-1)) (v / 10) (bPut b sz (at_ + k) (48 + v % 10)) := by
  unfold bPd
  rw [show (k + 1).toNat = (k + (-1) + 1).toNat + 1 by omega]
  show bPdN sz at_ _ _ (bPut b sz (at_ + ((k + (-1) + 1).toNat : Int)) _) = _
  rw [show (((k + (-1) + 1).toNat : Nat) : Int) = k by omega]
def bHdN (b : Nat → Int) (sz : Nat) (at_ : Int) : Nat → Int → Bool
  | 0, _ => true
  | N + 1, v => if bGet b sz (at_ + N) = 48 + v % 10 then bHdN b sz at_ N (v / 10) else false
def bHd (b : Nat → Int) (sz : Nat) (at_ k v : Int) : Bool := bHdN b sz at_ (k + 1).toNat v
theorem bHd_end {b : Nat → Int} {sz : Nat} {at_ k v : Int} (h : k < 0) : bHd b sz at_ k v = true := by
  unfold bHd
  rw [show (k + 1).toNat = 0 by omega]
  rfl
theorem bHd_step {b : Nat → Int} {sz : Nat} {at_ k v : Int} (h : 0 ≤ k) : bHd b sz at_ k v = if bGet b sz (at_ + k) = 48 + v % 10 then bHd b sz at_ (k + (-1)) (v / 10) else false := by
  unfold bHd
  rw [show (k + 1).toNat = (k + (-1) + 1).toNat + 1 by omega]
  show (if bGet b sz (at_ + ((k + (-1) + 1).toNat : Int)) = _ then _ else _) = _
  rw [show (((k + (-1) + 1).toNat : Nat) : Int) = k by omega]
/-- hasDecimal -/
def bDec (b : Nat → Int) (sz : Nat) (at_ n v : Int) : Bool := bHd b sz at_ (n - 1) v && decide (n = bDigits v)
def bEqN (b : Nat → Int) (sz : Nat) (at_ : Int) (b2 : Nat → Int) (sz2 : Nat) (fr : Int) : Nat → Int → Bool
  | 0, _ => true
  | N + 1, k => if bGet b sz (at_ + k) = bGet b2 sz2 (fr + k) then bEqN b sz at_ b2 sz2 fr N (k + 1) else false
def bEq (b : Nat → Int) (sz : Nat) (at_ : Int) (b2 : Nat → Int) (sz2 : Nat) (fr n k : Int) : Bool := bEqN b sz at_ b2 sz2 fr (n - k).toNat k
theorem bEq_end {b : Nat → Int} {sz : Nat} {at_ : Int} {b2 : Nat → Int} {sz2 : Nat} {fr n k : Int} (h : n ≤ k) : bEq b sz at_ b2 sz2 fr n k = true := by
  unfold bEq
  rw [show (n - k).toNat = 0 by omega]
  rfl
theorem bEq_step {b : Nat → Int} {sz : Nat} {at_ : Int} {b2 : Nat → Int} {sz2 : Nat} {fr n k : Int} (h : k < n) : bEq b sz at_ b2 sz2 fr n k = if bGet b sz (at_ + k) = bGet b2 sz2 (fr + k) then bEq b sz at_ b2 sz2 fr n (k + 1) else false := by
  unfold bEq
  rw [show (n - k).toNat = (n - (k + 1)).toNat + 1 by omega]
  rfl
/-! KINDS -/
def kHold (k : Int) : Bool := decide (k = 3 ∨ k = 4)
def kWidth (k : Int) : Int := if k = 8 then 1 else if k = 16 then 4 else if k = 18 then 8 else 0
theorem kWidth_r (k : Int) : 0 ≤ kWidth k ∧ kWidth k ≤ 8 := by
  unfold kWidth
  split
  · omega
  · split
    · omega
    · split <;> omega
def kIs (k : Int) : Bool := decide (k = 2 ∨ k = 10 ∨ k = 3 ∨ k = 4 ∨ k = 8 ∨ k = 16 ∨ k = 18)
def kAllows (k v : Int) : Bool := if k = 8 then decide (v = 0 ∨ v = 1) else if k = 16 then decide (-2147483648 ≤ v ∧ v < 2147483648) else if k = 18 then true else decide (v = 0)
/-! UTF-8 -/
def uLen (x : Int) : Int := if x < 128 then 1 else if x < 194 ∨ 244 < x then 0 else if x < 224 then 2 else if x < 240 then 3 else 4
theorem uLen_r (x : Int) : 0 ≤ uLen x ∧ uLen x ≤ 4 := by
  unfold uLen
  split
  · omega
  · split
    · omega
    · split
      · omega
      · split <;> omega
theorem kHold_t {k : Int} (h : k = 3 ∨ k = 4) : true = kHold k := (decide_eq_true h).symm
theorem kHold_f {k : Int} (h : ¬ (k = 3 ∨ k = 4)) : false = kHold k := (decide_eq_false h).symm
theorem kHold_iff {k : Int} : kHold k = true ↔ (k = 3 ∨ k = 4) := decide_eq_true_iff
theorem kHold_ff {k : Int} : kHold k = false ↔ ¬ (k = 3 ∨ k = 4) := decide_eq_false_iff_not
theorem kIs_t {k : Int} (h : k = 2 ∨ k = 10 ∨ kHold k = true ∨ 0 < kWidth k) : true = kIs k := by
  refine (decide_eq_true ?_).symm
  rw [kHold_iff] at h
  unfold kWidth at h
  by_cases h1 : k = 8
  · omega
  · rw [if_neg h1] at h
    by_cases h2 : k = 16
    · omega
    · rw [if_neg h2] at h
      by_cases h3 : k = 18
      · omega
      · rw [if_neg h3] at h
        omega
theorem kIs_f {k : Int} (h : ¬ k = 2 ∧ ¬ k = 10 ∧ kHold k = false ∧ kWidth k ≤ 0) : false = kIs k := by
  refine (decide_eq_false ?_).symm
  rw [kHold_ff] at h
  unfold kWidth at h
  by_cases h1 : k = 8
  · rw [if_pos h1] at h; omega
  · rw [if_neg h1] at h
    by_cases h2 : k = 16
    · rw [if_pos h2] at h; omega
    · rw [if_neg h2] at h
      by_cases h3 : k = 18
      · rw [if_pos h3] at h; omega
      · rw [if_neg h3] at h
        omega
/-- the length of a right value -/
def kVlen (k : Int) (b : Nat → Int) (sz : Nat) (at_ : Int) : Int := if k = 2 then 4 + bNum b sz at_ 3 0 else if kHold k = true then bNum b sz at_ 3 0 else kWidth k
def uLow (x : Int) : Int := if x = 224 then 160 else if x = 240 then 144 else 128
def uHigh (x : Int) : Int := if x = 237 then 159 else if x = 244 then 143 else 191
def uRtN (b : Nat → Int) (sz : Nat) (at_ : Int) : Nat → Int → Int → Int → Bool
  | 0, _, _, _ => true
  | N + 1, k, lo, hi => if bGet b sz (at_ + k) < lo ∨ hi < bGet b sz (at_ + k) then false else uRtN b sz at_ N (k + 1) 128 191
def uRt (b : Nat → Int) (sz : Nat) (at_ n k lo hi : Int) : Bool := uRtN b sz at_ (n - k).toNat k lo hi
theorem uRt_end {b : Nat → Int} {sz : Nat} {at_ n k lo hi : Int} (h : n ≤ k) : uRt b sz at_ n k lo hi = true := by
  unfold uRt
  rw [show (n - k).toNat = 0 by omega]
  rfl
theorem uRt_step {b : Nat → Int} {sz : Nat} {at_ n k lo hi : Int} (h : k < n) : uRt b sz at_ n k lo hi = if bGet b sz (at_ + k) < lo ∨ hi < bGet b sz (at_ + k) then false else uRt b sz at_ n (k + 1) 128 191 := by
  unfold uRt
  rw [show (n - k).toNat = (n - (k + 1)).toNat + 1 by omega]
  rfl
def uRight (b : Nat → Int) (sz : Nat) (at_ n : Int) : Bool := uRt b sz at_ n 1 (uLow (bGet b sz at_)) (uHigh (bGet b sz at_))
def uFwN (b : Nat → Int) (sz : Nat) (to : Int) : Nat → Int → Int
  | 0, _ => -1
  | N + 1, at_ => if at_ < to then (if uLen (bGet b sz at_) = 0 ∨ to - at_ < uLen (bGet b sz at_) ∨ uRight b sz at_ (uLen (bGet b sz at_)) = false then at_ else uFwN b sz to N (at_ + uLen (bGet b sz at_))) else -1
def uFw (b : Nat → Int) (sz : Nat) (to k at_ : Int) : Int := uFwN b sz to (to - k).toNat at_
theorem uFw_end {b : Nat → Int} {sz : Nat} {to k at_ : Int} (h : to ≤ k ∨ to ≤ at_) : uFw b sz to k at_ = -1 := by
  unfold uFw
  cases hN : (to - k).toNat with
  | zero => rfl
  | succ N => exact if_neg (by omega)
theorem uFw_bad {b : Nat → Int} {sz : Nat} {to k at_ : Int} (h : k < to) (h2 : at_ < to) (h3 : uLen (bGet b sz at_) = 0 ∨ to - at_ < uLen (bGet b sz at_) ∨ uRight b sz at_ (uLen (bGet b sz at_)) = false) : uFw b sz to k at_ = at_ := by
  unfold uFw
  rw [show (to - k).toNat = (to - (k + 1)).toNat + 1 by omega]
  unfold uFwN
  rw [if_pos h2, if_pos h3]
theorem uFw_step {b : Nat → Int} {sz : Nat} {to k at_ : Int} (h : k < to) (h2 : at_ < to) (h3 : ¬ (uLen (bGet b sz at_) = 0 ∨ to - at_ < uLen (bGet b sz at_) ∨ uRight b sz at_ (uLen (bGet b sz at_)) = false)) : uFw b sz to k at_ = uFw b sz to (k + 1) (at_ + uLen (bGet b sz at_)) := by
  unfold uFw
  rw [show (to - k).toNat = (to - (k + 1)).toNat + 1 by omega]
  conv => lhs; unfold uFwN
  rw [if_pos h2, if_neg h3]
/-- the first wrong byte from 'fr' on and ahead of 'to', or -1 -/
def uWrong (b : Nat → Int) (sz : Nat) (fr to : Int) : Int := uFw b sz to fr fr
/-! NODES: a table T of columns (0 kinds, 1 parents, 2 depths, 3 names, 4 values, 5 lengths, 6 counts), cnt rows of it -/
def nCell (T : Nat → Nat → Int) (cnt c : Nat) (x : Int) : Int := if 0 ≤ x ∧ x < cnt then T c x.toNat else -1
theorem nCell_in {T : Nat → Nat → Int} {cnt c : Nat} {x : Int} (h : 0 ≤ x ∧ x < cnt) : nCell T cnt c x = T c x.toNat := if_pos h
theorem nCell_out {T : Nat → Nat → Int} {cnt c : Nat} {x : Int} (h : ¬ (0 ≤ x ∧ x < cnt)) : nCell T cnt c x = -1 := if_neg h
theorem nCell_r {T : Nat → Nat → Int} {cnt : Nat} (hT : ∀ c x, -1000000 ≤ T c x ∧ T c x ≤ 1000000) (c : Nat) (x : Int) : -1000000 ≤ nCell T cnt c x ∧ nCell T cnt c x ≤ 1000000 := by
  unfold nCell
  have := hT c x.toNat
  split <;> omega
def nBehN (T : Nat → Nat → Int) (cnt : Nat) (nd : Int) : Nat → Int → Int
  | 0, _ => cnt
  | N + 1, k => if nCell T cnt 1 k < nd then k else nBehN T cnt nd N (k + 1)
def nBehF (T : Nat → Nat → Int) (cnt : Nat) (nd k : Int) : Int := nBehN T cnt nd (cnt - k).toNat k
theorem nBehF_end {T : Nat → Nat → Int} {cnt : Nat} {nd k : Int} (h : cnt ≤ k) : nBehF T cnt nd k = cnt := by
  unfold nBehF
  rw [show (cnt - k).toNat = 0 by omega]
  rfl
theorem nBehF_step {T : Nat → Nat → Int} {cnt : Nat} {nd k : Int} (h : k < cnt) : nBehF T cnt nd k = if nCell T cnt 1 k < nd then k else nBehF T cnt nd (k + 1) := by
  unfold nBehF
  rw [show ((cnt : Int) - k).toNat = (cnt - (k + 1)).toNat + 1 by omega]
  rfl
def nBeh (T : Nat → Nat → Int) (cnt : Nat) (nd : Int) : Int := nBehF T cnt nd (nd + 1)
theorem nBehF_r {T : Nat → Nat → Int} {cnt : Nat} {nd : Int} : ∀ (N : Nat) (k : Int), (cnt - k).toNat = N → nBehF T cnt nd k ≤ cnt ∧ (k ≤ nBehF T cnt nd k ∨ nBehF T cnt nd k = cnt) := by
  intro N
  induction N with
  | zero => intro k h; rw [nBehF_end (by omega)]; omega
  | succ N ih =>
    intro k h
    rw [nBehF_step (by omega)]
    have := ih (k + 1) (by omega)
    split <;> omega
theorem nBeh_r (T : Nat → Nat → Int) (cnt : Nat) (nd : Int) : nBeh T cnt nd ≤ cnt ∧ (nd + 1 ≤ nBeh T cnt nd ∨ nBeh T cnt nd = cnt) := nBehF_r _ _ rfl
def nLast (T : Nat → Nat → Int) (cnt : Nat) (nd : Int) : Int := nCell T cnt 4 nd + nCell T cnt 5 nd - 1
def nNameLen (T : Nat → Nat → Int) (cnt : Nat) (nd : Int) : Int := nCell T cnt 4 nd - 1 - nCell T cnt 3 nd
def nTextLen (T : Nat → Nat → Int) (cnt : Nat) (nd : Int) : Int := if nCell T cnt 0 nd = 2 then nCell T cnt 5 nd - 5 else 0
def nNext (T : Nat → Nat → Int) (cnt : Nat) (nd : Int) : Int := if nBeh T cnt nd < cnt ∧ nCell T cnt 1 (nBeh T cnt nd) = nCell T cnt 1 nd then nBeh T cnt nd else -1
def nDeepN (T : Nat → Nat → Int) (cnt : Nat) : Nat → Int → Int → Int
  | 0, _, acc => acc
  | N + 1, k, acc => nDeepN T cnt N (k + 1) (if acc < nCell T cnt 2 k then nCell T cnt 2 k else acc)
def nDeepF (T : Nat → Nat → Int) (cnt : Nat) (en k acc : Int) : Int := nDeepN T cnt (en - k).toNat k acc
theorem nDeepF_end {T : Nat → Nat → Int} {cnt : Nat} {en k acc : Int} (h : en ≤ k) : nDeepF T cnt en k acc = acc := by
  unfold nDeepF
  rw [show (en - k).toNat = 0 by omega]
  rfl
theorem nDeepF_step {T : Nat → Nat → Int} {cnt : Nat} {en k acc : Int} (h : k < en) : nDeepF T cnt en k acc = nDeepF T cnt en (k + 1) (if acc < nCell T cnt 2 k then nCell T cnt 2 k else acc) := by
  unfold nDeepF
  rw [show (en - k).toNat = (en - (k + 1)).toNat + 1 by omega]
  rfl
def nDeep (T : Nat → Nat → Int) (cnt : Nat) (nd : Int) : Int := nDeepF T cnt (nBeh T cnt nd) (nd + 1) (nCell T cnt 2 nd)
theorem nDeepF_r {T : Nat → Nat → Int} {cnt : Nat} (hT : ∀ c x, -1000000 ≤ T c x ∧ T c x ≤ 1000000) {en : Int} : ∀ (N : Nat) (k acc : Int), (en - k).toNat = N → -1000000 ≤ acc ∧ acc ≤ 1000000 → -1000000 ≤ nDeepF T cnt en k acc ∧ nDeepF T cnt en k acc ≤ 1000000 := by
  intro N
  induction N with
  | zero => intro k acc h h2; rw [nDeepF_end (by omega)]; exact h2
  | succ N ih =>
    intro k acc h h2
    rw [nDeepF_step (by omega)]
    refine ih (k + 1) _ (by omega) ?_
    have := nCell_r (cnt := cnt) hT 2 k
    split <;> omega
theorem nDeep_r {T : Nat → Nat → Int} {cnt : Nat} (hT : ∀ c x, -1000000 ≤ T c x ∧ T c x ≤ 1000000) (nd : Int) : -1000000 ≤ nDeep T cnt nd ∧ nDeep T cnt nd ≤ 1000000 := nDeepF_r hT _ _ _ rfl (nCell_r hT 2 nd)
def nLevels (T : Nat → Nat → Int) (cnt : Nat) (nd : Int) : Int := nDeep T cnt nd - nCell T cnt 2 nd + bI (kHold (nCell T cnt 0 nd))
/-- is row k an element of nd with the name of n bytes at 'fr' of (b2, sz2)? (b, sz): the document's bytes -/
def nHit (T : Nat → Nat → Int) (cnt : Nat) (b : Nat → Int) (sz : Nat) (nd : Int) (b2 : Nat → Int) (sz2 : Nat) (fr n k : Int) : Bool := decide (nCell T cnt 1 k = nd) && (decide (nNameLen T cnt k = n) && bEq b sz (nCell T cnt 3 k) b2 sz2 fr n 0)
def nNamN (T : Nat → Nat → Int) (cnt : Nat) (b : Nat → Int) (sz : Nat) (nd : Int) (b2 : Nat → Int) (sz2 : Nat) (fr n : Int) : Nat → Int → Int
  | 0, _ => -1
  | N + 1, k => if nHit T cnt b sz nd b2 sz2 fr n k = true then k else nNamN T cnt b sz nd b2 sz2 fr n N (k + 1)
def nNamF (T : Nat → Nat → Int) (cnt : Nat) (b : Nat → Int) (sz : Nat) (nd : Int) (b2 : Nat → Int) (sz2 : Nat) (fr n k : Int) : Int := nNamN T cnt b sz nd b2 sz2 fr n (cnt - k).toNat k
theorem nNamF_end {T : Nat → Nat → Int} {cnt : Nat} {b : Nat → Int} {sz : Nat} {nd : Int} {b2 : Nat → Int} {sz2 : Nat} {fr n k : Int} (h : cnt ≤ k) : nNamF T cnt b sz nd b2 sz2 fr n k = -1 := by
  unfold nNamF
  rw [show (cnt - k).toNat = 0 by omega]
  rfl
theorem nNamF_step {T : Nat → Nat → Int} {cnt : Nat} {b : Nat → Int} {sz : Nat} {nd : Int} {b2 : Nat → Int} {sz2 : Nat} {fr n k : Int} (h : k < cnt) : nNamF T cnt b sz nd b2 sz2 fr n k = if nHit T cnt b sz nd b2 sz2 fr n k = true then k else nNamF T cnt b sz nd b2 sz2 fr n (k + 1) := by
  unfold nNamF
  rw [show ((cnt : Int) - k).toNat = (cnt - (k + 1)).toNat + 1 by omega]
  rfl
def nNamed (T : Nat → Nat → Int) (cnt : Nat) (b : Nat → Int) (sz : Nat) (nd : Int) (b2 : Nat → Int) (sz2 : Nat) (fr n : Int) : Int := nNamF T cnt b sz nd b2 sz2 fr n (nd + 1)
theorem zne {x : Bool} (h : x = false) : ¬ x = true := by rw [h]; decide
theorem zee {x : Bool} (h : ¬ x = false) : x = true := by cases x <;> simp_all
theorem nHit_t {T : Nat → Nat → Int} {cnt : Nat} {b : Nat → Int} {sz : Nat} {nd : Int} {b2 : Nat → Int} {sz2 : Nat} {fr n k : Int} (h1 : nCell T cnt 1 k = nd) (h2 : nNameLen T cnt k = n) (h3 : bEq b sz (nCell T cnt 3 k) b2 sz2 fr n 0 = true) : nHit T cnt b sz nd b2 sz2 fr n k = true := by
  unfold nHit
  rw [decide_eq_true h1, decide_eq_true h2, h3]; rfl
theorem nHit_f {T : Nat → Nat → Int} {cnt : Nat} {b : Nat → Int} {sz : Nat} {nd : Int} {b2 : Nat → Int} {sz2 : Nat} {fr n k : Int} (h : ¬ nCell T cnt 1 k = nd ∨ ¬ nNameLen T cnt k = n ∨ bEq b sz (nCell T cnt 3 k) b2 sz2 fr n 0 = false) : ¬ nHit T cnt b sz nd b2 sz2 fr n k = true := by
  unfold nHit
  rcases h with h | h | h
  · rw [decide_eq_false h]; simp
  · rw [decide_eq_false h]; simp
  · rw [h]; simp
theorem mx_i {a b : Int} (ha : -2147483648 ≤ a ∧ a < 2147483648) (hb : -2147483648 ≤ b ∧ b < 2147483648) : (if iI a < iI b then iI b else iI a) = iI (if a < b then b else a) := by
  by_cases h : a < b
  · rw [if_pos h, if_pos ((iI_lt ha hb).mpr h)]
  · rw [if_neg h, if_neg (fun q => h ((iI_lt ha hb).mp q))]
theorem bPut_in {b : Nat → Int} {sz : Nat} {a v : Int} (h : 0 ≤ a ∧ a < sz) : bPut b sz a v = va_up b a.toNat (v % 256) := if_pos h
theorem bPut_out {b : Nat → Int} {sz : Nat} {a v : Int} (h : ¬ (0 ≤ a ∧ a < sz)) : bPut b sz a v = b := if_neg h
theorem up_r {b : Nat → Int} (hb : ∀ x, 0 ≤ b x ∧ b x < 256) (k : Nat) (v : Int) : ∀ x, 0 ≤ va_up b k (v % 256) x ∧ va_up b k (v % 256) x < 256 := by
  intro x
  have := hb x
  unfold va_up
  split <;> omega
theorem up_z {b : Nat → Int} {n : Nat} (hb : ∀ x, n ≤ x → b x = 0) {k : Nat} (hk : k < n) (v : Int) : ∀ x, n ≤ x → va_up b k v x = 0 := by
  intro x hx
  rw [va_up_ne _ _ (by omega)]
  exact hb x hx
theorem cpy_r {f b : Nat → Int} (hf : ∀ x, 0 ≤ f x ∧ f x < 256) (hb : ∀ x, 0 ≤ b x ∧ b x < 256) (sp dp n : Nat) : ∀ x, 0 ≤ va_cpy f b sp dp n x ∧ va_cpy f b sp dp n x < 256 := by
  intro x
  unfold va_cpy
  split
  · exact hf _
  · exact hb x
theorem cpy_z {f b : Nat → Int} {n : Nat} (hb : ∀ x, n ≤ x → b x = 0) {sp dp m : Nat} (h : dp + m ≤ n) : ∀ x, n ≤ x → va_cpy f b sp dp m x = 0 := by
  intro x hx
  rw [pk_cpy_out (by omega)]
  exact hb x hx
theorem bPut_r {b : Nat → Int} (hb : ∀ x, 0 ≤ b x ∧ b x < 256) (sz : Nat) (a v : Int) : ∀ x, 0 ≤ bPut b sz a v x ∧ bPut b sz a v x < 256 := by
  unfold bPut
  split
  · exact up_r hb _ _
  · exact hb
/-- openGap, cut and putFrom, where they may -/
def bGap (b : Nat → Int) (sz : Nat) (a n : Int) : Nat → Int := va_cpy b b a.toNat (a + n).toNat (sz - a).toNat
def bCut (b : Nat → Int) (sz : Nat) (a n : Int) : Nat → Int := va_cpy b b (a + n).toNat a.toNat (sz - a - n).toNat
def bCopy (b b2 : Nat → Int) (a fr n : Int) : Nat → Int := va_cpy b2 b fr.toNat a.toNat n.toNat
def bApp (b : Nat → Int) (sz : Nat) (b2 : Nat → Int) (fr n : Int) : Nat → Int := bCopy (bGap b sz sz n) b2 sz fr n
def bAppNum (b : Nat → Int) (sz : Nat) (v w : Int) : Nat → Int := bPn (sz + w.toNat) sz v w 0 (bGap b sz sz w)
/-- four bytes, the highest first -/
def bHfN (sz : Nat) (at_ v : Int) : Nat → Int → (Nat → Int) → Nat → Int
  | 0, _, b => b
  | N + 1, k, b => bHfN sz at_ v N (k + 1) (bPut b sz (at_ + k) (v / 2 ^ (24 - 8 * k).toNat))
def bHf (sz : Nat) (at_ v k : Int) (b : Nat → Int) : Nat → Int := bHfN sz at_ v (4 - k).toNat k b
theorem bHf_end {sz : Nat} {at_ v k : Int} {b : Nat → Int} (h : 4 ≤ k) : bHf sz at_ v k b = b := by
  unfold bHf
  rw [show (4 - k).toNat = 0 by omega]
  rfl
theorem bHf_step {sz : Nat} {at_ v k : Int} {b : Nat → Int} (h : k < 4) : bHf sz at_ v k b = bHf sz at_ v (k + 1) (bPut b sz (at_ + k) (v / 2 ^ (24 - 8 * k).toNat)) := by
  unfold bHf
  rw [show (4 - k).toNat = (4 - (k + 1)).toNat + 1 by omega]
  rfl
def bAppHf (b : Nat → Int) (sz : Nat) (v : Int) : Nat → Int := bHf (sz + 4) sz v 0 (bGap b sz sz 4)
/-- a row more: kind k, parent pa, name at nm, value at va, of vl bytes -/
def nApp (T : Nat → Nat → Int) (cnt : Nat) (k pa nm va vl : Int) : Nat → Nat → Int := fun co x =>
  if x = cnt then (if co = 0 then k else if co = 1 then pa else if co = 2 then bI (kHold k) + (if 0 ≤ pa ∧ pa < cnt then T 2 pa.toNat else 0) else if co = 3 then nm else if co = 4 then va else if co = 5 then vl else 0)
  else if co = 6 ∧ 0 ≤ pa ∧ pa < cnt ∧ x = pa.toNat then T 6 x + 1 else T co x
def nInv (T : Nat → Nat → Int) (cnt : Nat) : Prop := (∀ x, T 2 x ≤ x + 1) ∧ (∀ x : Nat, x < cnt → T 6 x ≤ cnt - 1 - x) ∧ ∀ x, 0 ≤ T 6 x
theorem nApp_eq {T : Nat → Nat → Int} {cnt : Nat} {k pa nm va vl : Int} :
    (∀ x, va_up (T 0) cnt k x = nApp T cnt k pa nm va vl 0 x) ∧ (∀ x, va_up (T 1) cnt pa x = nApp T cnt k pa nm va vl 1 x) ∧ (∀ x, va_up (T 3) cnt nm x = nApp T cnt k pa nm va vl 3 x) ∧ (∀ x, va_up (T 4) cnt va x = nApp T cnt k pa nm va vl 4 x) ∧ ∀ x, va_up (T 5) cnt vl x = nApp T cnt k pa nm va vl 5 x := by
  refine ⟨?_, ?_, ?_, ?_, ?_⟩ <;> (intro x; unfold va_up nApp; by_cases h : x = cnt <;> simp [h])
theorem nApp_eq2 {T : Nat → Nat → Int} {cnt : Nat} {k pa nm va vl z : Int} (hz : z = bI (kHold k)) (hp : ¬ (0 ≤ pa ∧ pa < cnt)) : (∀ x, va_up (T 2) cnt z x = nApp T cnt k pa nm va vl 2 x) ∧ ∀ x, va_up (T 6) cnt 0 x = nApp T cnt k pa nm va vl 6 x := by
  refine ⟨?_, ?_⟩ <;> intro x <;> unfold va_up nApp
  · rw [if_neg hp, hz]; by_cases h : x = cnt <;> simp [h]
  · by_cases h : x = cnt
    · simp [h]
    · rw [if_neg h, if_neg h, if_neg (by omega)]
theorem nApp_eq3 {T : Nat → Nat → Int} {cnt : Nat} {k pa nm va vl z : Int} (hz : z = bI (kHold k)) (hp : 0 ≤ pa ∧ pa < cnt) : (∀ x, va_up (va_up (T 2) cnt z) cnt (va_up (T 2) cnt z cnt + va_up (T 2) cnt z pa.toNat) x = nApp T cnt k pa nm va vl 2 x) ∧ ∀ x, va_up (va_up (T 6) cnt 0) pa.toNat (va_up (T 6) cnt 0 pa.toNat + 1) x = nApp T cnt k pa nm va vl 6 x := by
  have hne : pa.toNat ≠ cnt := by omega
  refine ⟨?_, ?_⟩ <;> intro x
  · rw [va_up_self, va_up_ne _ _ hne]
    unfold va_up nApp
    rw [if_pos hp, hz]; by_cases h : x = cnt <;> simp [h]
  · rw [va_up_ne _ _ hne]
    unfold va_up nApp
    by_cases h : x = cnt
    · subst h
      rw [if_neg (by omega)]
      simp
    · by_cases h2 : x = pa.toNat
      · rw [if_pos h2, if_neg h, if_pos ⟨rfl, hp.1, hp.2, h2⟩, h2]
      · rw [if_neg h2, if_neg h, if_neg h, if_neg (fun q => h2 q.2.2.2)]
theorem nApp_r {T : Nat → Nat → Int} {cnt : Nat} {k pa nm va vl : Int} (hc : cnt < 700) (hT : ∀ co x, -1000000 ≤ T co x ∧ T co x ≤ 1000000) (hI : nInv T cnt) (h0 : -1000000 ≤ k ∧ k ≤ 1000000) (h1 : -1000000 ≤ pa ∧ pa ≤ 1000000) (h2 : -1000000 ≤ nm ∧ nm ≤ 1000000) (h3 : -1000000 ≤ va ∧ va ≤ 1000000) (h4 : -1000000 ≤ vl ∧ vl ≤ 1000000) : ∀ co x, -1000000 ≤ nApp T cnt k pa nm va vl co x ∧ nApp T cnt k pa nm va vl co x ≤ 1000000 := by
  intro co x
  have hb := bI_r (kHold k)
  unfold nApp
  by_cases h : x = cnt
  · rw [if_pos h]
    by_cases p : 0 ≤ pa ∧ pa < cnt
    · have := hI.1 pa.toNat
      have := hT 2 pa.toNat
      rw [if_pos p]
      (repeat' split) <;> omega
    · rw [if_neg p]
      (repeat' split) <;> omega
  · rw [if_neg h]
    by_cases p : co = 6 ∧ 0 ≤ pa ∧ pa < cnt ∧ x = pa.toNat
    · rw [if_pos p]
      have := hI.2.1 x (by omega)
      have := hT 6 x
      omega
    · rw [if_neg p]; exact hT co x
theorem nApp_inv {T : Nat → Nat → Int} {cnt : Nat} {k pa nm va vl : Int} (hI : nInv T cnt) : nInv (nApp T cnt k pa nm va vl) (cnt + 1) := by
  have hb := bI_r (kHold k)
  refine ⟨fun x => ?_, fun x hx => ?_, fun x => ?_⟩
  · unfold nApp
    by_cases h : x = cnt
    · rw [if_pos h]
      have := hI.1 pa.toNat
      by_cases p : 0 ≤ pa ∧ pa < cnt
      · simp only [if_pos p]
        simp
        omega
      · simp only [if_neg p]
        simp
        omega
    · rw [if_neg h, if_neg (by omega)]
      exact hI.1 x
  · unfold nApp
    by_cases h : x = cnt
    · rw [if_pos h]
      simp
      omega
    · rw [if_neg h]
      have := hI.2.1 x (by omega)
      split <;> omega
  · unfold nApp
    by_cases h : x = cnt
    · rw [if_pos h]; simp
    · rw [if_neg h]
      have := hI.2.2 x
      split <;> omega
theorem bFzN_r {b : Nat → Int} {sz : Nat} : ∀ (N : Nat) (k : Int), bFzN b sz N k = -1 ∨ (k ≤ bFzN b sz N k ∧ bFzN b sz N k < k + N) := by
  intro N
  induction N with
  | zero => intro k; exact Or.inl rfl
  | succ N ih =>
    intro k
    have := ih (k + 1)
    unfold bFzN
    split <;> omega
theorem bFz_r (b : Nat → Int) (sz : Nat) (k to : Int) : bFz b sz k to = -1 ∨ (k ≤ bFz b sz k to ∧ bFz b sz k to < to) := by
  rcases bFzN_r (b := b) (sz := sz) (to - k).toNat k with h | h
  · exact Or.inl h
  · unfold bFz
    by_cases h2 : k ≤ to
    · omega
    · rw [show (to - k).toNat = 0 by omega]; exact Or.inl rfl
theorem uFwN_r {b : Nat → Int} {sz : Nat} {to : Int} : ∀ (N : Nat) (t : Int), uFwN b sz to N t = -1 ∨ (t ≤ uFwN b sz to N t ∧ uFwN b sz to N t < to) := by
  intro N
  induction N with
  | zero => intro k; exact Or.inl rfl
  | succ N ih =>
    intro t
    have := ih (t + uLen (bGet b sz t))
    have := uLen_r (bGet b sz t)
    unfold uFwN
    split
    · split <;> omega
    · exact Or.inl rfl
theorem uWrong_r (b : Nat → Int) (sz : Nat) (fr to : Int) : uWrong b sz fr to = -1 ∨ (fr ≤ uWrong b sz fr to ∧ uWrong b sz fr to < to) := uFwN_r _ _
theorem bNum4 (b : Nat → Int) (sz : Nat) (a : Int) : bNum b sz a 3 0 = (((bGet b sz (a + 3) % 256) * 256 + bGet b sz (a + 2) % 256) * 256 + bGet b sz (a + 1) % 256) * 256 + bGet b sz (a + 0) % 256 := by
  unfold bNum
  rw [show ((3 : Int) + 1).toNat = 4 from rfl]
  simp [bNumN]
theorem bNum4_r (b : Nat → Int) (sz : Nat) (a : Int) : 0 ≤ bNum b sz a 3 0 ∧ bNum b sz a 3 0 < 4294967296 := by
  rw [bNum4]
  omega
/-! THE READER: its state is at, inside, fault, place, and the table -/
abbrev rS : Type := Int × Int × Int × Int × (Nat → Nat → Int) × Nat
def rLastB (b : Nat → Int) (sz : Nat) (ra ri rf rp : Int) (T : Nat → Nat → Int) (cnt : Nat) : rS :=
  if bGet b sz ra = 0 then (ra + 1, nCell T cnt 1 ri, rf, rp, T, cnt) else (ra, ri, 2, ra, T, cnt)
def rNameOk (b : Nat → Int) (sz : Nat) (ra ri e : Int) (T : Nat → Nat → Int) (cnt : Nat) : Bool :=
  if nCell T cnt 0 ri = 4 then bDec b sz ra (e - ra) (nCell T cnt 6 ri) else decide (nNamed T cnt b sz ri b sz ra (e - ra) = -1)
def rName (b : Nat → Int) (sz : Nat) (last ra ri rf rp : Int) (T : Nat → Nat → Int) (cnt : Nat) : rS :=
  if bFz b sz ra last = -1 then (ra, ri, 1, ra, T, cnt)
  else if ¬ uWrong b sz ra (bFz b sz ra last) = -1 then (ra, ri, 4, uWrong b sz ra (bFz b sz ra last), T, cnt)
  else if rNameOk b sz ra ri (bFz b sz ra last) T cnt = true then (bFz b sz ra last + 1, ri, rf, rp, T, cnt) else (ra, ri, 7, ra, T, cnt)
def rSize (b : Nat → Int) (sz : Nat) (k nm left ra ri rf rp : Int) (T : Nat → Nat → Int) (cnt : Nat) : rS :=
  if left < 4 then (ra, ri, 1, ra, T, cnt)
  else if bNum b sz ra 3 0 < 5 ∨ (ri = -1 ∧ bNum b sz ra 3 0 < left) then (ra, ri, 2, ra, T, cnt)
  else if left < bNum b sz ra 3 0 then (ra, ri, 1, ra, T, cnt)
  else if 16 ≤ nCell T cnt 2 ri then (ra, ri, 8, ra, T, cnt)
  else (ra + 4, cnt, rf, rp, nApp T cnt k ri nm ra (bNum b sz ra 3 0), cnt + 1)
def rText (b : Nat → Int) (sz : Nat) (left ra ri rf rp : Int) (T : Nat → Nat → Int) (cnt : Nat) : rS :=
  if left < 4 then (ra, ri, 1, ra, T, cnt)
  else if bNum b sz ra 3 0 < 1 then (ra, ri, 6, ra, T, cnt)
  else if left - 4 < bNum b sz ra 3 0 then (ra, ri, 1, ra, T, cnt)
  else if ¬ bGet b sz (ra + 4 + bNum b sz ra 3 0 - 1) = 0 then (ra, ri, 6, ra + 4 + bNum b sz ra 3 0 - 1, T, cnt)
  else if ¬ uWrong b sz (ra + 4) (ra + 4 + bNum b sz ra 3 0 - 1) = -1 then (ra, ri, 4, uWrong b sz (ra + 4) (ra + 4 + bNum b sz ra 3 0 - 1), T, cnt)
  else (ra + 4 + bNum b sz ra 3 0 - 1 + 1, ri, rf, rp, T, cnt)
def rNum (b : Nat → Int) (sz : Nat) (k left ra ri rf rp : Int) (T : Nat → Nat → Int) (cnt : Nat) : rS :=
  if left < kWidth k then (ra, ri, 1, ra, T, cnt)
  else if k = 8 ∧ 1 < bGet b sz ra then (ra, ri, 5, ra, T, cnt)
  else (ra + kWidth k, ri, rf, rp, T, cnt)
def rElem (b : Nat → Int) (sz : Nat) (last ra ri rf rp : Int) (T : Nat → Nat → Int) (cnt : Nat) : rS :=
  if kIs (bGet b sz ra) = false then (ra, ri, (if bGet b sz ra = 0 then 2 else 3), ra, T, cnt)
  else match rName b sz last (ra + 1) ri rf rp T cnt with
    | (a1, i1, f1, p1, _, _) =>
      if ¬ f1 = 0 then (a1, i1, f1, p1, T, cnt)
      else if kHold (bGet b sz ra) = true then rSize b sz (bGet b sz ra) (ra + 1) (last - a1) a1 i1 f1 p1 T cnt
      else match (if bGet b sz ra = 2 then rText b sz (last - a1) a1 i1 f1 p1 T cnt else rNum b sz (bGet b sz ra) (last - a1) a1 i1 f1 p1 T cnt) with
        | (a2, i2, f2, p2, _, _) => (a2, i2, f2, p2, nApp T cnt (bGet b sz ra) i2 (ra + 1) a1 (a2 - a1), cnt + 1)
theorem nNamN_r {T : Nat → Nat → Int} {cnt : Nat} {b : Nat → Int} {sz : Nat} {nd : Int} {b2 : Nat → Int} {sz2 : Nat} {fr n : Int} : ∀ (N : Nat) (k : Int), nNamN T cnt b sz nd b2 sz2 fr n N k = -1 ∨ (k ≤ nNamN T cnt b sz nd b2 sz2 fr n N k ∧ nNamN T cnt b sz nd b2 sz2 fr n N k < k + N) := by
  intro N
  induction N with
  | zero => intro k; exact Or.inl rfl
  | succ N ih =>
    intro k
    have := ih (k + 1)
    unfold nNamN
    split <;> omega
theorem nNamed_r (T : Nat → Nat → Int) (cnt : Nat) (b : Nat → Int) (sz : Nat) (nd : Int) (b2 : Nat → Int) (sz2 : Nat) (fr n : Int) : nNamed T cnt b sz nd b2 sz2 fr n = -1 ∨ (nd + 1 ≤ nNamed T cnt b sz nd b2 sz2 fr n ∧ nNamed T cnt b sz nd b2 sz2 fr n < cnt) := by
  rcases nNamN_r (T := T) (cnt := cnt) (b := b) (sz := sz) (nd := nd) (b2 := b2) (sz2 := sz2) (fr := fr) (n := n) (cnt - (nd + 1)).toNat (nd + 1) with h | h
  · exact Or.inl h
  · unfold nNamed nNamF
    by_cases h2 : nd + 1 ≤ cnt
    · omega
    · rw [show ((cnt : Int) - (nd + 1)).toNat = 0 by omega]; exact Or.inl rfl
