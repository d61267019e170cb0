theorem dob_keep {L L1 : Nat → Nat} {κ κ1 : Nat → Option va_E} {scn fpl : Int} (h : dob L κ scn fpl) (hk : κ1 0 = κ 0) (h2 : L1 2 = L 2) (h1 : L1 1 = L 1) (h4 : L1 4 = L 4) (h6 : L1 6 = L 6) (h14 : L1 14 = L 14) : dob L1 κ1 scn fpl := by
  unfold dob
  rw [hk, h2, h1, h4, h6, h14]
  exact h
theorem rds_keep {L L1 : Nat → Nat} {κ κ1 : Nat → Option va_E} {ra ri rf rp : Int} (h : rds L κ ra ri rf rp) (hk : κ1 14 = κ 14) (h6 : L1 6 = L 6) (h2 : L1 2 = L 2) : rds L1 κ1 ra ri rf rp := by
  unfold rds
  rw [hk, h6, h2]
  exact h
/-- the whole object: scanned, fault place; the tape; fresh; the table; the slots -/
def dbs (g : Nat → ClassId) (L : Nat → Nat) (κ : Nat → Option va_E) (scn fpl : Int) (zT : Nat) (bT : Nat → Int) (zF : Nat) (bF : Nat → Int) (T : Nat → Nat → Int) (cnt d : Nat) (zS : Nat → Nat) (bS : Nat → Nat → Int) : Prop :=
  dob L κ scn fpl ∧ (∃ fA : Nat → Option Nat, κ 1 = some (.inl (g 2, 8, .inr (.inr (.inr (.inr fA))))) ∧ ∀ k, k < 8 → fA k = some (L (16 + 2 * k))) ∧ (∃ nT, bxs g L κ 2 3 2000 nT zT bT) ∧ (∃ nF, bxs g L κ 4 5 2005 nF zF bF) ∧ nds g L κ T cnt d ∧ (∃ ra ri rf rp, rds L κ ra ri rf rp) ∧ (∃ nS : Nat → Nat, ∀ k, k < 8 → bxs g L κ (16 + 2 * k) (17 + 2 * k) 2000 (nS k) (zS k) (bS k)) ∧ (0 ≤ scn → d = 16 + 2 * scn.toNat) ∧ (d = 2 ∨ ∃ k, k < 8 ∧ d = 16 + 2 * k)
def dTab (scn s : Int) (T : Nat → Nat → Int) (cnt d : Nat) (zS : Nat → Nat) (bS : Nat → Nat → Int) : Int × (Nat → Nat → Int) × Nat × Nat :=
  if (0 ≤ s ∧ s < 8) ∧ ¬ scn = s then (s, (scAll (bS s.toNat) (zS s.toNat) T).2.2.1, (scAll (bS s.toNat) (zS s.toNat) T).2.2.2, 16 + 2 * s.toNat) else (scn, T, cnt, d)
def dHas (s x : Int) (cnt : Nat) : Bool := decide ((0 ≤ s ∧ s < 8) ∧ 0 ≤ x ∧ x < cnt)
theorem dHas_iff {s x : Int} {cnt : Nat} : dHas s x cnt = true ↔ ((0 ≤ s ∧ s < 8) ∧ 0 ≤ x ∧ x < cnt) := decide_eq_true_iff
theorem dHas_ff {s x : Int} {cnt : Nat} : dHas s x cnt = false ↔ ¬ ((0 ≤ s ∧ s < 8) ∧ 0 ≤ x ∧ x < cnt) := decide_eq_false_iff_not
/-- what hasNode needs of the slot that it scans -/
def dOK (scn s : Int) (T : Nat → Nat → Int) (zS : Nat → Nat) (bS : Nat → Nat → Int) : Prop := (0 ≤ s ∧ s < 8) → ¬ scn = s → scGood (bS s.toNat) (zS s.toNat) 2000 (scStart (zS s.toNat) T)
theorem dTab_r {scn s a : Int} {T T1 : Nat → Nat → Int} {cnt d c1 d1 : Nat} {zS : Nat → Nat} {bS : Nat → Nat → Int} (h : dTab scn s T cnt d zS bS = (a, T1, c1, d1)) (hs : -1 ≤ scn ∧ scn < 8) : -1 ≤ a ∧ a < 8 := by
  unfold dTab at h
  split at h
  · cases h; omega
  · cases h; exact hs
def dMay (s x : Int) (T : Nat → Nat → Int) (cnt : Nat) : Bool := dHas s x cnt && kHold (nCell T cnt 0 x)
theorem dTab_d {scn s a : Int} {T T1 : Nat → Nat → Int} {cnt d c1 d1 : Nat} {zS : Nat → Nat} {bS : Nat → Nat → Int} (h : dTab scn s T cnt d zS bS = (a, T1, c1, d1)) (hs : 0 ≤ s ∧ s < 8) (hd : 0 ≤ scn → d = 16 + 2 * scn.toNat) : a = s ∧ d1 = 16 + 2 * s.toNat := by
  unfold dTab at h
  split at h
  · cases h; exact ⟨rfl, rfl⟩
  · rename_i hn
    obtain ⟨h1, h2⟩ := Prod.mk.inj h
    obtain ⟨-, h3⟩ := Prod.mk.inj h2
    obtain ⟨-, h4⟩ := Prod.mk.inj h3
    have hs2 : scn = s := by omega
    exact ⟨by omega, by rw [← h4, hd (by omega), hs2]⟩
theorem nTextLen_r {T : Nat → Nat → Int} {cnt : Nat} (hT : ∀ co x, -1000000 ≤ T co x ∧ T co x ≤ 1000000) (x : Int) : -1000005 ≤ nTextLen T cnt x ∧ nTextLen T cnt x ≤ 1000000 := by
  have := nCell_r (cnt := cnt) hT 5 x
  unfold nTextLen
  split <;> omega
def dMany (s w : Int) (T : Nat → Nat → Int) (cnt : Nat) (zS : Nat → Nat) : Int := if dHas s 0 cnt = true then (if w = 0 then (zS s.toNat : Int) else if w = 1 then (cnt : Int) else if w = 2 then nDeep T cnt 0 else -1) else -1
def dByte (s i : Int) (zS : Nat → Nat) (bS : Nat → Nat → Int) : Int := if dSlot s = true then bGet (bS s.toNat) (zS s.toNat) i else -1
def dLook (s x w : Int) (T : Nat → Nat → Int) (cnt : Nat) : Int := if dHas s x cnt = true then (if w = 0 then nCell T cnt 0 x else if w = 1 then nCell T cnt 1 x else if w = 2 then (if 0 < nCell T cnt 6 x then x + 1 else -1) else if w = 3 then nNext T cnt x else if w = 4 then nNameLen T cnt x else if w = 5 then nCell T cnt 5 x else if w = 6 then nTextLen T cnt x else if w = 7 then nCell T cnt 6 x else if w = 8 then nCell T cnt 2 x else -1) else -1
def dNumber (s x : Int) (T : Nat → Nat → Int) (cnt : Nat) (zS : Nat → Nat) (bS : Nat → Nat → Int) : Int := if dHas s x cnt = true then (if nCell T cnt 0 x = 16 then (bNum (bS s.toNat) (zS s.toNat) (nCell T cnt 4 x) (kWidth (nCell T cnt 0 x) - 1) 0 + 2147483648) % 4294967296 - 2147483648 else bNum (bS s.toNat) (zS s.toNat) (nCell T cnt 4 x) (kWidth (nCell T cnt 0 x) - 1) 0) else 0
def dLetter (s x : Int) (tx : Bool) (i : Int) (T : Nat → Nat → Int) (cnt : Nat) (zS : Nat → Nat) (bS : Nat → Nat → Int) : Int := if dHas s x cnt = true ∧ 0 ≤ i then (if tx = true then (if i < nTextLen T cnt x then bGet (bS s.toNat) (zS s.toNat) (nCell T cnt 4 x + 4 + i) else -1) else (if i < nNameLen T cnt x then bGet (bS s.toNat) (zS s.toNat) (nCell T cnt 3 x + i) else -1)) else -1
def dFind (s x n : Int) (T : Nat → Nat → Int) (cnt : Nat) (zT : Nat) (bT : Nat → Int) (zS : Nat → Nat) (bS : Nat → Nat → Int) : Int := if dHas s x cnt = true then nNamed T cnt (bS s.toNat) (zS s.toNat) x bT zT 0 n else -1
