theorem znf {x : Bool} (h : x = true) : ¬ x = false := by rw [h]; decide
theorem rName_c (b : Nat → Int) (sz : Nat) (last ra ri rf rp : Int) (T : Nat → Nat → Int) (cnt : Nat) : ∃ a1 f1 p1 : Int, rName b sz last ra ri rf rp T cnt = (a1, ri, f1, p1, T, cnt) ∧ ((f1 = rf ∧ ra < a1 ∧ a1 ≤ last) ∨ (a1 = ra ∧ 1 ≤ f1 ∧ f1 ≤ 7)) := by
  have h1 := bFz_r b sz ra last
  unfold rName
  split
  · exact ⟨_, _, _, rfl, by omega⟩
  · split
    · exact ⟨_, _, _, rfl, by omega⟩
    · split
      · exact ⟨_, _, _, rfl, by omega⟩
      · exact ⟨_, _, _, rfl, by omega⟩
theorem rText_c (b : Nat → Int) (sz : Nat) (left ra ri rf rp : Int) (T : Nat → Nat → Int) (cnt : Nat) : ∃ a1 f1 p1 : Int, rText b sz left ra ri rf rp T cnt = (a1, ri, f1, p1, T, cnt) ∧ ((f1 = rf ∧ ra < a1 ∧ a1 ≤ ra + left) ∨ (a1 = ra ∧ 1 ≤ f1 ∧ f1 ≤ 7)) := by
  have h1 := bNum4_r b sz ra
  unfold rText
  split
  · exact ⟨_, _, _, rfl, by omega⟩
  · split
    · exact ⟨_, _, _, rfl, by omega⟩
    · split
      · exact ⟨_, _, _, rfl, by omega⟩
      · split
        · exact ⟨_, _, _, rfl, by omega⟩
        · split
          · exact ⟨_, _, _, rfl, by omega⟩
          · exact ⟨_, _, _, rfl, by omega⟩
theorem rNum_c (b : Nat → Int) (sz : Nat) (k left ra ri rf rp : Int) (T : Nat → Nat → Int) (cnt : Nat) : ∃ a1 f1 p1 : Int, rNum b sz k left ra ri rf rp T cnt = (a1, ri, f1, p1, T, cnt) ∧ ((f1 = rf ∧ ra ≤ a1 ∧ a1 ≤ ra + left) ∨ (a1 = ra ∧ 1 ≤ f1 ∧ f1 ≤ 7)) := by
  have h1 := kWidth_r k
  unfold rNum
  split
  · exact ⟨_, _, _, rfl, by omega⟩
  · split
    · exact ⟨_, _, _, rfl, by omega⟩
    · exact ⟨_, _, _, rfl, by omega⟩
def rStep (b : Nat → Int) (sz : Nat) (ra ri rf rp : Int) (T : Nat → Nat → Int) (cnt : Nat) : rS :=
  if nLast T cnt ri ≤ ra then rLastB b sz ra ri rf rp T cnt else rElem b sz (nLast T cnt ri) ra ri rf rp T cnt
def rGo (b : Nat → Int) (sz : Nat) : Nat → rS → rS
  | 0, s => s
  | N + 1, s => if s.2.2.1 = 0 ∧ 0 ≤ s.2.1 then rGo b sz N (rStep b sz s.1 s.2.1 s.2.2.1 s.2.2.2.1 s.2.2.2.2.1 s.2.2.2.2.2) else s
def rIn (s : rS) : Prop := (-1000 ≤ s.2.2.1 ∧ s.2.2.1 ≤ 1000) ∧ (-1000000 ≤ s.2.1 ∧ s.2.1 ≤ 1000000)
/-- what the reading's numbers keep to, as long as it goes on -/
def rGood (b : Nat → Int) (sz : Nat) : Nat → rS → Prop
  | 0, s => rIn s
  | N + 1, s => rIn s ∧ (s.2.2.1 = 0 ∧ 0 ≤ s.2.1 → ((0 ≤ s.1 ∧ s.1 ≤ 90000) ∧ s.2.1 < s.2.2.2.2.2 ∧ s.2.2.2.2.2 < 700 ∧ (0 ≤ nLast s.2.2.2.2.1 s.2.2.2.2.2 s.2.1 ∧ nLast s.2.2.2.2.1 s.2.2.2.2.2 s.2.1 ≤ 90000)) ∧ rGood b sz N (rStep b sz s.1 s.2.1 s.2.2.1 s.2.2.2.1 s.2.2.2.2.1 s.2.2.2.2.2))
def rStart (b : Nat → Int) (sz : Nat) (n : Int) (T : Nat → Nat → Int) : rS := rSize b sz 3 (-1) n 0 (-1) 0 (-1) T 0
theorem rGood_in {b : Nat → Int} {sz : Nat} {N : Nat} {s : rS} (h : rGood b sz N s) : rIn s := by
  cases N with
  | zero => exact h
  | succ N => exact h.1
theorem rGo_0 {b : Nat → Int} {sz : Nat} {N : Nat} {s : rS} (h : N = 0) : rGo b sz N s = s := by rw [h]; rfl
theorem rGo_e {b : Nat → Int} {sz : Nat} {N : Nat} {s : rS} (h : (s.2.2.1 = 0 ∧ 0 ≤ s.2.1) → False) : rGo b sz N s = s := by
  cases N with
  | zero => rfl
  | succ N => exact if_neg h
theorem rGo_s {b : Nat → Int} {sz : Nat} {N : Nat} {s : rS} (h : s.2.2.1 = 0 ∧ 0 ≤ s.2.1) : rGo b sz (N + 1) s = rGo b sz N (rStep b sz s.1 s.2.1 s.2.2.1 s.2.2.2.1 s.2.2.2.2.1 s.2.2.2.2.2) := if_pos h
