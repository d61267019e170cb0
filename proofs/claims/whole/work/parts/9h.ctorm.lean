/-! the reference's start: every slot the empty document -/
def mF0 : Nat → Int
  | 1 => -1 | _ => 0
def mA0 (k : Int) (q x : Nat) : Int := if q = 1 then (if (x : Int) < k then 5 else 0) else if q = 2 then (if x % 2000 = 0 ∧ (x : Int) < 2000 * k then 5 else 0) else 0
def mS0 : MS := (mA0 8, mF0)
theorem mA0_1 (k : Int) (x : Nat) : mA0 k 1 x = if (x : Int) < k then 5 else 0 := rfl
theorem mA0_2 (k : Int) (x : Nat) : mA0 k 2 x = if x % 2000 = 0 ∧ (x : Int) < 2000 * k then 5 else 0 := rfl
theorem mA0_o {k : Int} {q : Nat} (h1 : q ≠ 1) (h2 : q ≠ 2) (x : Nat) : mA0 k q x = 0 := by unfold mA0; rw [if_neg h1, if_neg h2]
theorem mA0_z (q x : Nat) : mA0 0 q x = 0 := by
  unfold mA0
  repeat' split
  all_goals omega
theorem mA0_s1 {k : Int} (h : 0 ≤ k) : (fun x => iI (va_up (mA0 k 1) k.toNat 5 x)) = fun x => iI (mA0 (k + 1) 1 x) := funext fun x => by
  congr 1
  unfold va_up
  rw [mA0_1, mA0_1]
  repeat' split
  all_goals omega
theorem mA0_s2 {k : Int} (h : 0 ≤ k) : (fun x => iI (va_up (mA0 k 2) (2000 * k).toNat 5 x)) = fun x => iI (mA0 (k + 1) 2 x) := funext fun x => by
  congr 1
  unfold va_up
  rw [mA0_2, mA0_2]
  repeat' split
  all_goals omega
theorem mA0_r (k : Int) (q x : Nat) : mlo q ≤ mA0 k q x ∧ mA0 k q x ≤ mhi q := by
  have h : mlo q ≤ 0 ∧ 5 ≤ mhi q := by
    unfold mlo mhi
    repeat' split
    all_goals omega
  have h2 : 0 ≤ mA0 k q x ∧ mA0 k q x ≤ 5 := by
    unfold mA0
    repeat' split
    all_goals omega
  omega
theorem mF0_r (j : Nat) : -1000000 ≤ mF0 j ∧ mF0 j ≤ 1000000 := by
  unfold mF0
  split <;> omega
