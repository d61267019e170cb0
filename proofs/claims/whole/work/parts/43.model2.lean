def mSlot (s : Int) : Bool := decide (0 ≤ s ∧ s < 8)
