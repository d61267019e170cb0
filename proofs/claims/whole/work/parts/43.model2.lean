def mSlot (s : Int) : Bool := decide (0 ≤ s ∧ s < 8)
theorem mText_r {a last : Int} {S : MS} (hf : ∀ x, 0 ≤ S.a 3 x ∧ S.a 3 x ≤ 255) : a ≤ (mText a last S).1 ∧ ((mText a last S).1 ≤ a + 8 ∨ (mText a last S).1 ≤ last) := by
  unfold mText
  have hl := mLow4_r hf a
  by_cases h1 : last - a < 4
  · rw [if_pos h1]; dsimp only; omega
  · rw [if_neg h1]
    by_cases h2 : (mTxA a last S).f 5 = 0
    · rw [if_neg (fun z => z h2)]
      dsimp only
      by_cases h3 : last - a - 4 < mLow (S.a 3) a 4
      · exfalso
        revert h2
        unfold mTxA
        by_cases h4 : mLow (S.a 3) a 4 < 1
        · rw [if_pos h4]; exact mStop_nz (by decide)
        · rw [if_neg h4, if_pos h3]; exact mStop_nz (by decide)
      · omega
    · rw [if_pos h2]; dsimp only; omega
theorem mValue_r {k a last : Int} {S : MS} (hf : ∀ x, 0 ≤ S.a 3 x ∧ S.a 3 x ≤ 255) : a ≤ (mValue k a last S).1 ∧ ((mValue k a last S).1 ≤ a + 8 ∨ (mValue k a last S).1 ≤ last) := by
  unfold mValue
  by_cases h1 : k = 16 ∨ k = 18 ∨ k = 8
  · rw [if_pos h1]
    dsimp only
    unfold mWid
    (repeat' split) <;> omega
  · rw [if_neg h1]
    by_cases h2 : k = 2
    · rw [if_pos h2]; exact mText_r hf
    · rw [if_neg h2]; dsimp only; omega
