/-! PURE 10: bytes that lie elsewhere are read alike -/
def sEq (f h : Nat → Int) (a to d : Int) : Prop := ∀ x : Int, a ≤ x → x < to → h (x + d).toNat = f x.toNat
theorem sEq_sub {f h : Nat → Int} {a to d a2 to2 : Int} (e : sEq f h a to d) (h1 : a ≤ a2) (h2 : to2 ≤ to) : sEq f h a2 to2 d := fun x p q => e x (by omega) (by omega)
theorem mChN_sh {f h : Nat → Int} {a to d n : Int} (e : sEq f h a to d) : ∀ (N : Nat) (k v : Int), 0 ≤ k → a + k + N ≤ to → mChN h (a + d) n N k v = mChN f a n N k v := by
  intro N
  induction N with
  | zero => intro k v _ _; rfl
  | succ N ih =>
    intro k v h1 h2
    unfold mChN
    rw [show a + d + k = a + k + d by omega, e (a + k) (by omega) (by omega), ih (k + 1) _ (by omega) (by omega)]
theorem mChar_sh {f h : Nat → Int} {a to d : Int} (e : sEq f h a to d) (h1 : a < to) : mChar h (a + d) (to + d) = mChar f a to := by
  unfold mChar
  rw [e a (Int.le_refl a) h1]
  by_cases c1 : f a.toNat < 128
  · rw [if_pos c1, if_pos c1]
  · rw [if_neg c1, if_neg c1]
    by_cases c2 : mLen (f a.toNat) = 0 ∨ to < a + mLen (f a.toNat)
    · rw [if_pos c2, if_pos (by omega)]
    · have := mLen_r (f a.toNat)
      rw [if_neg c2, if_neg (by omega), mChN_sh e _ _ _ (by omega) (by omega)]
theorem mBadN_sh {f h : Nat → Int} {a to d : Int} (e : sEq f h a to d) (h0 : 0 ≤ a) (hd : 0 ≤ a + d) : ∀ (N : Nat) (k : Int), a ≤ k → (mBadN h (to + d) N (k + d) = -1 ↔ mBadN f to N k = -1) := by
  intro N
  induction N with
  | zero => intro k _; exact ⟨fun _ => rfl, fun _ => rfl⟩
  | succ N ih =>
    intro k hk
    unfold mBadN
    by_cases c1 : k < to
    · rw [if_pos c1, if_pos (show k + d < to + d by omega), mChar_sh (sEq_sub e hk (Int.le_refl to)) c1]
      by_cases c2 : mChar f k to = 0
      · rw [if_pos c2, if_pos c2]
        omega
      · have := mChar_r f k to
        rw [if_neg c2, if_neg c2, show k + d + mChar f k to = k + mChar f k to + d by omega]
        exact ih (k + mChar f k to) (by omega)
    · rw [if_neg c1, if_neg (show ¬ k + d < to + d by omega)]
theorem mBad_sh {f h : Nat → Int} {a to d : Int} (e : sEq f h a to d) (h0 : 0 ≤ a) (hd : 0 ≤ a + d) : mBad h (a + d) (to + d) = -1 ↔ mBad f a to = -1 := by
  unfold mBad
  rw [show to + d - (a + d) = to - a by omega]
  exact mBadN_sh e h0 hd _ a (Int.le_refl a)
theorem mLowN_sh {f h : Nat → Int} {a to d : Int} (e : sEq f h a to d) : ∀ (N : Nat) (acc : Int), a + N ≤ to → mLowN h (a + d) N acc = mLowN f a N acc := by
  intro N
  induction N with
  | zero => intro acc _; rfl
  | succ N ih =>
    intro acc h2
    unfold mLowN
    rw [show a + d + (N : Int) = a + N + d by omega, e (a + N) (by omega) (by omega), ih _ (by omega)]
theorem mLow_sh {f h : Nat → Int} {a d w : Int} (hw : 0 ≤ w) (e : sEq f h a (a + w) d) : mLow h (a + d) w = mLow f a w := mLowN_sh e _ _ (by omega)
theorem mNumN_sh {f h : Nat → Int} {a to d v : Int} (e : sEq f h a to d) : ∀ (N : Nat) (k : Int), 0 ≤ k → a + k + N ≤ to → mNumN h (a + d) v N k = mNumN f a v N k := by
  intro N
  induction N with
  | zero => intro k _ _; rfl
  | succ N ih =>
    intro k h1 h2
    unfold mNumN
    rw [show a + d + k = a + k + d by omega, e (a + k) (by omega) (by omega), ih (k + 1) (by omega) (by omega)]
theorem mNum_sh {f h : Nat → Int} {a to d v : Int} (e : sEq f h a to d) : mNum h (a + d) (to + d) v = mNum f a to v := by
  unfold mNum
  rw [show to + d - (a + d) = to - a by omega]
  by_cases c : to - a = bDigits v
  · have := bDigits_r v
    rw [if_neg (fun w => w c), if_neg (fun w => w c), mNumN_sh e _ _ (by omega) (by omega)]
  · rw [if_pos c, if_pos c]
