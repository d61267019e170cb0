/-! PURE 1: bytes (b, sz) of the program and f of the reference, alike on the first sz -/
def pA (b : Nat → Int) (sz nn : Nat) (f : Nat → Int) : Prop := (nn ≤ sz ∧ ∀ x : Nat, x < nn → b x = f x) ∧ (∀ x, 0 ≤ b x ∧ b x < 256) ∧ ∀ x, 0 ≤ f x ∧ f x ≤ 255
theorem pGet {b f : Nat → Int} {sz nn : Nat} (hA : pA b sz nn f) {a : Int} (h0 : 0 ≤ a) (h1 : a < nn) : bGet b sz a = f a.toNat := by
  have := hA.1.1
  rw [bGet_in h0 (by omega)]
  exact hA.1.2 _ (by omega)
theorem pNumN {b f : Nat → Int} {sz nn : Nat} (hA : pA b sz nn f) {a : Int} (h0 : 0 ≤ a) : ∀ (N : Nat) (acc : Int), a + N ≤ nn → bNumN b sz a N acc = mLowN f a N acc := by
  intro N
  induction N with
  | zero => intro acc _; rfl
  | succ N ih =>
    intro acc h
    show bNumN b sz a N (acc * 256 + bGet b sz (a + N) % 256) = mLowN f a N (acc * 256 + f (a + N).toNat)
    rw [pGet hA (by omega) (by omega)]
    have := hA.2.2 (a + N).toNat
    rw [Int.emod_eq_of_lt (by omega) (by omega)]
    exact ih _ (by omega)
theorem pNum {b f : Nat → Int} {sz nn : Nat} (hA : pA b sz nn f) {a w : Int} (h0 : 0 ≤ a) (hw : 0 ≤ w) (h : a + w ≤ nn) : bNum b sz a (w - 1) 0 = mLow f a w := by
  unfold bNum mLow
  rw [show (w - 1 + 1).toNat = w.toNat by omega]
  exact pNumN hA h0 _ _ (by omega)
theorem pNum4 {b f : Nat → Int} {sz nn : Nat} (hA : pA b sz nn f) {a : Int} (h0 : 0 ≤ a) (h : a + 4 ≤ nn) : bNum b sz a 3 0 = mLow f a 4 := pNum (w := 4) hA h0 (by omega) h
theorem pFz {b f : Nat → Int} {sz nn : Nat} (hA : pA b sz nn f) : ∀ (N : Nat) (k to : Int), (to - k).toNat = N → 0 ≤ k → k ≤ to → to ≤ nn → (bFz b sz k to = -1 ∧ mNz f to k = to) ∨ (bFz b sz k to = mNz f to k ∧ k ≤ mNz f to k ∧ mNz f to k < to ∧ f (mNz f to k).toNat = 0) := by
  intro N
  induction N with
  | zero =>
    intro k to hN h0 h1 h2
    rw [bFz_end (by omega), mNz_e (by omega)]
    omega
  | succ N ih =>
    intro k to hN h0 h1 h2
    rw [bFz_step (by omega), pGet hA h0 (by omega)]
    by_cases hz : f k.toNat = 0
    · rw [if_pos hz, mNz_e (Or.inr hz)]
      exact Or.inr ⟨rfl, by omega, by omega, hz⟩
    · rw [if_neg hz, mNz_s (by omega) hz]
      rcases ih (k + 1) to (by omega) (by omega) (by omega) h2 with h | h
      · exact Or.inl h
      · exact Or.inr ⟨h.1, by omega, h.2.2⟩
theorem uRight2 (b : Nat → Int) (sz : Nat) (a : Int) : uRight b sz a 2 = decide (¬ (bGet b sz (a + 1) < uLow (bGet b sz a) ∨ uHigh (bGet b sz a) < bGet b sz (a + 1))) := by
  unfold uRight
  rw [uRt_step (by omega), uRt_end (by omega)]
  by_cases h : bGet b sz (a + 1) < uLow (bGet b sz a) ∨ uHigh (bGet b sz a) < bGet b sz (a + 1)
  · rw [if_pos h, decide_eq_false (fun z => z h)]
  · rw [if_neg h, decide_eq_true h]
theorem uRight3 (b : Nat → Int) (sz : Nat) (a : Int) : uRight b sz a 3 = decide (¬ (bGet b sz (a + 1) < uLow (bGet b sz a) ∨ uHigh (bGet b sz a) < bGet b sz (a + 1) ∨ bGet b sz (a + 2) < 128 ∨ 191 < bGet b sz (a + 2))) := by
  unfold uRight
  rw [uRt_step (by omega), uRt_step (by omega), uRt_end (by omega)]
  show (if _ then false else if bGet b sz (a + 2) < 128 ∨ 191 < bGet b sz (a + 2) then false else true) = _
  by_cases h : bGet b sz (a + 1) < uLow (bGet b sz a) ∨ uHigh (bGet b sz a) < bGet b sz (a + 1)
  · rw [if_pos h, decide_eq_false (fun z => z (by omega))]
  · rw [if_neg h]
    by_cases h2 : bGet b sz (a + 2) < 128 ∨ 191 < bGet b sz (a + 2)
    · rw [if_pos h2, decide_eq_false (fun z => z (by omega))]
    · rw [if_neg h2, decide_eq_true (by omega)]
theorem uRight4 (b : Nat → Int) (sz : Nat) (a : Int) : uRight b sz a 4 = decide (¬ (bGet b sz (a + 1) < uLow (bGet b sz a) ∨ uHigh (bGet b sz a) < bGet b sz (a + 1) ∨ bGet b sz (a + 2) < 128 ∨ 191 < bGet b sz (a + 2) ∨ bGet b sz (a + 3) < 128 ∨ 191 < bGet b sz (a + 3))) := by
  unfold uRight
  rw [uRt_step (by omega), uRt_step (by omega), uRt_step (by omega), uRt_end (by omega)]
  show (if _ then false else if bGet b sz (a + 2) < 128 ∨ 191 < bGet b sz (a + 2) then false else if bGet b sz (a + 3) < 128 ∨ 191 < bGet b sz (a + 3) then false else true) = _
  by_cases h : bGet b sz (a + 1) < uLow (bGet b sz a) ∨ uHigh (bGet b sz a) < bGet b sz (a + 1)
  · rw [if_pos h, decide_eq_false (fun z => z (by omega))]
  · rw [if_neg h]
    by_cases h2 : bGet b sz (a + 2) < 128 ∨ 191 < bGet b sz (a + 2)
    · rw [if_pos h2, decide_eq_false (fun z => z (by omega))]
    · rw [if_neg h2]
      by_cases h3 : bGet b sz (a + 3) < 128 ∨ 191 < bGet b sz (a + 3)
      · rw [if_pos h3, decide_eq_false (fun z => z (by omega))]
      · rw [if_neg h3, decide_eq_true (by omega)]
/-- what a letter's numbers are -/
theorem mCh2 (f : Nat → Int) (a v : Int) : mChN f a 2 1 1 v = if f (a + 1).toNat < 128 ∨ 191 < f (a + 1).toNat then 0 else mChE 2 (64 * v + f (a + 1).toNat - 128) := rfl
theorem mCh3 (f : Nat → Int) (a v : Int) : mChN f a 3 2 1 v = if f (a + 1).toNat < 128 ∨ 191 < f (a + 1).toNat then 0 else if f (a + 2).toNat < 128 ∨ 191 < f (a + 2).toNat then 0 else mChE 3 (64 * (64 * v + f (a + 1).toNat - 128) + f (a + 2).toNat - 128) := rfl
theorem mCh4 (f : Nat → Int) (a v : Int) : mChN f a 4 3 1 v = if f (a + 1).toNat < 128 ∨ 191 < f (a + 1).toNat then 0 else if f (a + 2).toNat < 128 ∨ 191 < f (a + 2).toNat then 0 else if f (a + 3).toNat < 128 ∨ 191 < f (a + 3).toNat then 0 else mChE 4 (64 * (64 * (64 * v + f (a + 1).toNat - 128) + f (a + 2).toNat - 128) + f (a + 3).toNat - 128) := rfl
theorem mChE2 {v : Int} : mChE 2 v = if v < 128 ∨ 1114111 < v ∨ (55295 < v ∧ v < 57344) then 0 else 2 := rfl
theorem mChE3 {v : Int} : mChE 3 v = if v < 2048 ∨ 1114111 < v ∨ (55295 < v ∧ v < 57344) then 0 else 3 := rfl
theorem mChE4 {v : Int} : mChE 4 v = if v < 65536 ∨ 1114111 < v ∨ (55295 < v ∧ v < 57344) then 0 else 4 := rfl
theorem uLH (x : Int) : (x = 224 ∧ uLow x = 160 ∧ uHigh x = 191) ∨ (x = 240 ∧ uLow x = 144 ∧ uHigh x = 191) ∨ (x = 237 ∧ uLow x = 128 ∧ uHigh x = 159) ∨ (x = 244 ∧ uLow x = 128 ∧ uHigh x = 143) ∨ (x ≠ 224 ∧ x ≠ 240 ∧ x ≠ 237 ∧ x ≠ 244 ∧ uLow x = 128 ∧ uHigh x = 191) := by
  unfold uLow uHigh
  by_cases h1 : x = 224
  · subst h1; exact Or.inl ⟨rfl, rfl, rfl⟩
  · by_cases h2 : x = 240
    · subst h2; exact Or.inr (Or.inl ⟨rfl, rfl, rfl⟩)
    · by_cases h3 : x = 237
      · subst h3; exact Or.inr (Or.inr (Or.inl ⟨rfl, rfl, rfl⟩))
      · by_cases h4 : x = 244
        · subst h4; exact Or.inr (Or.inr (Or.inr (Or.inl ⟨rfl, rfl, rfl⟩)))
        · rw [if_neg h1, if_neg h2, if_neg h3, if_neg h4]
          exact Or.inr (Or.inr (Or.inr (Or.inr ⟨h1, h2, h3, h4, rfl, rfl⟩)))
def uBad (b : Nat → Int) (sz : Nat) (a to : Int) : Prop := uLen (bGet b sz a) = 0 ∨ to - a < uLen (bGet b sz a) ∨ uRight b sz a (uLen (bGet b sz a)) = false
theorem mLenV (x : Int) : (x < 128 ∧ mLen x = 1) ∨ (128 ≤ x ∧ x < 192 ∧ mLen x = 0) ∨ (192 ≤ x ∧ x < 224 ∧ mLen x = 2) ∨ (224 ≤ x ∧ x < 240 ∧ mLen x = 3) ∨ (240 ≤ x ∧ x < 248 ∧ mLen x = 4) ∨ (248 ≤ x ∧ mLen x = 0) := by
  unfold mLen
  (repeat' split) <;> omega
theorem uLenV (x : Int) : (x < 128 ∧ uLen x = 1) ∨ (128 ≤ x ∧ x < 194 ∧ uLen x = 0) ∨ (194 ≤ x ∧ x < 224 ∧ uLen x = 2) ∨ (224 ≤ x ∧ x < 240 ∧ uLen x = 3) ∨ (240 ≤ x ∧ x < 245 ∧ uLen x = 4) ∨ (245 ≤ x ∧ uLen x = 0) := by
  unfold uLen
  (repeat' split) <;> omega
theorem pChar {b f : Nat → Int} {sz nn : Nat} (hA : pA b sz nn f) {a to : Int} (h0 : 0 ≤ a) (h1 : a < to) (h2 : to ≤ nn) : (uBad b sz a to ∧ mChar f a to = 0) ∨ (¬ uBad b sz a to ∧ mChar f a to = uLen (bGet b sz a)) := by
  have gx := pGet hA h0 (show a < nn by omega)
  have rx := hA.2.2 a.toNat
  unfold uBad mChar
  rw [gx]
  generalize hx : f a.toNat = x at *
  rcases mLenV x with ⟨q, e⟩ | ⟨q, q2, e⟩ | ⟨q, q2, e⟩ | ⟨q, q2, e⟩ | ⟨q, q2, e⟩ | ⟨q, e⟩
  · rw [if_pos q]
    have u := uLenV x
    have e2 : uLen x = 1 := by omega
    rw [e2]
    refine Or.inr ⟨?_, rfl⟩
    rintro (h | h | h)
    · omega
    · omega
    · unfold uRight at h; rw [uRt_end (by omega)] at h; cases h
  · have u := uLenV x
    rw [if_neg (by omega), e, if_pos (Or.inl rfl)]
    exact Or.inl ⟨Or.inl (by omega), rfl⟩
  · have u := uLenV x
    rw [if_neg (by omega), e]
    by_cases ht : to < a + 2
    · rw [if_pos (Or.inr ht)]
      refine Or.inl ⟨?_, rfl⟩
      omega
    · rw [if_neg (by omega), show ((2 : Int) - 1).toNat = 1 from rfl, mCh2, show mBase 2 = 192 from rfl]
      have g1 := pGet hA (show 0 ≤ a + 1 by omega) (by omega)
      generalize f (a + 1).toNat = c1 at *
      have w := uLH x
      by_cases hu : x < 194
      · refine Or.inl ⟨Or.inl (by omega), ?_⟩
        by_cases hc : c1 < 128 ∨ 191 < c1
        · rw [if_pos hc]
        · rw [if_neg hc, mChE2, if_pos (by omega)]
      · have e2 : uLen x = 2 := by omega
        rw [e2, uRight2, g1, gx]
        by_cases hc : c1 < 128 ∨ 191 < c1
        · rw [if_pos hc]
          exact Or.inl ⟨Or.inr (Or.inr (decide_eq_false (by omega))), rfl⟩
        · rw [if_neg hc, mChE2, if_neg (by omega)]
          refine Or.inr ⟨?_, rfl⟩
          rintro (h | h | h)
          · omega
          · omega
          · have := of_decide_eq_false h; omega
  · have u := uLenV x
    rw [if_neg (by omega), e]
    have e2 : uLen x = 3 := by omega
    rw [e2]
    by_cases ht : to < a + 3
    · rw [if_pos (Or.inr ht)]
      exact Or.inl ⟨Or.inr (Or.inl (by omega)), rfl⟩
    · rw [if_neg (by omega), show ((3 : Int) - 1).toNat = 2 from rfl, mCh3, show mBase 3 = 224 from rfl]
      have g1 := pGet hA (show 0 ≤ a + 1 by omega) (by omega)
      have g2 := pGet hA (show 0 ≤ a + 2 by omega) (by omega)
      generalize f (a + 1).toNat = c1 at *
      generalize f (a + 2).toNat = c2 at *
      have w := uLH x
      rw [uRight3, g1, g2, gx]
      generalize uLow x = ul at *
      generalize uHigh x = uh at *
      by_cases hc : c1 < 128 ∨ 191 < c1
      · rw [if_pos hc]
        exact Or.inl ⟨Or.inr (Or.inr (decide_eq_false (by omega))), rfl⟩
      · rw [if_neg hc]
        by_cases hd : c2 < 128 ∨ 191 < c2
        · rw [if_pos hd]
          exact Or.inl ⟨Or.inr (Or.inr (decide_eq_false (by omega))), rfl⟩
        · rw [if_neg hd, mChE3]
          by_cases hg : c1 < ul ∨ uh < c1
          · rw [if_pos (by omega)]
            exact Or.inl ⟨Or.inr (Or.inr (decide_eq_false (by omega))), rfl⟩
          · rw [if_neg (by omega)]
            refine Or.inr ⟨?_, rfl⟩
            rintro (h | h | h)
            · omega
            · omega
            · have := of_decide_eq_false h; omega
  · have u := uLenV x
    rw [if_neg (by omega), e]
    by_cases ht : to < a + 4
    · rw [if_pos (Or.inr ht)]
      exact Or.inl ⟨by omega, rfl⟩
    · rw [if_neg (by omega), show ((4 : Int) - 1).toNat = 3 from rfl, mCh4, show mBase 4 = 240 from rfl]
      have g1 := pGet hA (show 0 ≤ a + 1 by omega) (by omega)
      have g2 := pGet hA (show 0 ≤ a + 2 by omega) (by omega)
      have g3 := pGet hA (show 0 ≤ a + 3 by omega) (by omega)
      generalize f (a + 1).toNat = c1 at *
      generalize f (a + 2).toNat = c2 at *
      generalize f (a + 3).toNat = c3 at *
      by_cases hu : 245 ≤ x
      · refine Or.inl ⟨Or.inl (by omega), ?_⟩
        by_cases hc : c1 < 128 ∨ 191 < c1
        · rw [if_pos hc]
        · rw [if_neg hc]
          by_cases hd : c2 < 128 ∨ 191 < c2
          · rw [if_pos hd]
          · rw [if_neg hd]
            by_cases he : c3 < 128 ∨ 191 < c3
            · rw [if_pos he]
            · rw [if_neg he, mChE4, if_pos (by omega)]
      · have e2 : uLen x = 4 := by omega
        have w := uLH x
        rw [e2, uRight4, g1, g2, g3, gx]
        generalize uLow x = ul at *
        generalize uHigh x = uh at *
        by_cases hc : c1 < 128 ∨ 191 < c1
        · rw [if_pos hc]
          exact Or.inl ⟨Or.inr (Or.inr (decide_eq_false (by omega))), rfl⟩
        · rw [if_neg hc]
          by_cases hd : c2 < 128 ∨ 191 < c2
          · rw [if_pos hd]
            exact Or.inl ⟨Or.inr (Or.inr (decide_eq_false (by omega))), rfl⟩
          · rw [if_neg hd]
            by_cases he : c3 < 128 ∨ 191 < c3
            · rw [if_pos he]
              exact Or.inl ⟨Or.inr (Or.inr (decide_eq_false (by omega))), rfl⟩
            · rw [if_neg he, mChE4]
              by_cases hg : c1 < ul ∨ uh < c1
              · rw [if_pos (by omega)]
                exact Or.inl ⟨Or.inr (Or.inr (decide_eq_false (by omega))), rfl⟩
              · rw [if_neg (by omega)]
                refine Or.inr ⟨?_, rfl⟩
                rintro (h | h | h)
                · omega
                · omega
                · have := of_decide_eq_false h; omega
  · have u := uLenV x
    rw [if_neg (by omega), e, if_pos (Or.inl rfl)]
    exact Or.inl ⟨Or.inl (by omega), rfl⟩
theorem pWrN {b f : Nat → Int} {sz nn : Nat} (hA : pA b sz nn f) {to : Int} (h2 : to ≤ nn) : ∀ (N : Nat) (a : Int), 0 ≤ a → uFwN b sz to N a = mBadN f to N a := by
  intro N
  induction N with
  | zero => intro a _; rfl
  | succ N ih =>
    intro a h0
    unfold uFwN mBadN
    by_cases h1 : a < to
    · rw [if_pos h1, if_pos h1]
      rcases pChar hA h0 h1 h2 with h | h
      · have h3 := h.1
        unfold uBad at h3
        rw [if_pos h3, if_pos h.2]
      · have h3 := h.1
        unfold uBad at h3
        rw [if_neg h3, h.2, if_neg (fun z => h3 (Or.inl z))]
        exact ih _ (by have := uLen_r (bGet b sz a); omega)
    · rw [if_neg h1, if_neg h1]
theorem pWrong {b f : Nat → Int} {sz nn : Nat} (hA : pA b sz nn f) {fr to : Int} (h0 : 0 ≤ fr) (h2 : to ≤ nn) : uWrong b sz fr to = mBad f fr to := pWrN hA h2 _ _ h0
theorem pDec {b f : Nat → Int} {sz nn : Nat} (hA : pA b sz nn f) {a to v : Int} (h0 : 0 ≤ a) (h1 : a ≤ to) (h2 : to ≤ nn) : bDec b sz a (to - a) v = mNum f a to v := by
  unfold bDec mNum
  by_cases h : to - a = bDigits v
  · rw [if_neg (fun z => z h), decide_eq_true h, Bool.and_true]
    have hr := bDigits_r v
    unfold bHd
    rw [show (to - a - 1 + 1).toNat = (to - a).toNat by omega]
    have m0 : mDigN 0 v = v := rfl
    have m1 : mDigN 1 v = v / 10 := rfl
    have m2 : mDigN 2 v = v / 10 / 10 := rfl
    have m3 : mDigN 3 v = v / 10 / 10 / 10 := rfl
    rcases (show bDigits v = 1 ∨ bDigits v = 2 ∨ bDigits v = 3 ∨ bDigits v = 4 by omega) with e | e | e | e
    · rw [h, e]
      have g0 := pGet hA (show 0 ≤ a + 0 by omega) (by omega)
      simp only [show (1 : Int).toNat = 1 from rfl, bHdN, mNumN, mDigit, e, m0, show ((1 : Int) - 1 - 0).toNat = 0 from rfl, show ((0 : Nat) : Int) = 0 from rfl, g0]
    · rw [h, e]
      have g0 := pGet hA (show 0 ≤ a + 0 by omega) (by omega)
      have g1 := pGet hA (show 0 ≤ a + 1 by omega) (by omega)
      simp only [show (2 : Int).toNat = 2 from rfl, bHdN, mNumN, mDigit, e, m0, m1, m2, m3, show ((2 : Int) - 1 - 0).toNat = 1 from rfl, show ((2 : Int) - 1 - 1).toNat = 0 from rfl, show ((0 : Nat) : Int) = 0 from rfl, show ((1 : Nat) : Int) = 1 from rfl, show (0 : Int) + 1 = 1 from rfl, g0, g1]
      by_cases q0 : f (a + 0).toNat = 48 + v / 10 % 10 <;> by_cases q1 : f (a + 1).toNat = 48 + v % 10 <;> simp only [q0, q1, if_true, if_false, reduceIte]
    · rw [h, e]
      have g0 := pGet hA (show 0 ≤ a + 0 by omega) (by omega)
      have g1 := pGet hA (show 0 ≤ a + 1 by omega) (by omega)
      have g2 := pGet hA (show 0 ≤ a + 2 by omega) (by omega)
      simp only [show (3 : Int).toNat = 3 from rfl, bHdN, mNumN, mDigit, e, m0, m1, m2, m3, show ((3 : Int) - 1 - 0).toNat = 2 from rfl, show ((3 : Int) - 1 - 1).toNat = 1 from rfl, show ((3 : Int) - 1 - 2).toNat = 0 from rfl, show ((0 : Nat) : Int) = 0 from rfl, show ((1 : Nat) : Int) = 1 from rfl, show ((2 : Nat) : Int) = 2 from rfl, show (0 : Int) + 1 = 1 from rfl, show (1 : Int) + 1 = 2 from rfl, g0, g1, g2]
      by_cases q0 : f (a + 0).toNat = 48 + v / 10 / 10 % 10 <;> by_cases q1 : f (a + 1).toNat = 48 + v / 10 % 10 <;> by_cases q2 : f (a + 2).toNat = 48 + v % 10 <;> simp only [q0, q1, q2, if_true, if_false, reduceIte]
    · rw [h, e]
      have g0 := pGet hA (show 0 ≤ a + 0 by omega) (by omega)
      have g1 := pGet hA (show 0 ≤ a + 1 by omega) (by omega)
      have g2 := pGet hA (show 0 ≤ a + 2 by omega) (by omega)
      have g3 := pGet hA (show 0 ≤ a + 3 by omega) (by omega)
      simp only [show (4 : Int).toNat = 4 from rfl, bHdN, mNumN, mDigit, e, m0, m1, m2, m3, show ((4 : Int) - 1 - 0).toNat = 3 from rfl, show ((4 : Int) - 1 - 1).toNat = 2 from rfl, show ((4 : Int) - 1 - 2).toNat = 1 from rfl, show ((4 : Int) - 1 - 3).toNat = 0 from rfl, show ((0 : Nat) : Int) = 0 from rfl, show ((1 : Nat) : Int) = 1 from rfl, show ((2 : Nat) : Int) = 2 from rfl, show ((3 : Nat) : Int) = 3 from rfl, show (0 : Int) + 1 = 1 from rfl, show (1 : Int) + 1 = 2 from rfl, show (2 : Int) + 1 = 3 from rfl, g0, g1, g2, g3]
      by_cases q0 : f (a + 0).toNat = 48 + v / 10 / 10 / 10 % 10 <;> by_cases q1 : f (a + 1).toNat = 48 + v / 10 / 10 % 10 <;> by_cases q2 : f (a + 2).toNat = 48 + v / 10 % 10 <;> by_cases q3 : f (a + 3).toNat = 48 + v % 10 <;> simp only [q0, q1, q2, q3, if_true, if_false, reduceIte]
  · rw [if_pos h, decide_eq_false h, Bool.and_false]
theorem pEqN {b f b2 f2 : Nat → Int} {sz nn sz2 nn2 : Nat} (hA : pA b sz nn f) (hA2 : pA b2 sz2 nn2 f2) {p q : Int} (hp : 0 ≤ p) (hq : 0 ≤ q) : ∀ (N : Nat) (i : Int), 0 ≤ i → p + i + N ≤ nn → q + i + N ≤ nn2 → bEqN b sz p b2 sz2 q N i = mSmN f p f2 q N i := by
  intro N
  induction N with
  | zero => intro i _ _ _; rfl
  | succ N ih =>
    intro i h1 h2 h3
    unfold bEqN mSmN
    rw [pGet hA (by omega) (by omega), pGet hA2 (by omega) (by omega), ih (i + 1) (by omega) (by omega) (by omega)]
theorem pEq {b f b2 f2 : Nat → Int} {sz nn sz2 nn2 : Nat} (hA : pA b sz nn f) (hA2 : pA b2 sz2 nn2 f2) {p q n : Int} (hp : 0 ≤ p) (hq : 0 ≤ q) (h2 : 0 ≤ n) (h3 : p + n ≤ nn) (h4 : q + n ≤ nn2) : bEq b sz p b2 sz2 q n 0 = mSm f p f2 q n 0 := pEqN hA hA2 hp hq _ _ (by omega) (by omega) (by omega)
