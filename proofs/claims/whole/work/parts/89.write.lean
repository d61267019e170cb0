/-! PURE 30: an element's bytes as both sides write them -/
theorem mWr_v {b : Int} {S : MS} (x : Nat) : (mWr b S).a 13 x = if x = (S.f 7).toNat then b else S.a 13 x := by
  unfold mWr
  rw [pf_a, st_eq]
theorem mWlN_v {v : Int} : ∀ (N : Nat) (k : Int) (S : MS), 0 ≤ k → 0 ≤ S.f 7 → ∀ x : Nat, (mWlN v N k S).a 13 x = if S.f 7 ≤ x ∧ (x : Int) < S.f 7 + N then v / 2 ^ (8 * (k + ((x : Int) - S.f 7))).toNat % 256 else S.a 13 x := by
  intro N
  induction N with
  | zero => intro k S _ _ x; rw [if_neg (by omega)]; rfl
  | succ N ih =>
    intro k S hk h7 x
    show (mWlN v N (k + 1) (mWr (v / 2 ^ (8 * k).toNat % 256) S)).a 13 x = _
    rw [ih (k + 1) _ (by omega) (by rw [mWr_p]; omega) x, mWr_v, mWr_p]
    by_cases e : x = (S.f 7).toNat
    · rw [if_neg (by omega), if_pos e, if_pos (by omega), show k + ((x : Int) - S.f 7) = k by omega]
    · rw [if_neg e]
      by_cases e2 : S.f 7 + 1 ≤ x ∧ (x : Int) < S.f 7 + 1 + N
      · rw [if_pos e2, if_pos (by omega), show k + 1 + ((x : Int) - (S.f 7 + 1)) = k + ((x : Int) - S.f 7) by omega]
      · rw [if_neg e2, if_neg (by omega)]
theorem mWdN_v {v : Int} : ∀ (N : Nat) (k : Int) (S : MS), 0 ≤ k → 0 ≤ S.f 7 → ∀ x : Nat, (mWdN v N k S).a 13 x = if S.f 7 ≤ x ∧ (x : Int) < S.f 7 + N then mDigit v (k + ((x : Int) - S.f 7)) else S.a 13 x := by
  intro N
  induction N with
  | zero => intro k S _ _ x; rw [if_neg (by omega)]; rfl
  | succ N ih =>
    intro k S hk h7 x
    show (mWdN v N (k + 1) (mWr (mDigit v k) S)).a 13 x = _
    rw [ih (k + 1) _ (by omega) (by rw [mWr_p]; omega) x, mWr_v, mWr_p]
    by_cases e : x = (S.f 7).toNat
    · rw [if_neg (by omega), if_pos e, if_pos (by omega), show k + ((x : Int) - S.f 7) = k by omega]
    · rw [if_neg e]
      by_cases e2 : S.f 7 + 1 ≤ x ∧ (x : Int) < S.f 7 + 1 + N
      · rw [if_pos e2, if_pos (by omega), show k + 1 + ((x : Int) - (S.f 7 + 1)) = k + ((x : Int) - S.f 7) by omega]
      · rw [if_neg e2, if_neg (by omega)]
theorem mWcN_v {ks : Nat} (hks : ks ≠ 13) {o : Int} : ∀ (N : Nat) (k : Int) (S : MS), 0 ≤ k → 0 ≤ S.f 7 → ∀ x : Nat, (mWcN ks o N k S).a 13 x = if S.f 7 ≤ x ∧ (x : Int) < S.f 7 + N then S.a ks (o + (k + ((x : Int) - S.f 7))).toNat else S.a 13 x := by
  intro N
  induction N with
  | zero => intro k S _ _ x; rw [if_neg (by omega)]; rfl
  | succ N ih =>
    intro k S hk h7 x
    show (mWcN ks o N (k + 1) (mWr (S.a ks (o + k).toNat) S)).a 13 x = _
    rw [ih (k + 1) _ (by omega) (by rw [mWr_p]; omega) x, mWr_v, mWr_p, mWr_k.1 ks hks]
    by_cases e : x = (S.f 7).toNat
    · rw [if_neg (by omega), if_pos e, if_pos (by omega), show k + ((x : Int) - S.f 7) = k by omega]
    · rw [if_neg e]
      by_cases e2 : S.f 7 + 1 ≤ x ∧ (x : Int) < S.f 7 + 1 + N
      · rw [if_pos e2, if_pos (by omega), show k + 1 + ((x : Int) - (S.f 7 + 1)) = k + ((x : Int) - S.f 7) by omega]
      · rw [if_neg e2, if_neg (by omega)]
/-- the name's length of a new element of x -/
def mNl (x n : Int) (S : MS) : Int := if mKind x S = 4 then bDigits (mEls x S) else n
theorem kind_kp {S U : MS} (h : mKp S U) (x : Int) : mKind x U = mKind x S ∧ mEls x U = mEls x S ∧ mVal x U = mVal x S := by
  have e3 := h.1 3 (by decide)
  have e4 := h.1 4 (by decide)
  have e5 := h.1 5 (by decide)
  have e6 := h.1 6 (by decide)
  have ef := h.2 3 (by decide)
  refine ⟨?_, ?_, ?_⟩
  · unfold mKind; rw [e3, e5]
  · have key : ∀ (N : Nat) (k acc : Int), mElsN U x N k acc = mElsN S x N k acc := by
      intro N
      induction N with
      | zero => intro k acc; rfl
      | succ N ih => intro k acc; unfold mElsN; rw [ih, e4]
    unfold mEls mElsF
    rw [ef, key]
  · unfold mVal; rw [e6]
theorem mHead_v {x k n : Int} {S : MS} (hn : 0 ≤ n ∧ n ≤ 2000) : mKp S (mHead x k n S) ∧ (mHead x k n S).f 7 = 2 + mNl x n S ∧ (mHead x k n S).a 13 0 = k ∧ (∀ j : Int, 0 ≤ j → j < mNl x n S → (mHead x k n S).a 13 (1 + j).toNat = if mKind x S = 4 then mDigit (mEls x S) j else S.a 0 j.toNat) ∧ (mHead x k n S).a 13 (1 + mNl x n S).toNat = 0 := by
  have k0 := mHd0_k (k := k) (S := S)
  have kk := kind_kp k0.1 x
  have hkp := (mHead_k (x := x) (k := k) (S := S) hn).1
  have e00 : (mHd0 k S).a 13 0 = k := by
    unfold mHd0
    rw [mWr_v, if_pos (show 0 = ((S.pf 7 0).f 7).toNat from rfl)]
  have hN0 : 0 ≤ mNl x n S := by
    unfold mNl
    have := bDigits_r (mEls x S)
    split <;> omega
  have h1 : (mHd1 x k n S).f 7 = 1 + mNl x n S ∧ (mHd1 x k n S).a 13 0 = k ∧ ∀ j : Int, 0 ≤ j → j < mNl x n S → (mHd1 x k n S).a 13 (1 + j).toNat = if mKind x S = 4 then mDigit (mEls x S) j else S.a 0 j.toNat := by
    unfold mHd1 mNl
    rw [kk.1, kk.2.1]
    by_cases e : mKind x S = 4
    · rw [if_pos e, if_pos e]
      have hd := bDigits_r (mEls x S)
      have w := mWd_k (v := mEls x S) (S := mHd0 k S)
      have wv := mWdN_v (v := mEls x S) (bDigits (mEls x S) - 0).toNat 0 (mHd0 k S) (by omega) (by omega)
      refine ⟨by rw [w.2, k0.2], ?_, fun j j1 j2 => ?_⟩
      · show (mWdN _ _ 0 _).a 13 0 = _
        rw [wv 0, k0.2, if_neg (by omega), e00]
      · show (mWdN _ _ 0 _).a 13 _ = _
        rw [wv, k0.2, if_pos (by omega), if_pos e]
        congr 1
        omega
    · rw [if_neg e, if_neg e]
      have w := mWc_k (ks := 0) (o := 0) (S := mHd0 k S) hn.1
      have wv := mWcN_v (ks := 0) (by decide) (o := 0) (n - 0).toNat 0 (mHd0 k S) (by omega) (by omega)
      refine ⟨by rw [w.2, k0.2], ?_, fun j j1 j2 => ?_⟩
      · show (mWcN _ _ _ 0 _).a 13 0 = _
        rw [wv 0, k0.2, if_neg (by omega), e00]
      · show (mWcN _ _ _ 0 _).a 13 _ = _
        rw [wv, k0.2, if_pos (by omega), if_neg e, k0.1.1 0 (by decide)]
        congr 1
        omega
  obtain ⟨g1, g2, g3⟩ := h1
  refine ⟨hkp, ?_, ?_, fun j j1 j2 => ?_, ?_⟩
  · unfold mHead; rw [mWr_p, g1]; omega
  · unfold mHead; rw [mWr_v, g1, if_neg (by omega), g2]
  · unfold mHead; rw [mWr_v, g1, if_neg (by omega), g3 j j1 j2]
  · unfold mHead; rw [mWr_v, g1, if_pos rfl]
/-! the program's side -/
theorem bPdN_v {sz : Nat} {a : Int} (h0 : 0 ≤ a) : ∀ (N : Nat) (v : Int) (b : Nat → Int), a + N ≤ sz → ∀ y : Nat, bPdN sz a N v b y = if a ≤ y ∧ (y : Int) < a + N then 48 + mDigN (N - 1 - (y - a.toNat)) v % 10 else b y := by
  intro N
  induction N with
  | zero => intro v b _ y; rw [if_neg (by omega)]; rfl
  | succ N ih =>
    intro v b h y
    show bPdN sz a N (v / 10) (bPut b sz (a + N) (48 + v % 10)) y = _
    rw [ih (v / 10) _ (by omega) y, bPut_in (by omega)]
    unfold va_up
    by_cases e : (y : Int) = a + N
    · rw [if_neg (by omega), if_pos (show y = (a + N).toNat by omega), if_pos (by omega), show N + 1 - 1 - (y - a.toNat) = 0 by omega]
      show (48 + v % 10) % 256 = 48 + v % 10
      omega
    · rw [if_neg (show ¬ y = (a + N).toNat by omega)]
      by_cases e2 : a ≤ y ∧ (y : Int) < a + N
      · rw [if_pos e2, if_pos (by omega), show N + 1 - 1 - (y - a.toNat) = (N - 1 - (y - a.toNat)) + 1 by omega]
        rfl
      · rw [if_neg e2, if_neg (by omega)]
theorem bPd_v {sz : Nat} {a v : Int} {b : Nat → Int} (h0 : 0 ≤ a) (h : a + bDigits v ≤ sz) : ∀ y : Nat, bPd sz a (bDigits v - 1) v b y = if a ≤ y ∧ (y : Int) < a + bDigits v then mDigit v ((y : Int) - a) else b y := by
  intro y
  have hd := bDigits_r v
  unfold bPd mDigit
  rw [bPdN_v h0 _ _ _ (by omega)]
  by_cases e : a ≤ y ∧ (y : Int) < a + bDigits v
  · rw [if_pos (by omega), if_pos e, show (bDigits v - 1 + 1).toNat - 1 - (y - a.toNat) = (bDigits v - 1 - ((y : Int) - a)).toNat by omega]
  · rw [if_neg (by omega), if_neg e]
theorem dWrite_v {T : Nat → Nat → Int} {cnt : Nat} {b bT bF e : Nat → Int} {sz zF : Nat} {x k nl : Int} (hp : 0 ≤ nLast T cnt x ∧ nLast T cnt x ≤ sz) (hnl : 0 ≤ nl) (e0 : k % 256 = e 0) (hrow : nCell T cnt 0 x = 4 → nl = bDigits (nCell T cnt 6 x) ∧ ∀ j : Int, 0 ≤ j → j < nl → e (1 + j).toNat = mDigit (nCell T cnt 6 x) j) (hdoc : ¬ nCell T cnt 0 x = 4 → ∀ j : Int, 0 ≤ j → j < nl → e (1 + j).toNat = bT j.toNat) (hz : e (1 + nl).toNat = 0) (hv : ∀ j : Int, 0 ≤ j → j < zF → e (nl + 2 + j).toNat = bF j.toNat) :
    ∀ y : Nat, (y : Int) < sz + (nl + 2 + zF) → dWrite T cnt b sz bT bF zF x k nl y = h0 b (nLast T cnt x) 0 e (nl + 2 + zF) y := by
  intro y hy
  unfold dWrite
  generalize nLast T cnt x = s at *
  unfold h0
  have b1v : ∀ y : Nat, (y : Int) < sz + (nl + 2 + zF) → bPut (bGap b sz s (2 + nl + zF)) (sz + (2 + nl + zF).toNat) s k y = if (y : Int) = s then e 0 else if (y : Int) < s + (nl + 2 + zF) then b y else b ((y : Int) - (nl + 2 + zF) + 0).toNat := by
    intro y hy
    rw [bPut_in (by omega)]
    unfold va_up
    by_cases c1 : (y : Int) = s
    · rw [if_pos (by omega), if_pos c1, e0]
    · rw [if_neg (by omega), if_neg c1]
      unfold bGap va_cpy
      by_cases c2 : (y : Int) < s + (nl + 2 + zF)
      · rw [if_neg (by omega), if_pos c2]
      · rw [if_pos (by omega), if_neg c2]
        congr 1
        omega
  have b2v : ∀ y : Nat, (y : Int) < sz + (nl + 2 + zF) → (if nCell T cnt 0 x = 4 then bPd (sz + (2 + nl + zF).toNat) (s + 1) (nl - 1) (nCell T cnt 6 x) (bPut (bGap b sz s (2 + nl + zF)) (sz + (2 + nl + zF).toNat) s k) else bCopy (bPut (bGap b sz s (2 + nl + zF)) (sz + (2 + nl + zF).toNat) s k) bT (s + 1) 0 nl) y = if s + 1 ≤ y ∧ (y : Int) < s + 1 + nl then e (y - s.toNat) else bPut (bGap b sz s (2 + nl + zF)) (sz + (2 + nl + zF).toNat) s k y := by
    intro y hy
    by_cases e4 : nCell T cnt 0 x = 4
    · rw [if_pos e4]
      obtain ⟨w1, w2⟩ := hrow e4
      rw [w1, bPd_v (by omega) (by omega)]
      rw [w1] at w2
      by_cases c : s + 1 ≤ y ∧ (y : Int) < s + 1 + bDigits (nCell T cnt 6 x)
      · rw [if_pos c, if_pos c, ← w2 _ (by omega) (by omega)]
        congr 1
        omega
      · rw [if_neg c, if_neg c]
    · rw [if_neg e4]
      unfold bCopy va_cpy
      by_cases c : s + 1 ≤ y ∧ (y : Int) < s + 1 + nl
      · rw [if_pos (by omega), if_pos c]
        have := hdoc e4 ((y : Int) - (s + 1)) (by omega) (by omega)
        rw [show (1 + ((y : Int) - (s + 1))).toNat = y - s.toNat by omega] at this
        rw [this]
        congr 1
        omega
      · rw [if_neg (by omega), if_neg c]
  generalize (if nCell T cnt 0 x = 4 then bPd (sz + (2 + nl + zF).toNat) (s + 1) (nl - 1) (nCell T cnt 6 x) (bPut (bGap b sz s (2 + nl + zF)) (sz + (2 + nl + zF).toNat) s k) else bCopy (bPut (bGap b sz s (2 + nl + zF)) (sz + (2 + nl + zF).toNat) s k) bT (s + 1) 0 nl) = b2 at *
  unfold bCopy va_cpy
  by_cases c1 : (y : Int) < s
  · rw [if_neg (by omega), if_pos c1, bPut_in (by omega), va_up_ne _ _ (by omega), b2v y hy, if_neg (by omega), b1v y hy, if_neg (by omega), if_pos (by omega)]
  · rw [if_neg c1]
    by_cases c2 : (y : Int) < s + (nl + 2 + zF)
    · rw [if_pos c2]
      by_cases c3 : s + nl + 2 ≤ y
      · rw [if_pos (by omega)]
        have := hv ((y : Int) - (s + nl + 2)) (by omega) (by omega)
        rw [show (nl + 2 + ((y : Int) - (s + nl + 2))).toNat = y - s.toNat by omega] at this
        rw [this]
        congr 1
        omega
      · rw [if_neg (by omega), bPut_in (by omega)]
        by_cases c4 : (y : Int) = s + 1 + nl
        · rw [show y = (s + 1 + nl + 1 - 1).toNat by omega, va_up_self, show (s + 1 + nl + 1 - 1).toNat - s.toNat = (1 + nl).toNat by omega, hz]
          rfl
        · rw [va_up_ne _ _ (by omega), b2v y hy]
          by_cases c5 : s + 1 ≤ (y : Int) ∧ (y : Int) < s + 1 + nl
          · rw [if_pos c5]
          · rw [if_neg c5, b1v y hy, if_pos (by omega), show y - s.toNat = 0 by omega]
    · rw [if_neg c2, if_neg (by omega), bPut_in (by omega), va_up_ne _ _ (by omega), b2v y hy, if_neg (by omega), b1v y hy, if_neg (by omega), if_neg c2]
