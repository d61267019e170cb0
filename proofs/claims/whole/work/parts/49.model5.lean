/-! writing -/
def mKp (S T : MS) : Prop := (∀ k, k ≠ 13 → T.a k = S.a k) ∧ ∀ j, j ≠ 7 → T.f j = S.f j
theorem mKp_r {S : MS} : mKp S S := ⟨fun _ _ => rfl, fun _ _ => rfl⟩
theorem mKp_t {S T U : MS} (h : mKp S T) (h2 : mKp T U) : mKp S U := ⟨fun k hk => (h2.1 k hk).trans (h.1 k hk), fun j hj => (h2.2 j hj).trans (h.2 j hj)⟩
/-- all but the bytes, the work and the parts as it was -/
def mKt (S T : MS) : Prop := (∀ k, k ≠ 13 → k ≠ 3 → k ≠ 2 → k ≠ 1 → T.a k = S.a k) ∧ ∀ j, j ≠ 7 → j ≠ 2 → j ≠ 0 → T.f j = S.f j
theorem mKt_r {S : MS} : mKt S S := ⟨fun _ _ _ _ _ => rfl, fun _ _ _ _ => rfl⟩
theorem mKt_p {S T : MS} (h : mKp S T) : mKt S T := ⟨fun k h1 _ _ _ => h.1 k h1, fun j h1 _ _ => h.2 j h1⟩
theorem mKt_t {S T U : MS} (h : mKt S T) (h2 : mKt T U) : mKt S U := ⟨fun k a b c d => (h2.1 k a b c d).trans (h.1 k a b c d), fun j a b c => (h2.2 j a b c).trans (h.2 j a b c)⟩
theorem mTb_kt {S T : MS} (h : mTb S) (k : mKt S T) : mTb T := by
  obtain ⟨h1, h2⟩ := h
  have e3 := k.2 3 (by decide) (by decide) (by decide)
  have e5 := k.1 5 (by decide) (by decide) (by decide) (by decide)
  have e6 := k.1 6 (by decide) (by decide) (by decide) (by decide)
  have e7 := k.1 7 (by decide) (by decide) (by decide) (by decide)
  have e4 := k.1 4 (by decide) (by decide) (by decide) (by decide)
  have e8 := k.1 8 (by decide) (by decide) (by decide) (by decide)
  unfold mTb
  rw [e3, e4, e5, e6, e7, e8]
  exact ⟨h1, h2⟩
theorem mVal_kt {S T : MS} (k : mKt S T) (x : Int) : mVal x T = mVal x S := by
  unfold mVal
  rw [k.1 6 (by decide) (by decide) (by decide) (by decide)]
theorem st13 {S : MS} {i : Nat} {v w : Int} : mKp S ((S.st 13 i v).pf 7 w) := by
  refine ⟨fun k hk => ?_, fun j hj => ?_⟩
  · funext x
    show (if k = 13 ∧ x = i then v else S.a k x) = S.a k x
    rw [if_neg (fun z => hk z.1)]
  · show (if j = 7 then w else S.f j) = S.f j
    rw [if_neg hj]
theorem st3 {S : MS} {i : Nat} {v : Int} : mKt S (S.st 3 i v) := by
  refine ⟨fun k _ hk _ _ => ?_, fun j _ _ _ => rfl⟩
  funext x
  rw [st_a, if_neg (fun z => hk z.1)]
theorem pf_kt {S : MS} {j : Nat} {v : Int} (h : j = 7 ∨ j = 2 ∨ j = 0) : mKt S (S.pf j v) := by
  refine ⟨fun k _ _ _ _ => rfl, fun i h1 h2 h3 => ?_⟩
  rw [pf_f, if_neg (by omega)]
theorem cp_kt {S : MS} {kd od ks os n : Nat} (h : kd = 3 ∨ kd = 2) : mKt S (S.cp kd od ks os n) := by
  refine ⟨fun k _ h1 h2 _ => ?_, fun i _ _ _ => rfl⟩
  funext x
  rw [cp_a, if_neg (by rintro ⟨z, _⟩; omega)]
def mPlN (at_ v : Int) : Nat → Int → MS → MS
  | 0, _, S => S
  | N + 1, k, S => mPlN at_ v N (k + 1) (S.st 3 (at_ + k).toNat (v / 2 ^ (8 * k).toNat % 256))
def mPl (at_ v : Int) (S : MS) : MS := mPlN at_ v 4 0 S
theorem mPlN_e {at_ v n k : Int} {S : MS} (h : n ≤ k) : mPlN at_ v (n - k).toNat k S = S := by
  rw [show (n - k).toNat = 0 by omega]
  rfl
theorem mPlN_s {at_ v n k : Int} {S : MS} (h : k < n) : mPlN at_ v (n - k).toNat k S = mPlN at_ v (n - (k + 1)).toNat (k + 1) (S.st 3 (at_ + k).toNat (v / 2 ^ (8 * k).toNat % 256)) := by
  rw [show (n - k).toNat = (n - (k + 1)).toNat + 1 by omega]
  rfl
theorem mPlN_k {at_ v : Int} : ∀ (N : Nat) (k : Int) (S : MS), mKt S (mPlN at_ v N k S) := by
  intro N
  induction N with
  | zero => intro k S; exact mKt_r
  | succ N ih => intro k S; exact mKt_t st3 (ih _ _)
theorem mPl_k {at_ v : Int} {S : MS} : mKt S (mPl at_ v S) := mPlN_k _ _ _
def mWr (b : Int) (S : MS) : MS := (S.st 13 (S.f 7).toNat b).pf 7 (S.f 7 + 1)
theorem mWr_k {b : Int} {S : MS} : mKp S (mWr b S) := st13
theorem mWr_p {b : Int} {S : MS} : (mWr b S).f 7 = S.f 7 + 1 := rfl
def mWlN (v : Int) : Nat → Int → MS → MS
  | 0, _, S => S
  | N + 1, k, S => mWlN v N (k + 1) (mWr (v / 2 ^ (8 * k).toNat % 256) S)
def mWl (v n : Int) (S : MS) : MS := mWlN v n.toNat 0 S
theorem mWlN_e {v n k : Int} {S : MS} (h : n ≤ k) : mWlN v (n - k).toNat k S = S := by
  rw [show (n - k).toNat = 0 by omega]
  rfl
theorem mWlN_s {v n k : Int} {S : MS} (h : k < n) : mWlN v (n - k).toNat k S = mWlN v (n - (k + 1)).toNat (k + 1) (mWr (v / 2 ^ (8 * k).toNat % 256) S) := by
  rw [show (n - k).toNat = (n - (k + 1)).toNat + 1 by omega]
  rfl
theorem mWlN_k {v : Int} : ∀ (N : Nat) (k : Int) (S : MS), mKp S (mWlN v N k S) ∧ (mWlN v N k S).f 7 = S.f 7 + N := by
  intro N
  induction N with
  | zero => intro k S; exact ⟨mKp_r, by show S.f 7 = S.f 7 + 0; omega⟩
  | succ N ih =>
    intro k S
    have := ih (k + 1) (mWr (v / 2 ^ (8 * k).toNat % 256) S)
    refine ⟨mKp_t mWr_k this.1, ?_⟩
    show (mWlN v N _ _).f 7 = _
    rw [this.2, mWr_p]
    omega
theorem mWl_k {v n : Int} {S : MS} (h : 0 ≤ n) : mKp S (mWl v n S) ∧ (mWl v n S).f 7 = S.f 7 + n := by
  have := mWlN_k (v := v) n.toNat 0 S
  unfold mWl
  refine ⟨this.1, by rw [this.2]; omega⟩
def mWdN (v : Int) : Nat → Int → MS → MS
  | 0, _, S => S
  | N + 1, k, S => mWdN v N (k + 1) (mWr (mDigit v k) S)
def mWd (v : Int) (S : MS) : MS := mWdN v (bDigits v - 0).toNat 0 S
theorem mWdN_e {v n k : Int} {S : MS} (h : n ≤ k) : mWdN v (n - k).toNat k S = S := by
  rw [show (n - k).toNat = 0 by omega]
  rfl
theorem mWdN_s {v n k : Int} {S : MS} (h : k < n) : mWdN v (n - k).toNat k S = mWdN v (n - (k + 1)).toNat (k + 1) (mWr (mDigit v k) S) := by
  rw [show (n - k).toNat = (n - (k + 1)).toNat + 1 by omega]
  rfl
theorem mWdN_k {v : Int} : ∀ (N : Nat) (k : Int) (S : MS), mKp S (mWdN v N k S) ∧ (mWdN v N k S).f 7 = S.f 7 + N := by
  intro N
  induction N with
  | zero => intro k S; exact ⟨mKp_r, by show S.f 7 = S.f 7 + 0; omega⟩
  | succ N ih =>
    intro k S
    have := ih (k + 1) (mWr (mDigit v k) S)
    refine ⟨mKp_t mWr_k this.1, ?_⟩
    show (mWdN v N _ _).f 7 = _
    rw [this.2, mWr_p]
    omega
theorem mWd_k {v : Int} {S : MS} : mKp S (mWd v S) ∧ (mWd v S).f 7 = S.f 7 + bDigits v := by
  have := mWdN_k (v := v) (bDigits v - 0).toNat 0 S
  have := bDigits_r v
  unfold mWd
  refine ⟨(mWdN_k _ _ _).1, by rw [(mWdN_k _ _ _).2]; omega⟩
/-- n cells of the tape, or of a slot's bytes, written -/
def mWcN (ks : Nat) (o : Int) : Nat → Int → MS → MS
  | 0, _, S => S
  | N + 1, k, S => mWcN ks o N (k + 1) (mWr (S.a ks (o + k).toNat) S)
def mWc (ks : Nat) (o n : Int) (S : MS) : MS := mWcN ks o (n - 0).toNat 0 S
theorem mWcN_e {ks : Nat} {o n k : Int} {S : MS} (h : n ≤ k) : mWcN ks o (n - k).toNat k S = S := by
  rw [show (n - k).toNat = 0 by omega]
  rfl
theorem mWcN_s {ks : Nat} {o n k : Int} {S : MS} (h : k < n) : mWcN ks o (n - k).toNat k S = mWcN ks o (n - (k + 1)).toNat (k + 1) (mWr (S.a ks (o + k).toNat) S) := by
  rw [show (n - k).toNat = (n - (k + 1)).toNat + 1 by omega]
  rfl
theorem mWcN_k {ks : Nat} {o : Int} : ∀ (N : Nat) (k : Int) (S : MS), mKp S (mWcN ks o N k S) ∧ (mWcN ks o N k S).f 7 = S.f 7 + N := by
  intro N
  induction N with
  | zero => intro k S; exact ⟨mKp_r, by show S.f 7 = S.f 7 + 0; omega⟩
  | succ N ih =>
    intro k S
    have := ih (k + 1) (mWr (S.a ks (o + k).toNat) S)
    refine ⟨mKp_t mWr_k this.1, ?_⟩
    show (mWcN ks o N _ _).f 7 = _
    rw [this.2, mWr_p]
    omega
theorem mWc_k {ks : Nat} {o n : Int} {S : MS} (h : 0 ≤ n) : mKp S (mWc ks o n S) ∧ (mWc ks o n S).f 7 = S.f 7 + n := by
  have := mWcN_k (ks := ks) (o := o) (n - 0).toNat 0 S
  unfold mWc
  refine ⟨this.1, by rw [this.2]; omega⟩
/-- writeHead -/
def mHd0 (k : Int) (S : MS) : MS := mWr k (S.pf 7 0)
def mHd1 (x k n : Int) (S : MS) : MS := if mKind x (mHd0 k S) = 4 then mWd (mEls x (mHd0 k S)) (mHd0 k S) else mWc 0 0 n (mHd0 k S)
def mHead (x k n : Int) (S : MS) : MS := mWr 0 (mHd1 x k n S)
theorem mHd0_k {k : Int} {S : MS} : mKp S (mHd0 k S) ∧ (mHd0 k S).f 7 = 1 := by
  refine ⟨⟨fun q hq => ?_, fun j hj => ?_⟩, rfl⟩
  · funext x
    show (if q = 13 ∧ x = _ then _ else S.a q x) = S.a q x
    rw [if_neg (fun z => hq z.1)]
  · show (if j = 7 then _ else if j = 7 then _ else S.f j) = S.f j
    rw [if_neg hj, if_neg hj]
theorem mHd1_k {x k n : Int} {S : MS} (h : 0 ≤ n ∧ n ≤ 2000) : mKp S (mHd1 x k n S) ∧ 1 ≤ (mHd1 x k n S).f 7 ∧ (mHd1 x k n S).f 7 ≤ n + 5 := by
  unfold mHd1
  have h0 := mHd0_k (k := k) (S := S)
  split
  · have h1 := mWd_k (v := mEls x (mHd0 k S)) (S := mHd0 k S)
    have h2 := bDigits_r (mEls x (mHd0 k S))
    refine ⟨mKp_t h0.1 h1.1, ?_, ?_⟩ <;> rw [h1.2, h0.2] <;> omega
  · have h1 := mWc_k (ks := 0) (o := 0) (n := n) (S := mHd0 k S) h.1
    refine ⟨mKp_t h0.1 h1.1, ?_, ?_⟩ <;> rw [h1.2, h0.2] <;> omega
theorem mHead_k {x k n : Int} {S : MS} (h : 0 ≤ n ∧ n ≤ 2000) : mKp S (mHead x k n S) ∧ 2 ≤ (mHead x k n S).f 7 ∧ (mHead x k n S).f 7 ≤ n + 6 := by
  have h1 := mHd1_k (x := x) (k := k) (S := S) h
  refine ⟨mKp_t h1.1 mWr_k, ?_, ?_⟩ <;> (show _ ≤ _; unfold mHead; rw [mWr_p]; omega)
/-- splice -/
def mMv (a gone : Int) (S : MS) : MS := S.cp 3 (a + gone + (S.f 7 - gone)).toNat 3 (a + gone).toNat (S.f 2 - (a + gone)).toNat
def mSp1 (a gone : Int) (S : MS) : MS := ((mMv a gone S).pf 2 (S.f 2 + (S.f 7 - gone))).cp 3 a.toNat 13 0 (S.f 7).toNat
def mUpN (more : Int) : Nat → Int → MS → MS
  | 0, _, S => S
  | N + 1, b, S => if b < 0 then S else mUpN more N ((mPl (mVal b S) (mLow (S.a 3) (mVal b S) 4 + more) S).a 4 b.toNat) (mPl (mVal b S) (mLow (S.a 3) (mVal b S) 4 + more) S)
theorem mUpN_e {more : Int} {N : Nat} {b : Int} {S : MS} (h : b < 0) : mUpN more N b S = S := by
  cases N with
  | zero => rfl
  | succ N => exact if_pos h
theorem mUpN_s {more : Int} {N : Nat} {b : Int} {S : MS} (hN : 0 < N) (h : ¬ b < 0) : mUpN more N b S = mUpN more (N - 1) ((mPl (mVal b S) (mLow (S.a 3) (mVal b S) 4 + more) S).a 4 b.toNat) (mPl (mVal b S) (mLow (S.a 3) (mVal b S) 4 + more) S) := by
  cases N with
  | zero => omega
  | succ N => exact if_neg h
def mSplice (a gone bx : Int) (S : MS) : MS := mUpN (S.f 7 - gone) 1000 bx (mSp1 a gone S)
theorem mUpN_k {more : Int} : ∀ (N : Nat) (b : Int) (S : MS), mKt S (mUpN more N b S) ∧ (mUpN more N b S).f 2 = S.f 2 := by
  intro N
  induction N with
  | zero => intro b S; exact ⟨mKt_r, rfl⟩
  | succ N ih =>
    intro b S
    unfold mUpN
    split
    · exact ⟨mKt_r, rfl⟩
    · refine ⟨mKt_t mPl_k (ih _ _).1, (ih _ _).2.trans ?_⟩
      rfl
theorem mSp1_k {a gone : Int} {S : MS} : mKt S (mSp1 a gone S) := mKt_t (cp_kt (Or.inl rfl)) (mKt_t (pf_kt (Or.inr (Or.inl rfl))) (cp_kt (Or.inl rfl)))
theorem mSplice_k {a gone bx : Int} {S : MS} : mKt S (mSplice a gone bx S) ∧ (mSplice a gone bx S).f 2 = S.f 2 + (S.f 7 - gone) := by
  have h := mUpN_k (more := S.f 7 - gone) 1000 bx (mSp1 a gone S)
  exact ⟨mKt_t mSp1_k h.1, h.2⟩
def mLoN (S : MS) (x : Int) : Nat → Int → Int → Int
  | 0, _, t => t
  | N + 1, k, t => if k < S.f 3 ∧ S.a 5 k.toNat < S.a 7 x.toNat then mLoN S x N (k + 1) k else t
def mLoF (S : MS) (x k t : Int) : Int := mLoN S x (S.f 3 - k).toNat k t
theorem mLoF_s {S : MS} {x k t : Int} (h : k < S.f 3) (h2 : S.a 5 k.toNat < S.a 7 x.toNat) : mLoF S x k t = mLoF S x (k + 1) k := by
  unfold mLoF
  rw [show (S.f 3 - k).toNat = (S.f 3 - (k + 1)).toNat + 1 by omega]
  exact if_pos ⟨h, h2⟩
theorem mLoF_e {S : MS} {x k t : Int} (h : S.f 3 ≤ k ∨ S.a 7 x.toNat ≤ S.a 5 k.toNat) : mLoF S x k t = t := by
  unfold mLoF
  cases hN : (S.f 3 - k).toNat with
  | zero => rfl
  | succ N => exact if_neg (by omega)
def mLo (x : Int) (S : MS) : Int := mLoF S x (x + 1) x
theorem mLoN_r {S : MS} {x : Int} : ∀ (N : Nat) (k t : Int), t < k → t ≤ mLoN S x N k t ∧ mLoN S x N k t < k + N := by
  intro N
  induction N with
  | zero => intro k t h; unfold mLoN; omega
  | succ N ih =>
    intro k t h
    have := ih (k + 1) k (by omega)
    unfold mLoN
    split <;> omega
theorem mLo_r {x : Int} {S : MS} (h : 0 ≤ x ∧ x < S.f 3) : x ≤ mLo x S ∧ mLo x S < S.f 3 := by
  have := mLoN_r (S := S) (x := x) (S.f 3 - (x + 1)).toNat (x + 1) x (by omega)
  unfold mLo mLoF
  omega
def mDpN (S : MS) (x la : Int) : Nat → Int → Int → Int
  | 0, _, b => b
  | N + 1, k, b => mDpN S x la N (k + 1) (if mBox k S = true ∧ b < S.a 8 k.toNat - S.a 8 x.toNat + 1 then S.a 8 k.toNat - S.a 8 x.toNat + 1 else b)
def mDpF (S : MS) (x la k b : Int) : Int := mDpN S x la (la + 1 - k).toNat k b
theorem mDpF_e {S : MS} {x la k b : Int} (h : la < k) : mDpF S x la k b = b := by
  unfold mDpF
  rw [show (la + 1 - k).toNat = 0 by omega]
  rfl
theorem mDpF_s {S : MS} {x la k b : Int} (h : k ≤ la) : mDpF S x la k b = mDpF S x la (k + 1) (if mBox k S = true ∧ b < S.a 8 k.toNat - S.a 8 x.toNat + 1 then S.a 8 k.toNat - S.a 8 x.toNat + 1 else b) := by
  unfold mDpF
  rw [show (la + 1 - k).toNat = (la + 1 - (k + 1)).toNat + 1 by omega]
  rfl
def mDp (x : Int) (S : MS) : Int := mDpF S x (mLo x S) x 0
theorem mDpN_r {S : MS} {x la : Int} (h8 : ∀ k, -1000000 ≤ S.a 8 k ∧ S.a 8 k ≤ 1000000) : ∀ (N : Nat) (k b : Int), 0 ≤ b ∧ b ≤ 3000000 → 0 ≤ mDpN S x la N k b ∧ mDpN S x la N k b ≤ 3000000 := by
  intro N
  induction N with
  | zero => intro k b h; exact h
  | succ N ih =>
    intro k b h
    have := h8 k.toNat
    have := h8 x.toNat
    exact ih _ _ (by split <;> omega)
def mCan (x k v n m : Int) (S : MS) : Bool :=
  if kIs k = false ∨ (mKind x S = 4 ∧ 0 < n) ∨ (¬ k = 2 ∧ 0 < m) then false else if k = 16 then decide (-2147483648 ≤ v ∧ v ≤ 2147483647) else if k = 8 then decide (v = 0 ∨ v = 1) else decide (k = 18 ∨ v = 0)
/-- the first byte 0 among the n of the tape, from k on: is there one -/
def mZrN (S : MS) : Nat → Int → Bool
  | 0, _ => false
  | N + 1, k => if S.a 0 k.toNat = 0 then true else mZrN S N (k + 1)
def mZr (S : MS) (n k : Int) : Bool := mZrN S (n - k).toNat k
theorem mZr_e {S : MS} {n k : Int} (h : n ≤ k) : mZr S n k = false := by
  unfold mZr
  rw [show (n - k).toNat = 0 by omega]
  rfl
theorem mZr_s {S : MS} {n k : Int} (h : k < n) : mZr S n k = if S.a 0 k.toNat = 0 then true else mZr S n (k + 1) := by
  unfold mZr
  rw [show (n - k).toNat = (n - (k + 1)).toNat + 1 by omega]
  rfl
def mFree (x n : Int) (S : MS) : Bool := if mKind x S = 4 then true else if mZr S n 0 = true then false else decide (mBad (S.a 0) 0 n < 0 ∧ mFd S x (S.a 0) 0 n 1 < 0)
def mIns (s x : Int) (S : MS) : Int × MS :=
  if 2000 < S.f 2 + S.f 7 then (-5, S.pf 0 0) else (mLo x (S.pf 0 0) + 1, mStore s (mSplice (S.a 7 x.toNat - 1) 0 x (S.pf 0 0)))
/-- all the rows end in the work -/
def mEn (S : MS) : Prop := (5 ≤ S.f 2 ∧ S.f 2 ≤ 2000) ∧ ∀ k : Nat, k < S.f 3 → (1 ≤ S.a 7 k ∧ S.a 7 k ≤ S.f 2) ∧ (S.a 5 k ≤ S.a 7 k) ∧ (if k = 0 then 0 else S.a 6 k + 1) ≤ S.a 7 k ∧ (k ≠ 0 → S.a 5 k < S.a 6 k ∧ 0 ≤ S.a 4 k)
theorem cp_stpd {S S1 : MS} {kd ks od os q : Nat} {i j : Int} (h : S1 = S.cp kd (od + 1) ks (os + 1) q) (hh : os ≤ od) (hi : i.toNat = od) (hj : j.toNat = os) : S1.st kd i.toNat (S1.a ks j.toNat) = S.cp kd od ks os (q + 1) := by
  rw [hi, hj, h]
  exact cp_dn hh
def mItN (S : MS) (bx nu : Int) : Nat → Int → Int → Int
  | 0, _, _ => -1
  | N + 1, k, n => if S.a 4 k.toNat = bx then (if n = nu then k else mItN S bx nu N (k + 1) (n + 1)) else mItN S bx nu N (k + 1) n
def mItF (S : MS) (bx nu k n : Int) : Int := mItN S bx nu (S.f 3 - k).toNat k n
theorem mItF_e {S : MS} {bx nu k n : Int} (h : S.f 3 ≤ k) : mItF S bx nu k n = -1 := by
  unfold mItF
  rw [show (S.f 3 - k).toNat = 0 by omega]
  rfl
theorem mItF_s {S : MS} {bx nu k n : Int} (h : k < S.f 3) : mItF S bx nu k n = if S.a 4 k.toNat = bx then (if n = nu then k else mItF S bx nu (k + 1) (n + 1)) else mItF S bx nu (k + 1) n := by
  unfold mItF
  rw [show (S.f 3 - k).toNat = (S.f 3 - (k + 1)).toNat + 1 by omega]
  rfl
def mItem (bx nu : Int) (S : MS) : Int := mItF S bx nu 1 0
theorem mItN_r {S : MS} {bx nu : Int} : ∀ (N : Nat) (k n : Int), mItN S bx nu N k n = -1 ∨ (k ≤ mItN S bx nu N k n ∧ mItN S bx nu N k n < k + N) := by
  intro N
  induction N with
  | zero => intro k n; exact Or.inl rfl
  | succ N ih =>
    intro k n
    have h1 := ih (k + 1) (n + 1)
    have h2 := ih (k + 1) n
    unfold mItN
    (repeat' split) <;> omega
theorem mItem_r {bx nu : Int} {S : MS} (h : 1 ≤ S.f 3) : mItem bx nu S = -1 ∨ (1 ≤ mItem bx nu S ∧ mItem bx nu S < S.f 3) := by
  have := mItN_r (S := S) (bx := bx) (nu := nu) (S.f 3 - 1).toNat 1 0
  unfold mItem mItF
  omega
def mAgain (S : MS) : MS := (mGoOver (S.f 2) S).pf 1 (S.f 1)
def mRenum (S : MS) : MS := (mAgain (S.pf 6 1)).pf 6 0
