/-! adding, grafting, setting, dropping -/
theorem mEn_kp {S T : MS} (h : mEn S) (k : mKp S T) : mEn T := by
  obtain ⟨h1, h2⟩ := h
  have e2 := k.2 2 (by decide)
  have e3 := k.2 3 (by decide)
  have e4 := k.1 4 (by decide)
  have e5 := k.1 5 (by decide)
  have e6 := k.1 6 (by decide)
  have e7 := k.1 7 (by decide)
  unfold mEn
  rw [e2, e3, e4, e5, e6, e7]
  exact ⟨h1, h2⟩
def mAddWhy (x k v n m : Int) (S : MS) : Int :=
  if mCan x k v n m S = false then -2 else if mFree x n S = false ∨ 0 ≤ mBad (S.a 0) n (n + m) then -3 else if (k = 3 ∨ k = 4) ∧ S.a 8 x.toNat = 16 then -4 else 0
def mAddV (k v n m : Int) (S : MS) : MS :=
  if k = 16 then mWl v 4 S else if k = 18 then mWl v 8 S else if k = 8 then mWr v S else if k = 2 then mWr 0 (mWc 0 n m (mWl (m + 1) 4 S)) else if k = 10 then S else mWr 0 (mWl 5 4 S)
def mAdd2 (s x k v n m : Int) (S : MS) : Int × MS := if mAddWhy x k v n m S < 0 then (mAddWhy x k v n m S, S.pf 0 0) else mIns s x (mAddV k v n m (mHead x k n S))
def mAdd (s x k v n m : Int) (S : MS) : Int × MS :=
  if n < 0 ∨ m < 0 ∨ S.f 0 < n + m then (-1, S) else if (mIsNode s x S).1 = false then (-1, (mIsNode s x S).2) else if mBox x (mLoad s S) = false then (-1, mLoad s S) else mAdd2 s x k v n m (mLoad s S)
theorem mCan_8 {x v n m : Int} {S : MS} (h : mCan x 8 v n m S = true) : v = 0 ∨ v = 1 := by
  unfold mCan at h
  split at h
  · cases h
  · rw [if_neg (by decide), if_pos rfl] at h
    exact of_decide_eq_true h
theorem mCan_k {x k v n m : Int} {S : MS} (h : mCan x k v n m S = true) : kIs k = true := by
  unfold mCan at h
  split at h
  · cases h
  · rename_i z
    cases hk : kIs k with
    | true => rfl
    | false => exact absurd (Or.inl hk) z
def mGrWhy (x n deep : Int) (S : MS) : Int := if mKind x S = 4 ∧ 0 < n then -2 else if mFree x n S = false then -3 else if 0 < deep ∧ 16 < S.a 8 x.toNat + deep then -4 else 0
def mGrDeep (y : Int) (S : MS) : Int := if mBox y S = true then mDp y S else 0
def mGr2 (s x t k deep fr mn n : Int) (S : MS) : Int × MS := if mGrWhy x n deep S < 0 then (mGrWhy x n deep S, S.pf 0 0) else mIns s x (mWc 2 (2000 * t + fr) mn (mHead x k n S))
def mGraft (s x t y n : Int) (S : MS) : Int × MS :=
  if n < 0 ∨ S.f 0 < n then (-1, S) else if (mIsNode s x S).1 = false then (-1, (mIsNode s x S).2) else if mBox x (mLoad s S) = false then (-1, mLoad s S) else if (mIsNode t y (mLoad s S)).1 = false then (-1, (mIsNode t y (mLoad s S)).2)
  else mGr2 s x t (mKind y (mLoad t (mLoad s S))) (mGrDeep y (mLoad t (mLoad s S))) (mVal y (mLoad t (mLoad s S))) ((mLoad t (mLoad s S)).a 7 y.toNat - mVal y (mLoad t (mLoad s S))) n (mLoad s (mLoad t (mLoad s S)))
def mSet (s x v : Int) (S : MS) : Bool × MS :=
  if (mIsNode s x S).1 = false then (false, (mIsNode s x S).2) else if ¬ (mKind x (mLoad s S) = 16 ∨ mKind x (mLoad s S) = 18 ∨ mKind x (mLoad s S) = 8) ∨ mCan 0 (mKind x (mLoad s S)) v 0 0 (mLoad s S) = false then (false, mLoad s S)
  else (true, mStore s (mPlN (mVal x (mLoad s S)) v (mWid (mKind x (mLoad s S)) - 0).toNat 0 (mLoad s S)))
def mDrS (s fr nu : Int) (S : MS) : MS := mStore s (mSplice (S.a 5 (mItem fr nu S).toNat + 1) (S.a 6 (mItem fr nu S).toNat - S.a 5 (mItem fr nu S).toNat - 1) fr (mWd nu (S.pf 7 0)))
def mDrN (s fr : Int) : Nat → Int → MS → MS
  | 0, _, S => S
  | N + 1, nu, S => if 0 < mItem fr nu (mRenum S) then mDrN s fr N (nu + 1) (mDrS s fr nu (mRenum S)) else mRenum S
def mDrC (fr nu : Int) (S : MS) : Prop :=
  (0 ≤ S.f 2 ∧ S.f 2 ≤ 2000) ∧ mGoGood 4000 (mGoS (S.f 2) (S.pf 6 1)) ∧ mTb (mRenum S) ∧ mEn (mRenum S) ∧ (0 ≤ nu ∧ nu ≤ 1000) ∧ fr < (mRenum S).f 3 ∧ (0 < mItem fr nu (mRenum S) → (mRenum S).f 2 + bDigits nu - ((mRenum S).a 6 (mItem fr nu (mRenum S)).toNat - (mRenum S).a 5 (mItem fr nu (mRenum S)).toNat - 1) ≤ 2000)
def mDrGood (s fr : Int) : Nat → Int → MS → Prop
  | 0, _, _ => False
  | N + 1, nu, S => mDrC fr nu S ∧ (0 < mItem fr nu (mRenum S) → mDrGood s fr N (nu + 1) (mDrS s fr nu (mRenum S)))
theorem mDrGood_t {s fr : Int} {q : Nat} {nu : Int} {S : MS} (h : mDrGood s fr q nu S) : 0 < q ∧ mDrC fr nu S ∧ (0 < mItem fr nu (mRenum S) → mDrGood s fr (q - 1) (nu + 1) (mDrS s fr nu (mRenum S))) := by
  cases q with
  | zero => exact absurd h id
  | succ q => exact ⟨by omega, h⟩
theorem mDrN_s {s fr : Int} {q : Nat} {nu : Int} {S : MS} (hq : 0 < q) (h : 0 < mItem fr nu (mRenum S)) : mDrN s fr q nu S = mDrN s fr (q - 1) (nu + 1) (mDrS s fr nu (mRenum S)) := by
  cases q with
  | zero => omega
  | succ q => exact if_pos h
theorem mDrN_e {s fr : Int} {q : Nat} {nu : Int} {S : MS} (hq : 0 < q) (h : ¬ 0 < mItem fr nu (mRenum S)) : mDrN s fr q nu S = mRenum S := by
  cases q with
  | zero => omega
  | succ q => exact if_neg h
def mDr0 (s x : Int) (S : MS) : MS := mStore s (mSplice (S.a 5 x.toNat) (S.a 7 x.toNat - S.a 5 x.toNat) (S.a 4 x.toNat) (S.pf 7 0))
def mDrop (s x : Int) (S : MS) : Bool × MS :=
  if (mIsNode s x S).1 = false then (false, (mIsNode s x S).2) else if x = 0 then (false, mLoad s S) else if ¬ mKind ((mLoad s S).a 4 x.toNat) (mLoad s S) = 4 then (true, mDr0 s x (mLoad s S))
  else (true, mDrN s ((mLoad s S).a 4 x.toNat) 1000 (mElsF (mLoad s S) ((mLoad s S).a 4 x.toNat) 1 x 0) (mDr0 s x (mLoad s S)))
theorem mDp_r {x : Int} {S : MS} (h8 : ∀ k, -1000000 ≤ S.a 8 k ∧ S.a 8 k ≤ 1000000) : 0 ≤ mDp x S ∧ mDp x S ≤ 3000000 := mDpN_r h8 _ _ _ (by omega)
