/-! loading, storing, looking -/
theorem cp_stp {S S1 : MS} {kd ks od os q : Nat} {i j : Int} (h : S1 = S.cp kd od ks os q) (hh : kd ≠ ks ∨ od ≤ os) (hi : i.toNat = od + q) (hj : j.toNat = os + q) : S1.st kd i.toNat (S1.a ks j.toNat) = S.cp kd od ks os (q + 1) := by
  rw [hi, hj, h]
  exact cp_up hh
theorem cp_r {S S1 : MS} {kd ks od os q : Nat} (h : S1 = S.cp kd od ks os q) {k : Nat} (hk : k ≠ kd) : S1.a k = S.a k := by
  rw [h]
  funext x
  rw [cp_a, if_neg (fun z => hk z.1)]
theorem cp_f {S S1 : MS} {kd ks od os q : Nat} (h : S1 = S.cp kd od ks os q) : S1.f = S.f := by rw [h]; rfl
/-- the table of a document: in range -/
def mTb (S : MS) : Prop := (1 ≤ S.f 3 ∧ S.f 3 ≤ 999) ∧ ∀ k : Nat, k < S.f 3 → (0 ≤ S.a 5 k ∧ S.a 5 k ≤ 4000) ∧ (0 ≤ S.a 6 k ∧ S.a 6 k ≤ 4000) ∧ (0 ≤ S.a 7 k ∧ S.a 7 k ≤ 4000) ∧ (-1 ≤ S.a 4 k ∧ S.a 4 k < k) ∧ (0 ≤ S.a 8 k ∧ S.a 8 k ≤ 100) ∧ (S.a 7 k - (if k = 0 then 0 else S.a 6 k + 1) ≤ 4000)
theorem mTb_tab {S : MS} (h : mTb S) : mTab S := ⟨⟨by have := h.1; omega, by have := h.1; omega⟩, fun k h1 h2 => ⟨(h.2 k h2).1.1, by have := (h.2 k h2).2.1; omega⟩⟩
def mLoad0 (s : Int) (S : MS) : MS := (S.cp 3 0 2 (2000 * s).toNat (S.a 1 s.toNat).toNat).pf 2 (S.a 1 s.toNat)
def mLoad (s : Int) (S : MS) : MS := (mGoOver (S.a 1 s.toNat) (mLoad0 s S)).pf 1 (S.f 1)
def mStore (s : Int) (S : MS) : MS := (S.cp 2 (2000 * s).toNat 3 0 (S.f 2).toNat).st 1 s.toNat (S.f 2)
def mSzs (S : MS) : Prop := ∀ k : Nat, k < 8 → 0 ≤ S.a 1 k ∧ S.a 1 k ≤ 2000
def mRd0 (n : Int) (S : MS) : MS := ((S.cp 3 0 0 0 n.toNat).pf 2 n).pf 0 0
def mRead (s n : Int) (S : MS) : Int × MS :=
  if mSlot s = false ∨ n < 0 ∨ S.f 0 < n then (-1, S) else if ¬ (mGoOver n (mRd0 n S)).f 5 = 0 then ((mGoOver n (mRd0 n S)).f 5, mGoOver n (mRd0 n S)) else ((mStore s (mGoOver n (mRd0 n S))).f 5, mStore s (mGoOver n (mRd0 n S)))
/-- a slot may be loaded -/
def mLdOK (s : Int) (S : MS) : Prop := mSlot s = true → mGoGood 4000 (mGoS (S.a 1 s.toNat) (mLoad0 s S)) ∧ mTb (mLoad s S)
def mMany (s w : Int) (S : MS) : Int × MS :=
  if mSlot s = false ∨ w < 0 ∨ 2 < w then (-1, S) else ((if w = 0 then (mLoad s S).a 1 s.toNat else if w = 1 then (mLoad s S).f 3 else (mLoad s S).f 4), mLoad s S)
def mByteAt (s i : Int) (S : MS) : Int := if mSlot s = false ∨ i < 0 ∨ S.a 1 s.toNat ≤ i then -1 else S.a 2 (2000 * s + i).toNat
def mIsNode (s x : Int) (S : MS) : Bool × MS := if mSlot s = false then (false, S) else (decide (0 ≤ x ∧ x < (mLoad s S).f 3), mLoad s S)
theorem mSlot_iff {s : Int} : mSlot s = true ↔ (0 ≤ s ∧ s < 8) := decide_eq_true_iff
theorem mSlot_ff {s : Int} : mSlot s = false ↔ ¬ (0 ≤ s ∧ s < 8) := decide_eq_false_iff_not
theorem mNode_t {s x : Int} {S : MS} (h : (mIsNode s x S).1 = true) : mSlot s = true ∧ (mIsNode s x S).2 = mLoad s S ∧ (0 ≤ x ∧ x < (mLoad s S).f 3) := by
  unfold mIsNode at h ⊢
  cases hs : mSlot s with
  | false => rw [hs] at h; simp at h
  | true =>
    rw [hs] at h
    simp at h
    exact ⟨rfl, by simp, h⟩
def mKind (x : Int) (S : MS) : Int := if x = 0 then 3 else S.a 3 (S.a 5 x.toNat).toNat
def mBox (x : Int) (S : MS) : Bool := decide (mKind x S = 3 ∨ mKind x S = 4)
def mVal (x : Int) (S : MS) : Int := if x = 0 then 0 else S.a 6 x.toNat + 1
def mNxN (S : MS) (bx : Int) : Nat → Int → Int
  | 0, _ => -1
  | N + 1, k => if S.a 4 k.toNat = bx then k else mNxN S bx N (k + 1)
def mNx (S : MS) (bx k : Int) : Int := mNxN S bx (S.f 3 - k).toNat k
theorem mNx_e {S : MS} {bx k : Int} (h : S.f 3 ≤ k) : mNx S bx k = -1 := by
  unfold mNx
  rw [show (S.f 3 - k).toNat = 0 by omega]
  rfl
theorem mNx_s {S : MS} {bx k : Int} (h : k < S.f 3) : mNx S bx k = if S.a 4 k.toNat = bx then k else mNx S bx (k + 1) := by
  unfold mNx
  rw [show (S.f 3 - k).toNat = (S.f 3 - (k + 1)).toNat + 1 by omega]
  rfl
def mElsN (S : MS) (nd : Int) : Nat → Int → Int → Int
  | 0, _, acc => acc
  | N + 1, k, acc => mElsN S nd N (k + 1) (acc + (if S.a 4 k.toNat = nd then 1 else 0))
def mElsF (S : MS) (nd k to acc : Int) : Int := mElsN S nd (to - k).toNat k acc
theorem mElsF_e {S : MS} {nd k to acc : Int} (h : to ≤ k) : mElsF S nd k to acc = acc := by
  unfold mElsF
  rw [show (to - k).toNat = 0 by omega]
  rfl
theorem mElsF_s {S : MS} {nd k to acc : Int} (h : k < to) : mElsF S nd k to acc = mElsF S nd (k + 1) to (acc + (if S.a 4 k.toNat = nd then 1 else 0)) := by
  unfold mElsF
  rw [show (to - k).toNat = (to - (k + 1)).toNat + 1 by omega]
  rfl
theorem mElsN_r {S : MS} {nd : Int} : ∀ (N : Nat) (k acc : Int), acc ≤ mElsN S nd N k acc ∧ mElsN S nd N k acc ≤ acc + N := by
  intro N
  induction N with
  | zero => intro k acc; unfold mElsN; omega
  | succ N ih =>
    intro k acc
    have := ih (k + 1) (acc + (if S.a 4 k.toNat = nd then 1 else 0))
    unfold mElsN
    split at this <;> rename_i h
    · rw [if_pos h]; omega
    · rw [if_neg h]; omega
/-- how many elements a node has -/
def mEls (nd : Int) (S : MS) : Int := mElsF S nd 1 (S.f 3) 0
theorem mEls_r {nd : Int} {S : MS} (h : S.f 3 ≤ 1000) : 0 ≤ mEls nd S ∧ mEls nd S ≤ 1000 := by
  have := mElsN_r (S := S) (nd := nd) (S.f 3 - 1).toNat 1 0
  unfold mEls mElsF
  omega
def mLk (x w : Int) (S : MS) : Int :=
  if w = 0 then mKind x S else if w = 1 then S.a 4 x.toNat else if w = 2 then mNx S x 1 else if w = 3 then (if x = 0 then -1 else mNx S (S.a 4 x.toNat) (x + 1)) else if w = 4 then (if x = 0 then 0 else S.a 6 x.toNat - S.a 5 x.toNat - 1)
  else if w = 5 then S.a 7 x.toNat - mVal x S else if w = 6 then (if mKind x S = 2 then S.a 7 x.toNat - mVal x S - 5 else 0) else if w = 7 then (if mBox x S = true then mEls x S else 0) else if w = 8 then S.a 8 x.toNat else -1
def mLook (s x w : Int) (S : MS) : Int × MS := if (mIsNode s x S).1 = false then (-1, (mIsNode s x S).2) else (mLk x w (mLoad s S), mLoad s S)
def mNumOf (x : Int) (S : MS) : Int :=
  if mKind x S = 16 then (mLow (S.a 3) (mVal x S) 4 + 2147483648) % 4294967296 - 2147483648 else if mKind x S = 18 then mLow (S.a 3) (mVal x S) 8 else if mKind x S = 8 then S.a 3 (mVal x S).toNat else 0
def mNumber (s x : Int) (S : MS) : Int × MS := if (mIsNode s x S).1 = false then (0, (mIsNode s x S).2) else (mNumOf x (mLoad s S), mLoad s S)
def mLet (x : Int) (t : Bool) (i : Int) (S : MS) : Int :=
  if t = true then (if mKind x S = 2 ∧ i < S.a 7 x.toNat - mVal x S - 5 then S.a 3 (mVal x S + 4 + i).toNat else -1) else (if 0 < x ∧ i < S.a 6 x.toNat - S.a 5 x.toNat - 1 then S.a 3 (S.a 5 x.toNat + 1 + i).toNat else -1)
def mLetter (s x : Int) (t : Bool) (i : Int) (S : MS) : Int × MS := if (mIsNode s x S).1 = false then (-1, (mIsNode s x S).2) else if i < 0 then (-1, mLoad s S) else (mLet x t i (mLoad s S), mLoad s S)
def mFind0 (s x n : Int) (S : MS) : Int := if (mIsNode s x S).1 = true ∧ mBox x (mLoad s S) = true then mFd (mLoad s S) x ((mLoad s S).a 0) 0 n 1 else -1
def mFind (s x n : Int) (S : MS) : Int × MS := if n < 0 ∨ S.f 0 < n then (-1, S) else (mFind0 s x n S, (mIsNode s x S).2.pf 0 0)
theorem mKind_r {g : Nat → ClassId} {L : Nat → Nat} {κ : Nat → Option va_E} {S : MS} (h : mds g L κ S) (x : Int) : 0 ≤ mKind x S ∧ mKind x S ≤ 255 := by
  unfold mKind
  split
  · omega
  · exact h.2.2.1 3 _
theorem mVal_r {S : MS} (h : mTb S) {x : Int} (hx : 0 ≤ x ∧ x < S.f 3) : 0 ≤ mVal x S ∧ mVal x S ≤ 4001 := by
  have := (h.2 x.toNat (by omega)).2.1
  unfold mVal
  split <;> omega
