theorem zne2 {x : Bool} (h : x = true) : ¬ x = false := by rw [h]; decide
/-! goOver: the state, the place, the open boxes -/
abbrev mG : Type := MS × Int × Int
def mGo0 (n : Int) (S : MS) : MS := ((((((((S.pf 5 0).pf 1 (-1)).pf 4 0).pf 3 1).st 4 0 (-1)).st 5 0 0).st 6 0 0).st 7 0 n).st 8 0 1
def mGoS (n : Int) (S : MS) : mG := ((mOpens 0 n 0 0 false (mGo0 n S)).2, 4, if (mOpens 0 n 0 0 false (mGo0 n S)).1 = true then 1 else 0)
/-- the kind of the newest row -/
def mK (S : MS) : Int := S.a 3 (S.a 5 (S.f 3 - 1).toNat).toNat
def mClose (t op : Int) (S : MS) : MS := if ¬ S.a 3 t.toNat = 0 then (mStop 2 t S).st 7 ((mStop 2 t S).a 10 (op - 1).toNat).toNat (t + 1) else S.st 7 (S.a 10 (op - 1).toNat).toNat (t + 1)
def mGoE (t op : Int) (S : MS) : Int × MS := mElem t (S.a 9 (op - 1).toNat - 1) op S
def mGoO (t op : Int) (S : MS) : Bool × MS := mOpens (mGoE t op S).1 (S.a 9 (op - 1).toNat - 1 - (mGoE t op S).1) op ((mGoE t op S).2.f 3 - 1) (decide (mK (mGoE t op S).2 = 4)) (mGoE t op S).2
def mGoStep (s : mG) : mG :=
  if s.2.1 = s.1.a 9 (s.2.2 - 1).toNat - 1 then (mClose s.2.1 s.2.2 s.1, s.2.1 + 1, s.2.2 + (-1))
  else if s.1.a 3 s.2.1.toNat = 0 then (mStop 2 s.2.1 s.1, s.2.1, s.2.2)
  else if kIs (s.1.a 3 s.2.1.toNat) = false then (mStop 3 s.2.1 s.1, s.2.1, s.2.2)
  else if (mGoE s.2.1 s.2.2 s.1).2.f 5 = 0 ∧ (mK (mGoE s.2.1 s.2.2 s.1).2 = 3 ∨ mK (mGoE s.2.1 s.2.2 s.1).2 = 4) then ((mGoO s.2.1 s.2.2 s.1).2, (mGoE s.2.1 s.2.2 s.1).1 + 4, if (mGoO s.2.1 s.2.2 s.1).1 = true then s.2.2 + 1 else s.2.2)
  else ((mGoE s.2.1 s.2.2 s.1).2, (mGoE s.2.1 s.2.2 s.1).1, s.2.2)
def mGo : Nat → mG → mG
  | 0, s => s
  | N + 1, s => if 0 < s.2.2 ∧ s.1.f 5 = 0 then mGo N (mGoStep s) else s
theorem mGo_s {N : Nat} {s : mG} (h : 0 < s.2.2 ∧ s.1.f 5 = 0) : mGo (N + 1) s = mGo N (mGoStep s) := if_pos h
theorem mGo_e {N : Nat} {s : mG} (h : ¬ (0 < s.2.2 ∧ s.1.f 5 = 0)) : mGo N s = s := by
  cases N with
  | zero => rfl
  | succ N => exact if_neg h
def mGoOver (n : Int) (S : MS) : MS := (mGo 4000 (mGoS n S)).1
/-- what a step needs -/
def mGoC (s : mG) : Prop :=
  (1 ≤ s.2.2 ∧ s.2.2 ≤ 16) ∧ (0 ≤ s.2.1 ∧ s.2.1 ≤ s.1.a 9 (s.2.2 - 1).toNat - 1 ∧ s.1.a 9 (s.2.2 - 1).toNat - 1 ≤ 4000) ∧ (1 ≤ s.1.f 3 ∧ s.1.f 3 ≤ 998) ∧ (0 ≤ s.1.a 10 (s.2.2 - 1).toNat ∧ s.1.a 10 (s.2.2 - 1).toNat < 1000) ∧ mTab s.1 ∧ (0 ≤ s.1.a 11 (s.2.2 - 1).toNat ∧ s.1.a 11 (s.2.2 - 1).toNat ≤ 5000)
  ∧ (s.2.1 < s.1.a 9 (s.2.2 - 1).toNat - 1 → (0 ≤ (mGoE s.2.1 s.2.2 s.1).1 ∧ (mGoE s.2.1 s.2.2 s.1).1 ≤ 4000) ∧ ((mGoE s.2.1 s.2.2 s.1).2.f 5 = 0 → (1 ≤ (mGoE s.2.1 s.2.2 s.1).2.f 3 ∧ (mGoE s.2.1 s.2.2 s.1).2.f 3 ≤ 999) ∧ 0 ≤ (mGoE s.2.1 s.2.2 s.1).2.a 5 ((mGoE s.2.1 s.2.2 s.1).2.f 3 - 1).toNat ∧ (mGoE s.2.1 s.2.2 s.1).2.a 5 ((mGoE s.2.1 s.2.2 s.1).2.f 3 - 1).toNat < 4400))
def mGoGood : Nat → mG → Prop
  | 0, s => ¬ (0 < s.2.2 ∧ s.1.f 5 = 0)
  | N + 1, s => (0 < s.2.2 ∧ s.1.f 5 = 0) → mGoC s ∧ mGoGood N (mGoStep s)
theorem mGo_t {q : Nat} {s : mG} (hq : 0 < q) (h : 0 < s.2.2 ∧ s.1.f 5 = 0) : mGo q s = mGo (q - 1) (mGoStep s) := by
  cases q with
  | zero => omega
  | succ q => exact mGo_s h
theorem mGoGood_t {q : Nat} {s : mG} (hg : mGoGood q s) (h : 0 < s.2.2 ∧ s.1.f 5 = 0) : 0 < q ∧ mGoC s ∧ mGoGood (q - 1) (mGoStep s) := by
  cases q with
  | zero => exact absurd h hg
  | succ q => exact ⟨by omega, hg h⟩
