/-! PURE 9: what going over leaves as it was -/
def mFr (S U : MS) : Prop := (∀ q, q = 0 ∨ q = 1 ∨ q = 2 ∨ q = 3 ∨ q = 13 → U.a q = S.a q) ∧ ∀ j, j = 0 ∨ j = 2 ∨ j = 6 ∨ j = 7 ∨ j = 8 → U.f j = S.f j
theorem mFr_r {S : MS} : mFr S S := ⟨fun _ _ => rfl, fun _ _ => rfl⟩
theorem mFr_t {S U V : MS} (h : mFr S U) (h2 : mFr U V) : mFr S V := ⟨fun q a => (h2.1 q a).trans (h.1 q a), fun j a => (h2.2 j a).trans (h.2 j a)⟩
theorem mFr_st {S U : MS} {k i : Nat} {v : Int} (h : mFr S U) (hk : 4 ≤ k ∧ k ≤ 12) : mFr S (U.st k i v) := ⟨fun q a => (st_ne (by omega)).trans (h.1 q a), h.2⟩
theorem mFr_pf {S U : MS} {j : Nat} {v : Int} (h : mFr S U) (hj : j = 1 ∨ j = 3 ∨ j = 4 ∨ j = 5) : mFr S (U.pf j v) := ⟨h.1, fun q a => by rw [pf_f, if_neg (by omega)]; exact h.2 q a⟩
theorem mFr_stop {S U : MS} {y x : Int} (h : mFr S U) : mFr S (mStop y x U) := by
  unfold mStop
  split
  · exact h
  · exact mFr_pf (mFr_pf h (by omega)) (by omega)
theorem mFr_opens {S U : MS} {at_ left op nd : Int} {r : Bool} (h : mFr S U) : mFr S (mOpens at_ left op nd r U).2 := by
  have hA : mFr S (mOpA at_ left op U) := by
    unfold mOpA
    split
    · exact mFr_stop h
    · split
      · exact mFr_stop h
      · split
        · exact mFr_stop h
        · exact h
  unfold mOpens
  split
  · exact mFr_stop h
  · split
    · exact hA
    · unfold mOpB
      exact mFr_pf (mFr_st (mFr_st (mFr_st (mFr_st hA (by omega)) (by omega)) (by omega)) (by omega)) (by omega)
theorem mFr_value {S U : MS} {k a last : Int} (h : mFr S U) : mFr S (mValue k a last U).2 := by
  have hA : mFr S (mTxA a last U) := by
    unfold mTxA
    split
    · exact mFr_stop h
    · split
      · exact mFr_stop h
      · exact h
  unfold mValue
  split
  · unfold mValN
    split
    · exact mFr_stop h
    · split
      · exact mFr_stop h
      · exact h
  · split
    · unfold mText
      split
      · exact mFr_stop h
      · split
        · exact hA
        · have hB : mFr S (mTxB (a + 4 + mLow (U.a 3) a 4) (mTxA a last U)) := by
            unfold mTxB
            split
            · exact mFr_stop hA
            · exact hA
          unfold mTxC
          split
          · exact hB
          · exact mFr_stop hB
    · exact h
theorem mFr_elem {S U : MS} {a last op : Int} (h : mFr S U) : mFr S (mElem a last op U).2 := by
  have hA : ∀ fr to, mFr S (mElA fr to op U) := by
    intro fr to
    unfold mElA
    split
    · split
      · exact h
      · exact mFr_stop h
    · exact mFr_stop h
  unfold mElem
  split
  · exact mFr_stop h
  · split
    · exact hA _ _
    · unfold mElE mElD mElC
      exact mFr_st (mFr_value (mFr_st (mFr_st (mFr_st (mFr_st (mFr_st (mFr_pf (hA _ _) (by omega)) (by omega)) (by omega)) (by omega)) (by omega)) (by omega))) (by omega)
theorem mFr_step {S : MS} {g : mG} (h : mFr S g.1) : mFr S (mGoStep g).1 := by
  have hE : mFr S (mGoE g.2.1 g.2.2 g.1).2 := by unfold mGoE; exact mFr_elem h
  unfold mGoStep
  split
  · unfold mClose
    split
    · exact mFr_st (mFr_stop h) (by omega)
    · exact mFr_st h (by omega)
  · split
    · exact mFr_stop h
    · split
      · exact mFr_stop h
      · split
        · unfold mGoO; exact mFr_opens hE
        · exact hE
theorem mFr_go {S : MS} : ∀ (N : Nat) (g : mG), mFr S g.1 → mFr S (mGo N g).1 := by
  intro N
  induction N with
  | zero => intro g h; exact h
  | succ N ih =>
    intro g h
    unfold mGo
    split
    · exact ih _ (mFr_step h)
    · exact h
theorem mFr_over {S : MS} (n : Int) : mFr S (mGoOver n S) := by
  unfold mGoOver
  refine mFr_go _ _ ?_
  unfold mGoS
  refine mFr_opens ?_
  unfold mGo0
  exact mFr_st (mFr_st (mFr_st (mFr_st (mFr_st (mFr_pf (mFr_pf (mFr_pf (mFr_pf mFr_r (by omega)) (by omega)) (by omega)) (by omega)) (by omega)) (by omega)) (by omega)) (by omega)) (by omega)
