/-! PURE 6: the reference makes the same run -/
theorem st_ne {S : MS} {k i q : Nat} {v : Int} (h : q ≠ k) : (S.st k i v).a q = S.a q := by
  funext x
  rw [st_a, if_neg (fun z => h z.1)]
theorem st_eq {S : MS} {k i x : Nat} {v : Int} : (S.st k i v).a k x = if x = i then v else S.a k x := by
  rw [st_a]
  by_cases e : x = i
  · rw [if_pos ⟨rfl, e⟩, if_pos e]
  · rw [if_neg (fun z => e z.2), if_neg e]
theorem st_f {S : MS} {k i : Nat} {v : Int} : (S.st k i v).f = S.f := rfl
theorem pf_a {S : MS} {j : Nat} {v : Int} : (S.pf j v).a = S.a := rfl
theorem opn_close {f : Nat → Int} {ln : Bool} {n t ins : Int} {T : Nat → Nat → Int} {c : Nat} (h : PC f ln n (t, ins, T, c)) (hi : 0 ≤ ins) {p : Nat} (z : ¬ opn T c (T 1 ins.toNat) p) : ¬ opn T c ins p ∨ (p : Int) = ins := by
  have hin := PC_ins h hi
  by_cases e : (p : Int) = ins
  · exact Or.inr e
  · refine Or.inl (fun w => z ⟨?_, w.2⟩)
    exact w.2 ins.toNat (by have := w.1; omega) (by have := hin.1.1; omega)
theorem opn_app {f : Nat → Int} {ln : Bool} {n t ins : Int} {T : Nat → Nat → Int} {c : Nat} (h : PC f ln n (t, ins, T, c)) (hi : 0 ≤ ins) {k nm va vl : Int} {q : Int} (hq : q = c ∨ q = ins) {p : Nat} (hp : p < c) : opn (nApp T c k ins nm va vl) (c + 1) q p ↔ opn T c ins p := by
  constructor
  · rintro ⟨a, b⟩
    refine ⟨?_, fun j x y => ?_⟩
    · have := b c hp (by omega); rw [nA_1] at this; exact this
    · have := b j x (by omega); rw [nA_o (by omega) (by decide)] at this; exact this
  · rintro ⟨a, b⟩
    refine ⟨by omega, fun j x y => ?_⟩
    by_cases e : j = c
    · subst e; rw [nA_1]; exact a
    · rw [nA_o (by omega) (by decide)]; exact b j x (by omega)
/-- rows, the stack of the boxes that stand open, and the rest -/
def mRow (n ins : Int) (T : Nat → Nat → Int) (c : Nat) (S : MS) (k : Nat) : Prop :=
  S.a 4 k = T 1 k ∧ S.a 8 k = T 2 k ∧ (1 ≤ k → S.a 5 k = T 3 k - 1 ∧ S.a 6 k = T 4 k - 1) ∧ (k = 0 → S.a 5 0 = 0 ∧ S.a 6 0 = 0 ∧ S.a 7 0 = n) ∧ (¬ opn T c ins k → S.a 7 k = tE T k)
def mStk (T : Nat → Nat → Int) (c : Nat) (S : MS) (i : Nat) : Prop :=
  (0 ≤ S.a 10 i ∧ S.a 10 i < c) ∧ S.a 9 i = tE T (S.a 10 i).toNat ∧ S.a 11 i = T 6 (S.a 10 i).toNat ∧ S.a 12 i = (if T 0 (S.a 10 i).toNat = 4 then 1 else 0) ∧ T 1 (S.a 10 i).toNat = (if i = 0 then -1 else S.a 10 (i - 1)) ∧ T 2 (S.a 10 i).toNat = i + 1
def mDeepest (T : Nat → Nat → Int) (c : Nat) (d : Int) : Prop := (∀ k, k < c → T 2 k ≤ d) ∧ ∃ k, k < c ∧ T 2 k = d
def mR (f : Nat → Int) (ln : Bool) (n : Int) (s : sS) (g : mG) : Prop :=
  (g.2.1 = s.1 ∧ g.1.f 3 = s.2.2.2 ∧ g.1.f 5 = 0 ∧ g.1.f 1 = -1 ∧ g.1.f 6 = bI ln) ∧ g.1.a 3 = f ∧ (∀ k, k < s.2.2.2 → mRow n s.2.1 s.2.2.1 s.2.2.2 g.1 k) ∧ (∀ i : Nat, i < g.2.2 → mStk s.2.2.1 s.2.2.2 g.1 i) ∧ ((s.2.1 = -1 ∧ g.2.2 = 0) ∨ (0 ≤ s.2.1 ∧ 1 ≤ g.2.2 ∧ s.2.1 = g.1.a 10 (g.2.2 - 1).toNat)) ∧ mDeepest s.2.2.1 s.2.2.2 (g.1.f 4)
theorem mR_in {f : Nat → Int} {ln : Bool} {n t ins : Int} {T : Nat → Nat → Int} {c : Nat} {S : MS} {u op : Int} (h : PC f ln n (t, ins, T, c)) (hR : mR f ln n (t, ins, T, c) (S, u, op)) (hi : 0 ≤ ins) :
    u = t ∧ (1 ≤ op ∧ op ≤ 16) ∧ S.a 10 (op - 1).toNat = ins ∧ S.a 9 (op - 1).toNat - 1 = aLast T ins ∧ S.a 11 (op - 1).toNat = T 6 ins.toNat ∧ S.a 12 (op - 1).toNat = (if T 0 ins.toNat = 4 then 1 else 0) ∧ T 2 ins.toNat = op := by
  obtain ⟨⟨e1, _⟩, _, _, hS, hO, _⟩ := hR
  have hin := PC_ins h hi
  dsimp only at *
  rcases hO with ⟨a, _⟩ | ⟨_, o1, o2⟩
  · omega
  · obtain ⟨s1, s2, s3, s4, s5, s6⟩ := hS (op - 1).toNat (by omega)
    rw [← o2] at s1 s2 s3 s4 s5 s6
    unfold aLast
    refine ⟨e1, ⟨o1, by omega⟩, o2.symm, by rw [s2], s3, s4, by omega⟩
/-- the state behind an element's head -/
theorem mElC_a {t z op : Int} {S : MS} : (mElC t z op S).a 3 = S.a 3 ∧ (mElC t z op S).a 9 = S.a 9 ∧ (mElC t z op S).a 10 = S.a 10 ∧ (mElC t z op S).a 12 = S.a 12 ∧ (mElC t z op S).a 7 = S.a 7 ∧ (∀ x, (mElC t z op S).a 4 x = if x = (S.f 3).toNat then S.a 10 (op - 1).toNat else S.a 4 x) ∧ (∀ x, (mElC t z op S).a 5 x = if x = (S.f 3).toNat then t else S.a 5 x) ∧ (∀ x, (mElC t z op S).a 6 x = if x = (S.f 3).toNat then z else S.a 6 x) ∧ (∀ x, (mElC t z op S).a 11 x = if x = (op - 1).toNat then S.a 11 (op - 1).toNat + 1 else S.a 11 x) ∧ (∀ x, (mElC t z op S).a 8 x = if x = (S.f 3).toNat then op + (if S.a 3 t.toNat = 3 ∨ S.a 3 t.toNat = 4 then 1 else 0) else S.a 8 x) ∧ ∀ j, (mElC t z op S).f j = if j = 3 then S.f 3 + 1 else S.f j := by
  unfold mElC
  refine ⟨?_, ?_, ?_, ?_, ?_, fun x => ?_, fun x => ?_, fun x => ?_, fun x => ?_, fun x => ?_, fun j => ?_⟩
  · rw [st_ne (by decide), st_ne (by decide), st_ne (by decide), st_ne (by decide), st_ne (by decide)]; rfl
  · rw [st_ne (by decide), st_ne (by decide), st_ne (by decide), st_ne (by decide), st_ne (by decide)]; rfl
  · rw [st_ne (by decide), st_ne (by decide), st_ne (by decide), st_ne (by decide), st_ne (by decide)]; rfl
  · rw [st_ne (by decide), st_ne (by decide), st_ne (by decide), st_ne (by decide), st_ne (by decide)]; rfl
  · rw [st_ne (by decide), st_ne (by decide), st_ne (by decide), st_ne (by decide), st_ne (by decide)]; rfl
  · rw [st_ne (by decide), st_ne (by decide), st_ne (by decide), st_ne (by decide), st_eq]; rfl
  · rw [st_ne (by decide), st_ne (by decide), st_ne (by decide), st_eq, st_ne (by decide)]; rfl
  · rw [st_ne (by decide), st_ne (by decide), st_eq, st_ne (by decide), st_ne (by decide)]; rfl
  · rw [st_ne (by decide), st_eq, st_ne (by decide), st_ne (by decide), st_ne (by decide)]; rfl
  · rw [st_eq, st_ne (by decide), st_ne (by decide), st_ne (by decide), st_ne (by decide)]; rfl
  · rfl
theorem mStop_v {y x : Int} {S : MS} (h : S.f 5 = 0) : (mStop y x S).f 5 = y ∧ (mStop y x S).f 1 = x := by
  unfold mStop
  rw [if_neg (fun w => w h)]
  exact ⟨rfl, rfl⟩
theorem mStop_n {y x : Int} {S : MS} (h : ¬ S.f 5 = 0) : mStop y x S = S := by
  unfold mStop
  rw [if_pos h]
/-- a leaf's value -/
theorem mValue_a {f : Nat → Int} {S : MS} (h3 : S.a 3 = f) (h5 : S.f 5 = 0) {k v last dep : Int} (hk : kIs k = true) (hh : ¬ kHold k = true) (hv : 0 ≤ v) (hvl : v ≤ last) :
    ((aFv f k v last dep).1 = 0 → mValue k v last S = (v + aVl f k v, S)) ∧ (¬ (aFv f k v last dep).1 = 0 → (mValue k v last S).2.f 5 = (aFv f k v last dep).1 ∧ (mValue k v last S).2.f 1 = (aFv f k v last dep).2) := by
  unfold mValue aFv
  rw [if_neg hh]
  by_cases h2 : k = 2
  · simp only [if_neg (show ¬ (k = 16 ∨ k = 18 ∨ k = 8) by omega), if_pos h2]
    rw [aVl_2 h2]
    unfold mText mTxA
    rw [h3]
    by_cases d1 : last - v < 4
    · rw [if_pos d1, if_pos d1]
      exact ⟨fun w => (by cases w), fun _ => mStop_v h5⟩
    · rw [if_neg d1, if_neg d1]
      by_cases d2 : mLow f v 4 < 1
      · rw [if_pos d2, if_pos d2, if_pos (mStop_nz (by decide))]
        exact ⟨fun w => (by cases w), fun _ => mStop_v h5⟩
      · rw [if_neg d2, if_neg d2]
        by_cases d3 : last - v - 4 < mLow f v 4
        · rw [if_pos d3, if_pos d3, if_pos (mStop_nz (by decide))]
          exact ⟨fun w => (by cases w), fun _ => mStop_v h5⟩
        · rw [if_neg d3, if_neg d3, if_neg (show ¬ ¬ S.f 5 = 0 from fun w => w h5)]
          unfold mTxB
          rw [h3]
          by_cases d4 : f (v + 4 + mLow f v 4 - 1).toNat = 0
          · simp only [if_neg (show ¬ ¬ f (v + 4 + mLow f v 4 - 1).toNat = 0 from fun w => w d4)]
            unfold mTxC
            rw [h3]
            have hr := mBad_r f (v + 4) (v + 4 + mLow f v 4 - 1)
            by_cases d5 : mBad f (v + 4) (v + 4 + mLow f v 4 - 1) = -1
            · rw [if_neg (show ¬ ¬ mBad f (v + 4) (v + 4 + mLow f v 4 - 1) = -1 from fun w => w d5), if_pos (show mBad f (v + 4) (v + 4 + mLow f v 4 - 1) < 0 by omega)]
              exact ⟨fun _ => by rw [show v + 4 + mLow f v 4 = v + (4 + mLow f v 4) by omega], fun w => absurd rfl w⟩
            · rw [if_pos d5]
              by_cases d6 : mBad f (v + 4) (v + 4 + mLow f v 4 - 1) < 0
              · omega
              · rw [if_neg d6]
                exact ⟨fun w => (by cases w), fun _ => mStop_v h5⟩
          · simp only [if_pos d4]
            unfold mTxC
            refine ⟨fun w => (by cases w), fun _ => ?_⟩
            have hs := mStop_v (y := 6) (x := v + 4 + mLow f v 4 - 1) h5
            split
            · exact hs
            · rw [mStop_n (by rw [hs.1]; decide)]
              exact hs
  · simp only [if_neg h2]
    by_cases h10 : k = 10
    · simp only [if_neg (show ¬ (k = 16 ∨ k = 18 ∨ k = 8) by omega)]
      have e0 : kWidth k = 0 := by rw [h10]; rfl
      rw [aVl_n hh h2, e0, if_neg (show ¬ last - v < 0 by omega), if_neg (show ¬ (k = 8 ∧ 1 < f v.toNat) by omega), Int.add_zero]
      exact ⟨fun _ => rfl, fun w => absurd rfl w⟩
    · have hkk : k = 16 ∨ k = 18 ∨ k = 8 := by
        have := of_decide_eq_true hk
        have := kHold_ff.mp (show kHold k = false by cases e : kHold k; rfl; exact absurd e hh)
        omega
      rw [if_pos hkk, aVl_n hh h2]
      have ew : mWid k = kWidth k := by
        unfold mWid kWidth
        rcases hkk with rfl | rfl | rfl <;> rfl
      unfold mValN
      rw [ew, h3]
      by_cases d1 : last - v < kWidth k
      · rw [if_pos d1, if_pos d1]
        exact ⟨fun w => (by cases w), fun _ => mStop_v h5⟩
      · rw [if_neg d1, if_neg d1]
        by_cases d2 : k = 8 ∧ 1 < f v.toNat
        · rw [if_pos d2, if_pos d2]
          exact ⟨fun w => (by cases w), fun _ => mStop_v h5⟩
        · rw [if_neg d2, if_neg d2]
          exact ⟨fun _ => rfl, fun w => absurd rfl w⟩
