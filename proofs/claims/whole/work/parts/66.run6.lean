/-! PURE 7: the reference's step -/
theorem mFdN_m1 {S : MS} {bx : Int} {h : Nat → Int} {q w : Int} : ∀ (N : Nat) (k : Int), 0 ≤ k → (mFdN S bx h q w N k = -1 ↔ ∀ j : Int, k ≤ j → j < k + N → ¬ mHit S bx h q w j = true) := by
  intro N
  induction N with
  | zero => intro k _; exact ⟨fun _ j a d => by omega, fun _ => rfl⟩
  | succ N ih =>
    intro k hk
    unfold mFdN
    by_cases e : mHit S bx h q w k = true
    · rw [if_pos e]
      exact ⟨fun z => by omega, fun z => absurd e (z k (by omega) (by omega))⟩
    · rw [if_neg e, ih (k + 1) (by omega)]
      constructor
      · intro z j a d
        by_cases e2 : j = k
        · subst e2; exact e
        · exact z j (by omega) (by omega)
      · intro z j a d
        exact z j (by omega) (by omega)
def mRw (T : Nat → Nat → Int) (c : Nat) (S : MS) : Prop := S.f 3 = c ∧ ∀ k : Nat, 1 ≤ k → k < c → S.a 4 k = T 1 k ∧ S.a 5 k = T 3 k - 1 ∧ S.a 6 k = T 4 k - 1
theorem mHit_s {T : Nat → Nat → Int} {c : Nat} {S : MS} (hR : mRw T c S) {bx q w : Int} {h : Nat → Int} {k : Nat} (k1 : 1 ≤ k) (k2 : k < c) : mHit S bx h q w k = true ↔ (T 1 k = bx ∧ T 4 k - 1 - T 3 k = w) ∧ ∀ j : Int, 0 ≤ j → j < w → S.a 3 (T 3 k + j).toNat = h (q + j).toNat := by
  obtain ⟨a, b, d⟩ := hR.2 k k1 k2
  unfold mHit
  rw [show ((k : Int)).toNat = k by omega, Bool.and_eq_true, decide_eq_true_iff, mSm_iff, a, b, d, show T 3 k - 1 + 1 = T 3 k by omega, show T 4 k - 1 - (T 3 k - 1) - 1 = T 4 k - 1 - T 3 k by omega]
theorem mFd_a {T : Nat → Nat → Int} {c : Nat} {S : MS} {f : Nat → Int} (hR : mRw T c S) (h3 : S.a 3 = f) (h0 : T 1 0 = -1) {ins q w : Int} (hi : 0 ≤ ins) : mFd S ins f q w 1 = -1 ↔ aDup T f ins q w c = false := by
  unfold mFd
  rw [hR.1, mFdN_m1 _ _ (by omega)]
  constructor
  · intro g
    cases e : aDup T f ins q w c
    · rfl
    · exfalso
      obtain ⟨k, k1, k2⟩ := aDup_iff.mp e
      have k3 := aSame_iff.mp k2
      have kp : 1 ≤ k := by
        by_cases k0 : k = 0
        · subst k0; omega
        · omega
      refine g k (by omega) (by omega) ((mHit_s hR kp k1).mpr ?_)
      rw [h3]
      exact k3
  · intro g j a d z
    have ej : j = ((j.toNat : Nat) : Int) := by omega
    rw [ej] at z
    have := (mHit_s hR (by omega) (by omega)).mp z
    rw [h3] at this
    have : aDup T f ins q w c = true := aDup_iff.mpr ⟨j.toNat, by omega, aSame_iff.mpr this⟩
    rw [g] at this
    cases this
theorem mR_rw {f : Nat → Int} {ln : Bool} {n : Int} {s : sS} {g : mG} (h : mR f ln n s g) : mRw s.2.2.1 s.2.2.2 g.1 := ⟨h.1.2.1, fun k a b => ⟨(h.2.2.1 k b).1, (h.2.2.1 k b).2.2.1 a⟩⟩
theorem mIsName_a {f : Nat → Int} {ln : Bool} {n t ins : Int} {T : Nat → Nat → Int} {c : Nat} {S : MS} {op : Int} (h : PC f ln n (t, ins, T, c)) (hR : mR f ln n (t, ins, T, c) (S, t, op)) (hi : 0 ≤ ins) (z : Int) : mIsName (t + 1) z op S = aNm f ln t z ins T c := by
  obtain ⟨_, o1, o2, o3, o4, o5, o6⟩ := mR_in h hR hi
  unfold mIsName aNm
  rw [o2, o4, o5, hR.2.1, hR.1.2.2.2.2]
  by_cases e4 : T 0 ins.toNat = 4
  · rw [if_pos e4, if_pos rfl, if_pos e4]
    cases ln
    · rw [if_neg (fun w => w rfl), Bool.false_or]
    · rw [if_pos (by decide), Bool.true_or]
  · rw [if_neg e4, if_neg (by decide), if_neg e4]
    have q := mFd_a (mR_rw hR) hR.2.1 h.1.2.1.2.1 (q := t + 1) (w := z - (t + 1)) hi
    dsimp only at q
    cases e5 : aDup T f ins (t + 1) (z - (t + 1)) c
    · rw [decide_eq_true (q.mpr e5)]; rfl
    · rw [decide_eq_false (fun w => by have := q.mp w; rw [e5] at this; cases this)]; rfl
theorem mEl_rows {f : Nat → Int} {ln : Bool} {n t ins : Int} {T : Nat → Nat → Int} {c : Nat} {S S1 : MS} {op : Int} (h : PC f ln n (t, ins, T, c)) (hR : mR f ln n (t, ins, T, c) (S, t, op)) (hi : 0 ≤ ins) {z v vl k w i1 : Int} (hk : k = f t.toNat) (hv : v = z + 1)
    (a4 : S1.a 4 = (mElC t z op S).a 4) (a5 : S1.a 5 = (mElC t z op S).a 5) (a6 : S1.a 6 = (mElC t z op S).a 6) (a8 : S1.a 8 = (mElC t z op S).a 8) (a7 : ∀ x, S1.a 7 x = if x = c then w else S.a 7 x) (hq : i1 = c ∨ (i1 = ins ∧ w = v + vl)) :
    ∀ x, x < c + 1 → mRow n i1 (nApp T c k ins (t + 1) v vl) (c + 1) S1 x := by
  intro x hx
  obtain ⟨_, o1, o2, o3, o4, o5, o6⟩ := mR_in h hR hi
  have hin := PC_ins h hi
  have h3 : (S.f 3).toNat = c := by have := hR.1.2.1; dsimp only at this; omega
  have hS3 : S.a 3 = f := hR.2.1
  have c1 : 1 ≤ c := h.1.1
  obtain ⟨_, _, _, _, _, b4, b5, b6, b11, b8, _⟩ := mElC_a (t := t) (z := z) (op := op) (S := S)
  unfold mRow
  rw [a4, a5, a6, a8, a7, a7, b4, b5, b6, b8, b5, b6, h3, hS3, o2]
  by_cases e : x = c
  · subst e
    rw [if_pos rfl, if_pos rfl, if_pos rfl, if_pos rfl, if_pos rfl, nA_1, nA_2 ⟨hi, hin.1.1⟩, nA_3, nA_4, nA_Ec, o6]
    refine ⟨rfl, ?_, fun _ => ⟨by omega, by omega⟩, fun w => by omega, fun w => ?_⟩
    · rw [← hk]
      by_cases hh : k = 3 ∨ k = 4
      · rw [if_pos hh, kHold_iff.mpr hh]; have : bI true = 1 := rfl; omega
      · rw [if_neg hh, kHold_ff.mpr hh]; have : bI false = 0 := rfl; omega
    · rcases hq with q | q
      · exact absurd ⟨by omega, fun j a b => by omega⟩ w
      · exact q.2
  · have hxc : x < c := by omega
    obtain ⟨r1, r2, r3, r4, r5⟩ := hR.2.2.1 x hxc
    rw [if_neg e, if_neg e, if_neg e, if_neg e, if_neg e, if_neg (by omega), if_neg (by omega), if_neg (by omega), nA_o e (by decide), nA_o e (by decide), nA_o e (by decide), nA_o e (by decide), nA_E e, opn_app h hi (by omega) hxc]
    exact ⟨r1, r2, r3, r4, r5⟩
theorem mEl_stk {f : Nat → Int} {ln : Bool} {n t ins : Int} {T : Nat → Nat → Int} {c : Nat} {S S1 : MS} {op : Int} (h : PC f ln n (t, ins, T, c)) (hR : mR f ln n (t, ins, T, c) (S, t, op)) (hi : 0 ≤ ins) {z k nm v vl : Int} {i : Nat} (hio : i < op)
    (a9 : S1.a 9 i = S.a 9 i) (a10 : ∀ j, j ≤ i → S1.a 10 j = S.a 10 j) (a12 : S1.a 12 i = S.a 12 i) (a11 : S1.a 11 i = (mElC t z op S).a 11 i) : mStk (nApp T c k ins nm v vl) (c + 1) S1 i := by
  obtain ⟨_, o1, o2, o3, o4, o5, o6⟩ := mR_in h hR hi
  have hin := PC_ins h hi
  obtain ⟨_, _, _, _, _, _, _, _, b11, _, _⟩ := mElC_a (t := t) (z := z) (op := op) (S := S)
  obtain ⟨s1, s2, s3, s4, s5, s6⟩ := hR.2.2.2.1 i hio
  dsimp only at s1 s2 s3 s4 s5 s6
  have hq : (S.a 10 i).toNat ≠ c := by omega
  unfold mStk
  rw [a9, a10 i (Nat.le_refl i), a12, a11, b11, nA_E hq, nA_6o hq ⟨hi, hin.1.1⟩, nA_o hq (by decide), nA_o hq (by decide), nA_o hq (by decide)]
  refine ⟨by omega, s2, ?_, s4, ?_, s6⟩
  · by_cases e : i = (op - 1).toNat
    · rw [if_pos e, ← e]
      rw [e, o2]
      rw [if_pos rfl, o4]
    · rw [if_neg e, if_neg (fun w => ?_), s3, Int.add_zero]
      rw [w, o6] at s6
      omega
  · rw [s5]
    by_cases e : i = 0
    · rw [if_pos e, if_pos e]
    · rw [if_neg e, if_neg e, a10 _ (by omega)]
theorem mGoE_e {f : Nat → Int} {ln : Bool} {n t ins : Int} {T : Nat → Nat → Int} {c : Nat} {S : MS} {op : Int} (h : PC f ln n (t, ins, T, c)) (hR : mR f ln n (t, ins, T, c) (S, t, op)) (hi : 0 ≤ ins) : mGoE t op S =
    if aLast T ins ≤ mNz f (aLast T ins) (t + 1) then (mNz f (aLast T ins) (t + 1), mStop 1 (t + 1) S)
    else if ¬ mBad f (t + 1) (mNz f (aLast T ins) (t + 1)) = -1 then (mNz f (aLast T ins) (t + 1), mStop 4 (mBad f (t + 1) (mNz f (aLast T ins) (t + 1))) S)
    else if aNm f ln t (mNz f (aLast T ins) (t + 1)) ins T c = false then (mNz f (aLast T ins) (t + 1), mStop 7 (t + 1) S)
    else (mElR t (mNz f (aLast T ins) (t + 1)) (aLast T ins) op S, mElE t (mNz f (aLast T ins) (t + 1)) (aLast T ins) op S) := by
  obtain ⟨_, o1, o2, o3, o4, o5, o6⟩ := mR_in h hR hi
  have hin := PC_ins h hi
  have h3 : S.a 3 = f := hR.2.1
  have h5 : S.f 5 = 0 := hR.1.2.2.1
  unfold mGoE mElem
  rw [o3, h3]
  by_cases c1 : aLast T ins ≤ mNz f (aLast T ins) (t + 1)
  · rw [if_pos c1, if_pos c1]
  · rw [if_neg c1, if_neg c1]
    generalize mNz f (aLast T ins) (t + 1) = z at *
    have hr := mBad_r f (t + 1) z
    unfold mElA
    rw [h3, mIsName_a h hR hi]
    by_cases c2 : mBad f (t + 1) z = -1
    · rw [if_pos (show mBad f (t + 1) z < 0 by omega), if_neg (show ¬ ¬ mBad f (t + 1) z = -1 from fun w => w c2)]
      by_cases c3 : aNm f ln t z ins T c = false
      · have e : (if aNm f ln t z ins T c = true then S else mStop 7 (t + 1) S) = mStop 7 (t + 1) S := if_neg (by rw [c3]; decide)
        rw [e, if_pos (mStop_nz (S := S) (x := t + 1) (show (7 : Int) ≠ 0 by decide)), if_pos c3]
      · have e : (if aNm f ln t z ins T c = true then S else mStop 7 (t + 1) S) = S := if_pos (zee c3)
        rw [e, if_neg (show ¬ ¬ S.f 5 = 0 from fun w => w h5), if_neg c3]
    · rw [if_neg (show ¬ mBad f (t + 1) z < 0 by omega), if_pos (mStop_nz (S := S) (x := mBad f (t + 1) z) (show (4 : Int) ≠ 0 by decide)), if_pos c2]
theorem kH34 {k : Int} : kHold k = true ↔ (k = 3 ∨ k = 4) := kHold_iff
def gQ (f : Nat → Int) (ln : Bool) (n : Int) (F : Int × Int) (N : sS) (G : mG) : Prop := (¬ F.1 = 0 → G.1.f 5 = F.1 ∧ G.1.f 1 = F.2) ∧ (F.1 = 0 → mR f ln n N G)
theorem gQ_bad {f : Nat → Int} {ln : Bool} {n a y : Int} {F : Int × Int} {N : sS} {G : mG} (hF : F = (a, y)) (hG : G.1.f 5 = a ∧ G.1.f 1 = y) (ha : ¬ a = 0) : gQ f ln n F N G := by
  rw [hF]
  exact ⟨fun _ => hG, fun w => absurd w ha⟩
theorem gQ_ok {f : Nat → Int} {ln : Bool} {n : Int} {F : Int × Int} {N : sS} {G : mG} (hF : F = (0, -1)) (hG : mR f ln n N G) : gQ f ln n F N G := by
  rw [hF]
  exact ⟨fun w => absurd rfl w, fun _ => hG⟩
theorem mGoStep_a {f : Nat → Int} (hf : ∀ x, 0 ≤ f x ∧ f x ≤ 255) {ln : Bool} {n t ins : Int} {T : Nat → Nat → Int} {c : Nat} {S : MS} {op : Int} (h : PC f ln n (t, ins, T, c)) (hR : mR f ln n (t, ins, T, c) (S, t, op)) (hi : 0 ≤ ins) : gQ f ln n (aF f ln (t, ins, T, c)) (aN f (t, ins, T, c)) (mGoStep (S, t, op)) := by
  obtain ⟨_, o1, o2, o3, o4, o5, o6⟩ := mR_in h hR hi
  have hin := PC_ins h hi
  obtain ⟨⟨e1, e3, e5, e1b, e6⟩, hS3, hrow, hstk, hO, hdp⟩ := hR
  have hR : mR f ln n (t, ins, T, c) (S, t, op) := ⟨⟨e1, e3, e5, e1b, e6⟩, hS3, hrow, hstk, hO, hdp⟩
  dsimp only at e1 e3 e5 e1b e6 hS3 hrow hstk hO hdp
  have h3n : (S.f 3).toNat = c := by omega
  unfold mGoStep
  dsimp only
  rw [o3, hS3]
  by_cases c0 : t = aLast T ins
  · rw [if_pos c0]
    have hF : aF f ln (t, ins, T, c) = if f t.toNat = 0 then (0, -1) else (2, t) := by unfold aF; dsimp only; rw [if_pos c0]
    have hNx : aN f (t, ins, T, c) = (t + 1, T 1 ins.toNat, T, c) := by unfold aN; dsimp only; rw [if_pos c0]
    unfold mClose
    rw [hS3]
    by_cases c1 : f t.toNat = 0
    · rw [if_pos c1] at hF
      rw [if_neg (fun w => w c1), o2]
      refine gQ_ok hF ?_
      rw [hNx]
      refine ⟨⟨rfl, e3, e5, e1b, e6⟩, by show (S.st 7 ins.toNat (t + 1)).a 3 = f; rw [st_ne (by decide)]; exact hS3, fun k hk => ?_, fun i hio => ?_, ?_, hdp⟩
      · dsimp only at hk ⊢
        obtain ⟨r1, r2, r3, r4, r5⟩ := hrow k hk
        unfold mRow
        rw [st_ne (by decide), st_ne (by decide), st_ne (by decide), st_ne (by decide), st_eq, st_eq]
        have hEn : t + 1 = tE T ins.toNat := by rw [c0]; unfold aLast; omega
        refine ⟨r1, r2, r3, fun w => ⟨(r4 w).1, (r4 w).2.1, ?_⟩, fun w => ?_⟩
        · by_cases ez : 0 = ins.toNat
          · rw [if_pos ez, hEn, ← ez]
            unfold tE
            have := h.1.2.1
            dsimp only at this
            omega
          · rw [if_neg ez]; exact (r4 w).2.2
        · by_cases ez : k = ins.toNat
          · rw [if_pos ez, hEn, ez]
          · rw [if_neg ez]
            rcases opn_close h hi w with w2 | w2
            · exact r5 w2
            · omega
      · dsimp only at hio ⊢
        have := hstk i (by omega)
        unfold mStk at this ⊢
        rw [st_ne (by decide), st_ne (by decide), st_ne (by decide), st_ne (by decide)]
        exact this
      · dsimp only
        rw [st_ne (by decide)]
        obtain ⟨s1, s2, s3, s4, s5, s6⟩ := hstk (op - 1).toNat (by omega)
        rw [o2] at s5
        by_cases eo : op = 1
        · rw [if_pos (by omega)] at s5
          exact Or.inl ⟨s5, by omega⟩
        · rw [if_neg (by omega)] at s5
          have s1b := (hstk ((op - 1).toNat - 1) (by omega)).1
          refine Or.inr ⟨by omega, by omega, ?_⟩
          rw [s5]
          congr 1
          omega
    · rw [if_neg c1] at hF
      rw [if_pos c1]
      exact gQ_bad hF (mStop_v e5) (by decide)
  · have hlt : t < aLast T ins := by omega
    have hF : aF f ln (t, ins, T, c) = aFe f ln (aLast T ins) t ins T c := by unfold aF; dsimp only; rw [if_neg c0]
    have hNx : aN f (t, ins, T, c) = (aV f (t, ins, T, c) + (if kHold (f t.toNat) = true then 4 else aVl f (f t.toNat) (aV f (t, ins, T, c))), (if kHold (f t.toNat) = true then (c : Int) else ins), nApp T c (f t.toNat) ins (t + 1) (aV f (t, ins, T, c)) (aVl f (f t.toNat) (aV f (t, ins, T, c))), c + 1) := by unfold aN; dsimp only; rw [if_neg c0]
    have hV : aV f (t, ins, T, c) = mNz f (aLast T ins) (t + 1) + 1 := rfl
    rw [hV] at hNx
    unfold aFe at hF
    rw [if_neg c0]
    by_cases c1 : f t.toNat = 0
    · rw [if_pos c1] at hF
      rw [if_pos c1]
      exact gQ_bad hF (mStop_v e5) (by decide)
    · rw [if_neg c1] at hF
      rw [if_neg c1]
      by_cases ck : kIs (f t.toNat) = false
      · rw [if_pos ck] at hF
        rw [if_pos ck]
        exact gQ_bad hF (mStop_v e5) (by decide)
      · rw [if_neg ck] at hF
        rw [if_neg ck]
        have ckt := zee ck
        have hE := mGoE_e h hR hi
        by_cases c3 : aLast T ins ≤ mNz f (aLast T ins) (t + 1)
        · rw [if_pos c3] at hF hE
          have hs := mStop_v (y := 1) (x := t + 1) e5
          rw [hE, if_neg (fun w => by rw [hs.1] at w; exact absurd w.1 (by decide))]
          exact gQ_bad hF hs (by decide)
        · rw [if_neg c3] at hF hE
          obtain ⟨z1, z2, z3, z4⟩ := mNz_spec (f := f) (last := aLast T ins) _ (t + 1) rfl (by omega)
          generalize hzz : mNz f (aLast T ins) (t + 1) = z at *
          by_cases c4 : mBad f (t + 1) z = -1
          · rw [if_neg (fun w => w c4)] at hF hE
            by_cases c5 : aNm f ln t z ins T c = false
            · rw [if_pos c5] at hF hE
              have hs := mStop_v (y := 7) (x := t + 1) e5
              rw [hE, if_neg (fun w => by rw [hs.1] at w; exact absurd w.1 (by decide))]
              exact gQ_bad hF hs (by decide)
            · rw [if_neg c5] at hF hE
              obtain ⟨b3, b9, b10, b12, b7, b4, b5, b6, b11, b8, bf⟩ := mElC_a (t := t) (z := z) (op := op) (S := S)
              have bf5 : (mElC t z op S).f 5 = 0 := by rw [bf, if_neg (by decide)]; exact e5
              have bf3 : (mElC t z op S).f 3 = c + 1 := by rw [bf, if_pos rfl]; omega
              have bf1 : (mElC t z op S).f 1 = -1 := by rw [bf, if_neg (by decide)]; exact e1b
              have bf6 : (mElC t z op S).f 6 = bI ln := by rw [bf, if_neg (by decide)]; exact e6
              have bf4 : (mElC t z op S).f 4 = S.f 4 := by rw [bf, if_neg (by decide)]
              have kh : (if f t.toNat = 3 ∨ f t.toNat = 4 then (1 : Int) else 0) = bI (kHold (f t.toNat)) := by
                by_cases hh : f t.toNat = 3 ∨ f t.toNat = 4
                · rw [if_pos hh, kHold_iff.mpr hh]; rfl
                · rw [if_neg hh, kHold_ff.mpr hh]; rfl
              by_cases hh : kHold (f t.toNat) = true
              · have hh2 := kH34.mp hh
                have hval : mElD t z (aLast T ins) op S = (z + 1, mElC t z op S) := by
                  unfold mElD mValue
                  rw [hS3, if_neg (by omega), if_neg (by omega)]
                have hEE : mElE t z (aLast T ins) op S = (mElC t z op S).st 7 c (z + 1) := by
                  unfold mElE
                  rw [hval, h3n]
                have hRR : mElR t z (aLast T ins) op S = z + 1 := by
                  unfold mElR
                  rw [hval, b3, hS3, if_pos hh2]
                rw [hEE, hRR] at hE
                have k3 : ((mElC t z op S).st 7 c (z + 1)).a 3 = f := by rw [st_ne (by decide), b3]; exact hS3
                have k5 : ((mElC t z op S).st 7 c (z + 1)).a 5 c = t := by rw [st_ne (by decide), b5, if_pos h3n.symm]
                have kf : ((mElC t z op S).st 7 c (z + 1)).f = (mElC t z op S).f := rfl
                have hmK : mK ((mElC t z op S).st 7 c (z + 1)) = f t.toNat := by
                  unfold mK
                  rw [k3, kf, bf3, show ((c : Int) + 1 - 1).toNat = c by omega, k5]
                have hO2 : mGoO t op S = mOpens (z + 1) (aLast T ins - (z + 1)) op c (decide (f t.toNat = 4)) ((mElC t z op S).st 7 c (z + 1)) := by
                  unfold mGoO
                  rw [hE, o3]
                  dsimp only
                  rw [hmK, kf, bf3, show (c : Int) + 1 - 1 = c by omega]
                rw [hO2, hE]
                dsimp only
                rw [hmK, if_pos ⟨by rw [kf]; exact bf5, hh2⟩]
                generalize hS1 : (mElC t z op S).st 7 c (z + 1) = S1 at *
                have s15 : S1.f 5 = 0 := by rw [kf]; exact bf5
                unfold aFv at hF
                rw [if_pos hh] at hF
                rw [if_pos hh, if_pos hh, aVl_h hh] at hNx
                unfold mOpens
                by_cases d1 : aLast T ins - (z + 1) < 4
                · rw [if_pos d1] at hF
                  rw [if_pos d1]
                  exact gQ_bad hF (mStop_v s15) (by decide)
                · rw [if_neg d1] at hF
                  rw [if_neg d1]
                  unfold mOpA
                  rw [k3]
                  by_cases d2 : mLow f (z + 1) 4 < 5
                  · rw [if_pos d2] at hF
                    rw [if_pos (Or.inl d2), if_pos (mStop_nz (by decide))]
                    exact gQ_bad hF (mStop_v s15) (by decide)
                  · rw [if_neg d2] at hF
                    rw [if_neg (show ¬ (mLow f (z + 1) 4 < 5 ∨ op = 0 ∧ mLow f (z + 1) 4 < aLast T ins - (z + 1)) by omega)]
                    by_cases d3 : aLast T ins - (z + 1) < mLow f (z + 1) 4
                    · rw [if_pos d3] at hF
                      rw [if_pos d3, if_pos (mStop_nz (by decide))]
                      exact gQ_bad hF (mStop_v s15) (by decide)
                    · rw [if_neg d3] at hF
                      rw [if_neg d3]
                      by_cases d4 : 16 ≤ T 2 ins.toNat
                      · rw [if_pos d4] at hF
                        rw [if_pos (show op = 16 by omega), if_pos (mStop_nz (by decide))]
                        exact gQ_bad hF (mStop_v s15) (by decide)
                      · rw [if_neg d4] at hF
                        rw [if_neg (show ¬ op = 16 by omega), if_neg (fun w => w s15)]
                        refine gQ_ok hF ?_
                        rw [hNx, if_pos rfl]
                        have m9 : ∀ x, (mOpB (z + 1) (mLow f (z + 1) 4) op c (decide (f t.toNat = 4)) S1).a 9 x = if x = op.toNat then z + 1 + mLow f (z + 1) 4 else S.a 9 x := by
                          intro x
                          unfold mOpB
                          rw [pf_a, st_ne (by decide), st_ne (by decide), st_ne (by decide), st_eq, ← hS1, st_ne (by decide), b9]
                        have m10 : ∀ x, (mOpB (z + 1) (mLow f (z + 1) 4) op c (decide (f t.toNat = 4)) S1).a 10 x = if x = op.toNat then (c : Int) else S.a 10 x := by
                          intro x
                          unfold mOpB
                          rw [pf_a, st_ne (by decide), st_ne (by decide), st_eq, st_ne (by decide), ← hS1, st_ne (by decide), b10]
                        have m11 : ∀ x, (mOpB (z + 1) (mLow f (z + 1) 4) op c (decide (f t.toNat = 4)) S1).a 11 x = if x = op.toNat then 0 else (mElC t z op S).a 11 x := by
                          intro x
                          unfold mOpB
                          rw [pf_a, st_ne (by decide), st_eq, st_ne (by decide), st_ne (by decide), ← hS1, st_ne (by decide)]
                        have m12 : ∀ x, (mOpB (z + 1) (mLow f (z + 1) 4) op c (decide (f t.toNat = 4)) S1).a 12 x = if x = op.toNat then bI (decide (f t.toNat = 4)) else S.a 12 x := by
                          intro x
                          unfold mOpB
                          rw [pf_a, st_eq, st_ne (by decide), st_ne (by decide), st_ne (by decide), ← hS1, st_ne (by decide), b12]
                        have mo : ∀ q, q ≠ 9 → q ≠ 10 → q ≠ 11 → q ≠ 12 → q ≠ 7 → (mOpB (z + 1) (mLow f (z + 1) 4) op c (decide (f t.toNat = 4)) S1).a q = (mElC t z op S).a q := by
                          intro q q9 q10 q11 q12 q7
                          unfold mOpB
                          rw [pf_a, st_ne q12, st_ne q11, st_ne q10, st_ne q9, ← hS1, st_ne q7]
                        have m7 : ∀ x, (mOpB (z + 1) (mLow f (z + 1) 4) op c (decide (f t.toNat = 4)) S1).a 7 x = if x = c then z + 1 else S.a 7 x := by
                          intro x
                          unfold mOpB
                          rw [pf_a, st_ne (by decide), st_ne (by decide), st_ne (by decide), st_ne (by decide), ← hS1, st_eq, b7]
                        have mf : ∀ j, (mOpB (z + 1) (mLow f (z + 1) 4) op c (decide (f t.toNat = 4)) S1).f j = if j = 4 then (if S.f 4 < op + 1 then op + 1 else S.f 4) else (mElC t z op S).f j := by
                          intro j
                          unfold mOpB
                          rw [pf_f, st_f, st_f, st_f, st_f, kf, bf4]
                        refine ⟨⟨rfl, ?_, ?_, ?_, ?_⟩, ?_, ?_, fun i hio => ?_, Or.inr ⟨?_, ?_, ?_⟩, ?_⟩
                        · show (mOpB _ _ _ _ _ S1).f 3 = _; rw [mf, if_neg (by decide), bf3]; dsimp only; omega
                        · show (mOpB _ _ _ _ _ S1).f 5 = _; rw [mf, if_neg (by decide), bf5]
                        · show (mOpB _ _ _ _ _ S1).f 1 = _; rw [mf, if_neg (by decide), bf1]
                        · show (mOpB _ _ _ _ _ S1).f 6 = _; rw [mf, if_neg (by decide), bf6]
                        · show (mOpB _ _ _ _ _ S1).a 3 = f
                          rw [mo 3 (by decide) (by decide) (by decide) (by decide) (by decide), b3]; exact hS3
                        · exact mEl_rows h hR hi rfl rfl (mo 4 (by decide) (by decide) (by decide) (by decide) (by decide)) (mo 5 (by decide) (by decide) (by decide) (by decide) (by decide)) (mo 6 (by decide) (by decide) (by decide) (by decide) (by decide)) (mo 8 (by decide) (by decide) (by decide) (by decide) (by decide)) m7 (Or.inl rfl)
                        · dsimp only at hio ⊢
                          by_cases ei : i < op
                          · refine mEl_stk (z := z) h hR hi ei (by rw [m9, if_neg (by omega)]) (fun j hj => by rw [m10, if_neg (by omega)]) (by rw [m12, if_neg (by omega)]) (by rw [m11, if_neg (by omega)])
                          · have ei2 : i = op.toNat := by omega
                            unfold mStk
                            rw [m9, m10, m11, m12, m10, if_pos ei2, if_pos ei2, if_pos ei2, if_pos ei2, if_neg (show ¬ i - 1 = op.toNat by omega), if_neg (show ¬ i = 0 by omega), show ((c : Int)).toNat = c by omega, nA_Ec, nA_6, nA_0, nA_1, nA_2 ⟨hi, hin.1.1⟩, hh, o6]
                            refine ⟨⟨by omega, by omega⟩, rfl, rfl, ?_, ?_, ?_⟩
                            · by_cases e4 : f t.toNat = 4
                              · rw [if_pos e4, decide_eq_true e4]; rfl
                              · rw [if_neg e4, decide_eq_false e4]; rfl
                            · rw [show i - 1 = (op - 1).toNat by omega, o2]
                            · have : bI true = 1 := rfl
                              omega
                        · dsimp only; omega
                        · dsimp only; omega
                        · dsimp only
                          rw [m10, if_pos (by omega)]
                        · dsimp only
                          rw [mf, if_pos rfl]
                          refine ⟨fun x hx => ?_, ?_⟩
                          · by_cases e : x = c
                            · subst e
                              rw [nA_2 ⟨hi, hin.1.1⟩, hh, o6]
                              have : bI true = 1 := rfl
                              split <;> omega
                            · rw [nA_o e (by decide)]
                              have := hdp.1 x (by omega)
                              split <;> omega
                          · by_cases e : S.f 4 < op + 1
                            · rw [if_pos e]
                              refine ⟨c, by omega, ?_⟩
                              rw [nA_2 ⟨hi, hin.1.1⟩, hh, o6]
                              have : bI true = 1 := rfl
                              omega
                            · rw [if_neg e]
                              obtain ⟨x, x1, x2⟩ := hdp.2
                              refine ⟨x, by omega, ?_⟩
                              rw [nA_o (by omega) (by decide)]
                              exact x2
              · have hh2 : ¬ (f t.toNat = 3 ∨ f t.toNat = 4) := fun w => hh (kH34.mpr w)
                have hval := mValue_a (f := f) (S := mElC t z op S) (by rw [b3]; exact hS3) bf5 (v := z + 1) (last := aLast T ins) (dep := T 2 ins.toNat) ckt hh (by omega) (by omega)
                have hD : mElD t z (aLast T ins) op S = mValue (f t.toNat) (z + 1) (aLast T ins) (mElC t z op S) := by
                  unfold mElD
                  rw [hS3]
                rw [if_neg hh, if_neg hh] at hNx
                by_cases hv : (aFv f (f t.toNat) (z + 1) (aLast T ins) (T 2 ins.toNat)).1 = 0
                · have hDv := hval.1 hv
                  rw [hDv] at hD
                  have hEE : mElE t z (aLast T ins) op S = (mElC t z op S).st 7 c (z + 1 + aVl f (f t.toNat) (z + 1)) := by
                    unfold mElE
                    rw [hD, h3n]
                  have hRR : mElR t z (aLast T ins) op S = z + 1 + aVl f (f t.toNat) (z + 1) := by
                    unfold mElR
                    rw [hD, b3, hS3, if_neg hh2, hEE, st_eq, h3n, if_pos rfl]
                  rw [hEE, hRR] at hE
                  have k3 : ((mElC t z op S).st 7 c (z + 1 + aVl f (f t.toNat) (z + 1))).a 3 = f := by rw [st_ne (by decide), b3]; exact hS3
                  have k5 : ((mElC t z op S).st 7 c (z + 1 + aVl f (f t.toNat) (z + 1))).a 5 c = t := by rw [st_ne (by decide), b5, if_pos h3n.symm]
                  have kf : ((mElC t z op S).st 7 c (z + 1 + aVl f (f t.toNat) (z + 1))).f = (mElC t z op S).f := rfl
                  have hmK : mK ((mElC t z op S).st 7 c (z + 1 + aVl f (f t.toNat) (z + 1))) = f t.toNat := by
                    unfold mK
                    rw [k3, kf, bf3, show ((c : Int) + 1 - 1).toNat = c by omega, k5]
                  rw [hE]
                  dsimp only
                  rw [hmK, if_neg (fun w => hh2 w.2)]
                  have hFF : aF f ln (t, ins, T, c) = (0, -1) := by
                    rw [hF]
                    have q := aFv_ok hv
                    exact aFv_0 q.1 q.2.1 q.2.2
                  refine gQ_ok hFF ?_
                  rw [hNx]
                  have mo : ∀ q, q ≠ 7 → ((mElC t z op S).st 7 c (z + 1 + aVl f (f t.toNat) (z + 1))).a q = (mElC t z op S).a q := fun q q7 => st_ne q7
                  refine ⟨⟨rfl, ?_, bf5, bf1, bf6⟩, k3, ?_, fun i hio => ?_, Or.inr ⟨hi, o1.1, ?_⟩, ?_⟩
                  · show (mElC t z op S).f 3 = _; rw [bf3]; dsimp only; omega
                  · exact mEl_rows h hR hi rfl rfl (mo 4 (by decide)) (mo 5 (by decide)) (mo 6 (by decide)) (mo 8 (by decide)) (fun x => by rw [st_eq, b7]) (Or.inr ⟨rfl, rfl⟩)
                  · dsimp only at hio ⊢
                    exact mEl_stk (z := z) h hR hi hio (by rw [mo 9 (by decide), b9]) (fun j hj => by rw [mo 10 (by decide), b10]) (by rw [mo 12 (by decide), b12]) (by rw [mo 11 (by decide)])
                  · dsimp only
                    rw [mo 10 (by decide), b10, o2]
                  · dsimp only
                    rw [kf, bf4]
                    refine ⟨fun x hx => ?_, ?_⟩
                    · by_cases e : x = c
                      · subst e
                        rw [nA_2 ⟨hi, hin.1.1⟩, kHold_ff.mpr hh2]
                        have := hdp.1 ins.toNat (by omega)
                        have : bI false = 0 := rfl
                        omega
                      · rw [nA_o e (by decide)]
                        exact hdp.1 x (by omega)
                    · obtain ⟨x, x1, x2⟩ := hdp.2
                      refine ⟨x, by omega, ?_⟩
                      rw [nA_o (by omega) (by decide)]
                      exact x2
                · have hDv := hval.2 hv
                  have hEf : (mElE t z (aLast T ins) op S).f 5 = (aFv f (f t.toNat) (z + 1) (aLast T ins) (T 2 ins.toNat)).1 ∧ (mElE t z (aLast T ins) op S).f 1 = (aFv f (f t.toNat) (z + 1) (aLast T ins) (T 2 ins.toNat)).2 := by
                    unfold mElE
                    rw [hD]
                    exact hDv
                  rw [hE]
                  dsimp only
                  rw [if_neg (fun w => by rw [hEf.1] at w; exact hv w.1)]
                  exact gQ_bad hF hEf hv
          · rw [if_pos c4] at hF hE
            have hs := mStop_v (y := 4) (x := mBad f (t + 1) z) e5
            rw [hE, if_neg (fun w => by rw [hs.1] at w; exact absurd w.1 (by decide))]
            exact gQ_bad hF hs (by decide)
