/-! PURE 5: the program's reader and its scan make this run -/
theorem nNamN_m1 {T : Nat → Nat → Int} {c : Nat} {b : Nat → Int} {sz : Nat} {nd : Int} {b2 : Nat → Int} {sz2 : Nat} {fr w : Int} : ∀ (N : Nat) (k : Int), 0 ≤ k → (nNamN T c b sz nd b2 sz2 fr w N k = -1 ↔ ∀ j : Int, k ≤ j → j < k + N → ¬ nHit T c b sz nd b2 sz2 fr w j = true) := by
  intro N
  induction N with
  | zero => intro k _; exact ⟨fun _ j a d => by omega, fun _ => rfl⟩
  | succ N ih =>
    intro k hk
    unfold nNamN
    by_cases e : nHit T c b sz nd b2 sz2 fr w k = true
    · rw [if_pos e]
      exact ⟨fun z => by omega, fun z => absurd e (z k (by omega) (by omega))⟩
    · rw [if_neg e, ih (k + 1) (by omega)]
      constructor
      · intro z j a d
        by_cases e2 : j = k
        · subst e2; exact e
        · exact z j (by omega) (by omega)
      · intro z j a d
        exact z j (by omega) (by omega)
/-- the names of rows lie in the bytes -/
def nmR (T : Nat → Nat → Int) (c : Nat) (n : Int) : Prop := T 1 0 = -1 ∧ ∀ k : Nat, 1 ≤ k → k < c → (0 ≤ T 1 k ∧ T 1 k < k) ∧ 0 ≤ T 3 k ∧ T 3 k ≤ T 4 k - 1 ∧ T 4 k ≤ n
theorem PC_E {f : Nat → Int} {ln : Bool} {n : Int} {s : sS} (h : PC f ln n s) : ∀ N : Nat, N < s.2.2.2 → tE s.2.2.1 N ≤ n ∧ 0 ≤ s.2.2.1 4 N ∧ 0 ≤ s.2.2.1 5 N ∧ (0 ≤ s.2.2.1 2 N ∧ s.2.2.1 2 N ≤ 16) := by
  intro N
  induction N using Nat.strongRecOn with
  | _ N ih =>
    intro hN
    by_cases e : N = 0
    · subst e
      have h0 := h.1.2
      unfold tE
      omega
    · have r := (h.2.1 N (by omega) hN).1
      have i1 := ih (s.2.2.1 1 N).toNat (by have := r.1.1; omega) (by have := r.1.1; omega)
      have := r.2.2.1
      have := r.2.2.2.2.2
      have := bI_r (kHold (s.2.2.1 0 N))
      omega
theorem PC_nm {f : Nat → Int} {ln : Bool} {n : Int} {s : sS} (h : PC f ln n s) : nmR s.2.2.1 s.2.2.2 n := by
  refine ⟨h.1.2.1.2.1, fun k a b => ?_⟩
  have r := (h.2.1 k a b).1
  have := PC_E h k b
  have := r.1.1
  have := r.2.2.1
  unfold tE at *
  omega
theorem nHit_s {T : Nat → Nat → Int} {c : Nat} {b f : Nat → Int} {sz nn : Nat} {nd : Int} {b2 f2 : Nat → Int} {sz2 nn2 : Nat} {fr w : Int} (hA : pA b sz nn f) (hA2 : pA b2 sz2 nn2 f2) (hN : nmR T c nn) (h0 : 0 ≤ fr) (h1 : 0 ≤ w) (h2 : fr + w ≤ nn2) {k : Nat} (k1 : 1 ≤ k) (k2 : k < c) :
    nHit T c b sz nd b2 sz2 fr w k = true ↔ (T 1 k = nd ∧ T 4 k - 1 - T 3 k = w) ∧ ∀ j : Int, 0 ≤ j → j < w → f (T 3 k + j).toNat = f2 (fr + j).toNat := by
  unfold nHit nNameLen
  rw [nCell_in ⟨by omega, by omega⟩, nCell_in ⟨by omega, by omega⟩, nCell_in ⟨by omega, by omega⟩, show ((k : Int)).toNat = k by omega, Bool.and_eq_true, Bool.and_eq_true, decide_eq_true_iff, decide_eq_true_iff]
  have r := hN.2 k k1 k2
  constructor
  · rintro ⟨a, d, e⟩
    rw [pEq hA hA2 (by omega) h0 h1 (by omega) h2, mSm_iff] at e
    exact ⟨⟨a, d⟩, e⟩
  · rintro ⟨⟨a, d⟩, e⟩
    rw [pEq hA hA2 (by omega) h0 h1 (by omega) h2, mSm_iff]
    exact ⟨a, d, e⟩
theorem nNamed_a {T : Nat → Nat → Int} {c : Nat} {b f : Nat → Int} {sz nn : Nat} (hA : pA b sz nn f) (hN : nmR T c nn) {ins fr w : Int} (hi : 0 ≤ ins ∧ ins < c) (h0 : 0 ≤ fr) (h1 : 0 ≤ w) (h2 : fr + w ≤ nn) : nNamed T c b sz ins b sz fr w = -1 ↔ aDup T f ins fr w c = false := by
  unfold nNamed nNamF
  rw [nNamN_m1 _ _ (by omega)]
  constructor
  · intro g
    cases e : aDup T f ins fr w c
    · rfl
    · exfalso
      obtain ⟨k, k1, k2⟩ := aDup_iff.mp e
      have k3 := aSame_iff.mp k2
      have kp : ins < k := by
        by_cases k0 : k = 0
        · subst k0; have := hN.1; omega
        · have := (hN.2 k (by omega) k1).1; omega
      exact g k (by omega) (by omega) ((nHit_s hA hA hN h0 h1 h2 (by omega) k1).mpr k3)
  · intro g j a d z
    have ej : j = ((j.toNat : Nat) : Int) := by omega
    rw [ej] at z
    have := (nHit_s hA hA hN h0 h1 h2 (by omega) (by omega)).mp z
    have : aDup T f ins fr w c = true := aDup_iff.mpr ⟨j.toNat, by omega, aSame_iff.mpr this⟩
    rw [g] at this
    cases this
/-- the reader's step against the run's -/
def rQ (R : rS) (F : Int × Int) (N : sS) (ins rp : Int) : Prop := R.2.2.1 = F.1 ∧ (¬ F.1 = 0 → R.2.2.2.1 = F.2 ∧ R.2.1 = ins) ∧ (F.1 = 0 → R = (N.1, N.2.1, 0, rp, N.2.2.1, N.2.2.2))
theorem rQ_bad {R : rS} {F : Int × Int} {N : sS} {ins rp a y x : Int} {T : Nat → Nat → Int} {c : Nat} (hR : R = (x, ins, a, y, T, c)) (hF : F = (a, y)) (ha : ¬ a = 0) : rQ R F N ins rp := by
  rw [hR, hF]
  exact ⟨rfl, fun _ => ⟨rfl, rfl⟩, fun w => absurd w ha⟩
theorem rQ_ok {R : rS} {F : Int × Int} {N : sS} {ins rp : Int} (hR : R = (N.1, N.2.1, 0, rp, N.2.2.1, N.2.2.2)) (hF : F = (0, -1)) : rQ R F N ins rp := by
  rw [hF]
  exact ⟨by rw [hR], fun w => absurd rfl w, fun _ => hR⟩
theorem rElem_n {b : Nat → Int} {sz : Nat} {last t ins rp : Int} {T : Nat → Nat → Int} {c : Nat} (hk : kIs (bGet b sz t) = true) {a1 i1 f1 p1 : Int} (hn : rName b sz last (t + 1) ins 0 rp T c = (a1, i1, f1, p1, T, c)) : rElem b sz last t ins 0 rp T c =
    if ¬ f1 = 0 then (a1, i1, f1, p1, T, c) else if kHold (bGet b sz t) = true then rSize b sz (bGet b sz t) (t + 1) (last - a1) a1 i1 f1 p1 T c
      else match (if bGet b sz t = 2 then rText b sz (last - a1) a1 i1 f1 p1 T c else rNum b sz (bGet b sz t) (last - a1) a1 i1 f1 p1 T c) with
        | (a2, i2, f2, p2, _, _) => (a2, i2, f2, p2, nApp T c (bGet b sz t) i2 (t + 1) a1 (a2 - a1), c + 1) := by
  unfold rElem
  rw [if_neg (by rw [hk]; decide), hn]
theorem rStep_a {b f : Nat → Int} {sz nn : Nat} (hA : pA b sz nn f) {t ins rp : Int} {T : Nat → Nat → Int} {c : Nat} (h : PC f false nn (t, ins, T, c)) (hi : 0 ≤ ins) : rQ (rStep b sz t ins 0 rp T c) (aF f false (t, ins, T, c)) (aN f (t, ins, T, c)) ins rp := by
  have hin := PC_ins h hi
  have hic : 0 ≤ ins ∧ ins < c := ⟨hi, hin.1.1⟩
  have eL : nLast T c ins = aLast T ins := by unfold nLast aLast tE; rw [nCell_in hic, nCell_in hic]
  have hl : aLast T ins < nn := by have := hin.2.2.2.2.2; unfold aLast; omega
  have gt : bGet b sz t = f t.toNat := pGet hA (by omega) (by omega)
  have hN := PC_nm h
  dsimp only at hN
  unfold rStep
  rw [eL]
  by_cases c0 : t = aLast T ins
  · rw [if_pos (by omega)]
    have hF : aF f false (t, ins, T, c) = if f t.toNat = 0 then (0, -1) else (2, t) := by unfold aF; dsimp only; rw [if_pos c0]
    have hNx : aN f (t, ins, T, c) = (t + 1, T 1 ins.toNat, T, c) := by unfold aN; dsimp only; rw [if_pos c0]
    unfold rLastB
    rw [gt]
    by_cases c1 : f t.toNat = 0
    · rw [if_pos c1] at hF ⊢
      exact rQ_ok (by rw [hNx, nCell_in hic]) hF
    · rw [if_neg c1] at hF ⊢
      exact rQ_bad rfl hF (by decide)
  · rw [if_neg (by omega)]
    have hlt : t < aLast T ins := by omega
    have hF : aF f false (t, ins, T, c) = aFe f false (aLast T ins) t ins T c := by unfold aF; dsimp only; rw [if_neg c0]
    have hNx : aN f (t, ins, T, c) = (aV f (t, ins, T, c) + (if kHold (f t.toNat) = true then 4 else aVl f (f t.toNat) (aV f (t, ins, T, c))), (if kHold (f t.toNat) = true then (c : Int) else ins), nApp T c (f t.toNat) ins (t + 1) (aV f (t, ins, T, c)) (aVl f (f t.toNat) (aV f (t, ins, T, c))), c + 1) := by unfold aN; dsimp only; rw [if_neg c0]
    have hV : aV f (t, ins, T, c) = mNz f (aLast T ins) (t + 1) + 1 := rfl
    rw [hV] at hNx
    unfold aFe at hF
    by_cases ck : kIs (f t.toNat) = false
    · have hR : rElem b sz (aLast T ins) t ins 0 rp T c = (t, ins, (if f t.toNat = 0 then 2 else 3), t, T, c) := by unfold rElem; rw [gt, if_pos ck]
      by_cases c1 : f t.toNat = 0
      · rw [if_pos c1] at hF hR
        exact rQ_bad hR hF (by decide)
      · rw [if_neg c1] at hF hR
        rw [if_pos ck] at hF
        exact rQ_bad hR hF (by decide)
    · have ckt := zee ck
      rw [if_neg (kIs_0 ckt), if_neg ck] at hF
      have hz := pFz hA _ (t + 1) (aLast T ins) rfl (by omega) (by omega) (by omega)
      have hE := fun a1 i1 f1 p1 (w : rName b sz (aLast T ins) (t + 1) ins 0 rp T c = (a1, i1, f1, p1, T, c)) => rElem_n (by rw [gt]; exact ckt) w
      rcases hz with ⟨z1, z2⟩ | ⟨z1, z2, z3, z4⟩
      · rw [if_pos (by omega)] at hF
        have hn : rName b sz (aLast T ins) (t + 1) ins 0 rp T c = (t + 1, ins, 1, t + 1, T, c) := by unfold rName; rw [if_pos z1]
        have hR := hE _ _ _ _ hn
        rw [if_pos (by decide)] at hR
        exact rQ_bad hR hF (by decide)
      · rw [if_neg (by omega)] at hF
        generalize hzz : mNz f (aLast T ins) (t + 1) = z at *
        have hw : uWrong b sz (t + 1) z = mBad f (t + 1) z := pWrong hA (by omega) (by omega)
        by_cases c4 : mBad f (t + 1) z = -1
        · rw [if_neg (fun w => w c4)] at hF
          have hno : rNameOk b sz (t + 1) ins z T c = aNm f false t z ins T c := by
            unfold rNameOk aNm
            rw [nCell_in hic, nCell_in hic]
            by_cases e4 : T 0 ins.toNat = 4
            · rw [if_pos e4, if_pos e4, pDec hA (by omega) (by omega) (by omega), Bool.false_or]
            · rw [if_neg e4, if_neg e4]
              cases e5 : aDup T f ins (t + 1) (z - (t + 1)) c
              · rw [decide_eq_true ((nNamed_a hA hN hic (by omega) (by omega) (by omega)).mpr e5)]; rfl
              · rw [decide_eq_false (fun w => by have := (nNamed_a hA hN hic (by omega) (by omega) (by omega)).mp w; rw [e5] at this; cases this)]; rfl
          by_cases c5 : aNm f false t z ins T c = false
          · rw [if_pos c5] at hF
            have hn : rName b sz (aLast T ins) (t + 1) ins 0 rp T c = (t + 1, ins, 7, t + 1, T, c) := by
              unfold rName
              rw [z1, if_neg (by omega), hw, if_neg (fun w => w c4), hno, c5, if_neg (by decide)]
            have hR := hE _ _ _ _ hn
            rw [if_pos (by decide)] at hR
            exact rQ_bad hR hF (by decide)
          · rw [if_neg c5] at hF
            have hn : rName b sz (aLast T ins) (t + 1) ins 0 rp T c = (z + 1, ins, 0, rp, T, c) := by
              unfold rName
              rw [z1, if_neg (by omega), hw, if_neg (fun w => w c4), hno, if_pos (zee c5)]
            have hR := hE _ _ _ _ hn
            rw [if_neg (fun w => w rfl), gt] at hR
            unfold aFv at hF
            by_cases hh : kHold (f t.toNat) = true
            · rw [if_pos hh] at hF hR
              rw [if_pos hh, if_pos hh, aVl_h hh] at hNx
              unfold rSize at hR
              by_cases d1 : aLast T ins - (z + 1) < 4
              · rw [if_pos d1] at hF hR
                exact rQ_bad hR hF (by decide)
              · rw [if_neg d1] at hF hR
                rw [pNum4 hA (by omega) (by omega)] at hR
                by_cases d2 : mLow f (z + 1) 4 < 5
                · rw [if_pos d2] at hF
                  rw [if_pos (Or.inl d2)] at hR
                  exact rQ_bad hR hF (by decide)
                · rw [if_neg d2] at hF
                  rw [if_neg (by omega)] at hR
                  by_cases d3 : aLast T ins - (z + 1) < mLow f (z + 1) 4
                  · rw [if_pos d3] at hF hR
                    exact rQ_bad hR hF (by decide)
                  · rw [if_neg d3] at hF hR
                    rw [nCell_in hic] at hR
                    by_cases d4 : 16 ≤ T 2 ins.toNat
                    · rw [if_pos d4] at hF hR
                      exact rQ_bad hR hF (by decide)
                    · rw [if_neg d4] at hF hR
                      exact rQ_ok (by rw [hR, hNx]) hF
            · rw [if_neg hh] at hF hR
              rw [if_neg hh, if_neg hh] at hNx
              by_cases h2 : f t.toNat = 2
              · rw [if_pos h2] at hF hR
                rw [aVl_2 h2] at hNx
                unfold rText at hR
                by_cases d1 : aLast T ins - (z + 1) < 4
                · rw [if_pos d1] at hF hR
                  exact rQ_bad hR hF (by decide)
                · rw [if_neg d1] at hF hR
                  rw [pNum4 hA (by omega) (by omega)] at hR
                  by_cases d2 : mLow f (z + 1) 4 < 1
                  · rw [if_pos d2] at hF hR
                    exact rQ_bad hR hF (by decide)
                  · rw [if_neg d2] at hF hR
                    by_cases d3 : aLast T ins - (z + 1) - 4 < mLow f (z + 1) 4
                    · rw [if_pos d3] at hF hR
                      exact rQ_bad hR hF (by decide)
                    · rw [if_neg d3] at hF hR
                      rw [pGet hA (by omega) (by omega), pWrong hA (by omega) (by omega)] at hR
                      by_cases d4 : f (z + 1 + 4 + mLow f (z + 1) 4 - 1).toNat = 0
                      · rw [if_neg (fun w => w d4)] at hF hR
                        by_cases d5 : mBad f (z + 1 + 4) (z + 1 + 4 + mLow f (z + 1) 4 - 1) = -1
                        · rw [if_neg (fun w => w d5)] at hF hR
                          refine rQ_ok ?_ hF
                          rw [hR, hNx]
                          dsimp only
                          rw [show z + 1 + 4 + mLow f (z + 1) 4 - 1 + 1 = z + 1 + (4 + mLow f (z + 1) 4) by omega, show z + 1 + (4 + mLow f (z + 1) 4) - (z + 1) = 4 + mLow f (z + 1) 4 by omega]
                        · rw [if_pos d5] at hF hR
                          exact rQ_bad hR hF (by decide)
                      · rw [if_pos d4] at hF hR
                        exact rQ_bad hR hF (by decide)
              · rw [if_neg h2] at hF hR
                rw [aVl_n hh h2] at hNx
                unfold rNum at hR
                have hkw := kWidth_r (f t.toNat)
                by_cases d1 : aLast T ins - (z + 1) < kWidth (f t.toNat)
                · rw [if_pos d1] at hF hR
                  exact rQ_bad hR hF (by decide)
                · rw [if_neg d1] at hF hR
                  by_cases d8 : f t.toNat = 8
                  · have hw1 : kWidth (f t.toNat) = 1 := by rw [d8]; rfl
                    rw [pGet hA (by omega) (by omega)] at hR
                    by_cases d2 : f t.toNat = 8 ∧ 1 < f (z + 1).toNat
                    · rw [if_pos d2] at hF hR
                      exact rQ_bad hR hF (by decide)
                    · rw [if_neg d2] at hF hR
                      refine rQ_ok ?_ hF
                      rw [hR, hNx]
                      dsimp only
                      rw [show z + 1 + kWidth (f t.toNat) - (z + 1) = kWidth (f t.toNat) by omega]
                  · rw [if_neg (fun w => d8 w.1)] at hF hR
                    refine rQ_ok ?_ hF
                    rw [hR, hNx]
                    dsimp only
                    rw [show z + 1 + kWidth (f t.toNat) - (z + 1) = kWidth (f t.toNat) by omega]
        · rw [if_pos c4] at hF
          have hn : rName b sz (aLast T ins) (t + 1) ins 0 rp T c = (t + 1, ins, 4, mBad f (t + 1) z, T, c) := by
            unfold rName
            rw [z1, if_neg (by omega), hw, if_pos c4]
          have hR := hE _ _ _ _ hn
          rw [if_pos (by decide)] at hR
          exact rQ_bad hR hF (by decide)
theorem ite_r8 {p : Prop} [Decidable p] {a b : Int × Int} (ha : 0 ≤ a.1 ∧ a.1 ≤ 8) (hb : 0 ≤ b.1 ∧ b.1 ≤ 8) : 0 ≤ (if p then a else b).1 ∧ (if p then a else b).1 ≤ 8 := by
  by_cases h : p
  · rw [if_pos h]; exact ha
  · rw [if_neg h]; exact hb
theorem aF_r (f : Nat → Int) (ln : Bool) (s : sS) : 0 ≤ (aF f ln s).1 ∧ (aF f ln s).1 ≤ 8 := by
  unfold aF aFe aFv
  repeat' (first | apply ite_r8 | (dsimp only; decide))
theorem PC_c {f : Nat → Int} {n : Int} {s : sS} (h : PC f false n s) : s.2.2.2 < 700 ∧ n ≤ 2000 := by
  have h1 := h.1.2.2.1
  have h2 := (h.2.2.2.2.2.2.2.2 rfl).1
  have h3 := PC_at h
  omega
theorem rGo_a {b f : Nat → Int} {sz nn : Nat} (hA : pA b sz nn f) {rp : Int} : ∀ (N : Nat) (t ins : Int) (T : Nat → Nat → Int) (c : Nat), PC f false nn (t, ins, T, c) →
    rGood b sz N (t, ins, 0, rp, T, c) ∧ (rGo b sz N (t, ins, 0, rp, T, c)).2.2.1 = (aGo f false N (t, ins, T, c)).2.1 ∧ (rGo b sz N (t, ins, 0, rp, T, c)).2.2.2.1 = (if (aGo f false N (t, ins, T, c)).2.1 = 0 then rp else (aGo f false N (t, ins, T, c)).2.2) := by
  intro N
  induction N with
  | zero =>
    intro t ins T c h
    have h1 := PC_at h
    have h2 := PC_c h
    have h3 : ins < 700 := by
      rcases h1 with a | a
      · have := a.1; dsimp only at this; omega
      · have := (PC_ins h a.1).1.1; dsimp only at h2; omega
    dsimp only at h1
    exact ⟨⟨by dsimp only; omega, by dsimp only; omega⟩, rfl, rfl⟩
  | succ N ih =>
    intro t ins T c h
    have h1 := PC_at h
    have h2 := PC_c h
    dsimp only at h1 h2
    by_cases hi : ins < 0
    · have e1 : rGo b sz (N + 1) (t, ins, 0, rp, T, c) = (t, ins, 0, rp, T, c) := rGo_e (fun w => by have := w.2; dsimp only at this; omega)
      have e2 : aGo f false (N + 1) (t, ins, T, c) = ((t, ins, T, c), 0, -1) := if_pos hi
      rw [e1, e2]
      refine ⟨⟨⟨by dsimp only; omega, by dsimp only; omega⟩, fun w => by have := w.2; dsimp only at this; omega⟩, rfl, rfl⟩
    · have hi0 : 0 ≤ ins := by omega
      have hin := PC_ins h hi0
      have hic : 0 ≤ ins ∧ ins < c := ⟨hi0, hin.1.1⟩
      have eL : nLast T c ins = aLast T ins := by unfold nLast aLast tE; rw [nCell_in hic, nCell_in hic]
      have e1 : rGo b sz (N + 1) (t, ins, 0, rp, T, c) = rGo b sz N (rStep b sz t ins 0 rp T c) := rGo_s ⟨rfl, hi0⟩
      have hq := rStep_a hA (rp := rp) h hi0
      have hlr : 0 ≤ aLast T ins ∧ aLast T ins ≤ 90000 := by have := hin.2; unfold aLast at *; omega
      have hbase : rIn (t, ins, 0, rp, T, c) ∧ ((0 ≤ t ∧ t ≤ 90000) ∧ ins < c ∧ c < 700 ∧ (0 ≤ nLast T c ins ∧ nLast T c ins ≤ 90000)) := by
        rw [eL]
        refine ⟨⟨by dsimp only; omega, by dsimp only; omega⟩, by omega, hin.1.1, h2.1, hlr⟩
      by_cases hz : (aF f false (t, ins, T, c)).1 = 0
      · have e2 : aGo f false (N + 1) (t, ins, T, c) = aGo f false N (aN f (t, ins, T, c)) := by
          show (if ins < 0 then _ else if ¬ (aF f false (t, ins, T, c)).1 = 0 then _ else _) = _
          rw [if_neg hi, if_neg (fun w => w hz)]
        have hR := hq.2.2 hz
        have hP := (PC_step hA.2.2 h hi0 hz).1
        rw [e1, e2, hR]
        have q := ih (aN f (t, ins, T, c)).1 (aN f (t, ins, T, c)).2.1 (aN f (t, ins, T, c)).2.2.1 (aN f (t, ins, T, c)).2.2.2 hP
        refine ⟨⟨hbase.1, fun _ => ⟨hbase.2, ?_⟩⟩, q.2⟩
        show rGood b sz N (rStep b sz t ins 0 rp T c)
        rw [hR]
        exact q.1
      · have e2 : aGo f false (N + 1) (t, ins, T, c) = ((t, ins, T, c), aF f false (t, ins, T, c)) := by
          show (if ins < 0 then _ else if ¬ (aF f false (t, ins, T, c)).1 = 0 then _ else _) = _
          rw [if_neg hi, if_pos hz]
        have hb := hq.2.1 hz
        have hr := aF_r f false (t, ins, T, c)
        have hst : ¬ ((rStep b sz t ins 0 rp T c).2.2.1 = 0 ∧ 0 ≤ (rStep b sz t ins 0 rp T c).2.1) := fun w => hz (by rw [← hq.1]; exact w.1)
        have hrin : rIn (rStep b sz t ins 0 rp T c) := by
          refine ⟨by rw [hq.1]; omega, by rw [hb.2]; omega⟩
        rw [e1, rGo_e hst, e2]
        dsimp only
        rw [if_neg hz]
        refine ⟨⟨hbase.1, fun _ => ⟨hbase.2, ?_⟩⟩, hq.1, hb.1⟩
        show rGood b sz N (rStep b sz t ins 0 rp T c)
        cases N with
        | zero => exact hrin
        | succ N => exact ⟨hrin, fun w => absurd w hst⟩
/-! the scan -/
theorem bFz_eq {b : Nat → Int} {sz : Nat} {z to : Int} : ∀ (N : Nat) (k : Int), (z - k).toNat = N → k ≤ z → z < to → (∀ x : Int, k ≤ x → x < z → ¬ bGet b sz x = 0) → bGet b sz z = 0 → bFz b sz k to = z := by
  intro N
  induction N with
  | zero =>
    intro k h h1 h2 h3 h4
    have e : k = z := by omega
    subst e
    rw [bFz_step h2, if_pos h4]
  | succ N ih =>
    intro k h h1 h2 h3 h4
    rw [bFz_step (by omega), if_neg (h3 k (by omega) (by omega))]
    exact ih (k + 1) (by omega) (by omega) h2 (fun x a d => h3 x (by omega) d) h4
theorem scStep_a {b f : Nat → Int} {nn : Nat} (hA : pA b nn nn f) {ln : Bool} {t ins : Int} {T : Nat → Nat → Int} {c : Nat} (h : PC f ln nn (t, ins, T, c)) (hi : 0 ≤ ins) (hz : (aF f ln (t, ins, T, c)).1 = 0) : scStep b nn t ins T c = aN f (t, ins, T, c) ∧ (t < aLast T ins → 0 ≤ scLen b nn t ∧ scLen b nn t ≤ 90000) := by
  have hin := PC_ins h hi
  have hic : 0 ≤ ins ∧ ins < c := ⟨hi, hin.1.1⟩
  have eL : nLast T c ins = aLast T ins := by unfold nLast aLast tE; rw [nCell_in hic, nCell_in hic]
  have hl : aLast T ins < nn := by have := hin.2.2.2.2.2; unfold aLast; omega
  have hn2 := h.1.2.2.1
  unfold scStep aN
  dsimp only
  rw [eL]
  rcases aF_ok hz hin.2.1.2 with ⟨a, d⟩ | ⟨a, d, e, g, w, q⟩
  · rw [if_pos (by omega), if_pos a, nCell_in hic]
    exact ⟨rfl, fun z => by omega⟩
  · rw [if_neg (show ¬ aLast T ins ≤ t by omega), if_neg (show ¬ t = aLast T ins by omega)]
    have gt : bGet b nn t = f t.toNat := pGet hA (by omega) (by omega)
    obtain ⟨n1, n2, n3, n4⟩ := mNz_spec (f := f) (last := aLast T ins) _ (t + 1) rfl (by omega)
    have hv : scVal b nn t = aV f (t, ins, T, c) := by
      unfold scVal aV
      dsimp only
      rw [bFz_eq (z := mNz f (aLast T ins) (t + 1)) _ (t + 1) rfl n1 (by omega) (fun x x1 x2 => by rw [pGet hA (by omega) (by omega)]; exact n3 x x1 x2) (by rw [pGet hA (by omega) (by omega)]; exact n4 e)]
    have hVe : aV f (t, ins, T, c) = mNz f (aLast T ins) (t + 1) + 1 := rfl
    obtain ⟨v1, v2, v3⟩ := aFv_ok q
    rw [← hVe] at v1 v2 v3
    have hlen : scLen b nn t = aVl f (f t.toNat) (aV f (t, ins, T, c)) := by
      unfold scLen kVlen aVl
      rw [gt, hv]
      by_cases c2 : f t.toNat = 2
      · have := v2 c2
        rw [if_pos c2, if_pos c2, pNum4 hA (by omega) (by omega)]
      · rw [if_neg c2, if_neg c2]
        by_cases c3 : kHold (f t.toNat) = true
        · have := v1 c3
          rw [if_pos c3, if_pos c3, pNum4 hA (by omega) (by omega)]
        · rw [if_neg c3, if_neg c3]
    rw [hlen, hv, gt]
    refine ⟨rfl, fun _ => ?_⟩
    by_cases c2 : f t.toNat = 2
    · have := v2 c2
      rw [aVl_2 c2]
      omega
    · by_cases c3 : kHold (f t.toNat) = true
      · have := v1 c3
        rw [aVl_h c3]
        omega
      · rw [aVl_n c3 c2]
        have := kWidth_r (f t.toNat)
        omega
theorem scGo_a {b f : Nat → Int} {nn : Nat} (hA : pA b nn nn f) {T : Nat → Nat → Int} {cnt : Nat} (hC : Cert f false nn T cnt) : ∀ (N : Nat) (s : sS), PC f false nn s → CR nn T cnt s → nn - s.1 < N →
    scGood b nn N s ∧ (scGo b nn N s).2.1 = -1 ∧ (scGo b nn N s).2.2.2 = cnt ∧ crA T (scGo b nn N s).2.2.1 cnt := by
  intro N
  induction N with
  | zero =>
    intro s h h2 h3
    have := PC_at h
    omega
  | succ N ih =>
    intro s h h2 h3
    obtain ⟨t, ins, Tr, c⟩ := s
    have p1 := PC_at h
    have p2 := PC_c h
    dsimp only at p1 p2 h3
    by_cases hi : ins < 0
    · have e : scGo b nn (N + 1) (t, ins, Tr, c) = (t, ins, Tr, c) := scGo_e (fun w => by dsimp only at w; omega)
      rw [e]
      rcases h2.2.2 with ⟨a, d, _⟩ | a
      · dsimp only at a d
        refine ⟨⟨by dsimp only; omega, fun w => by dsimp only at w; omega⟩, a, d, ?_⟩
        rw [← d]
        exact h2.2.1
      · have := a.1.1.1
        dsimp only at this
        omega
    · have hi0 : 0 ≤ ins := by omega
      have hin := PC_ins h hi0
      have hic : 0 ≤ ins ∧ ins < c := ⟨hi0, hin.1.1⟩
      have eL : nLast Tr c ins = aLast Tr ins := by unfold nLast aLast tE; rw [nCell_in hic, nCell_in hic]
      have hl : aLast Tr ins < nn := by have := hin.2.2.2.2.2; unfold aLast; omega
      have hcr := CR_step hC h2 hi0
      have hz : (aF f false (t, ins, Tr, c)).1 = 0 := by rw [hcr.1]
      have hst := scStep_a hA h hi0 hz
      have hP := PC_step hA.2.2 h hi0 hz
      have e : scGo b nn (N + 1) (t, ins, Tr, c) = scGo b nn N (scStep b nn t ins Tr c) := scGo_s hi0
      have q := ih (aN f (t, ins, Tr, c)) hP.1 hcr.2 (by omega)
      rw [e, hst.1]
      refine ⟨⟨by dsimp only; omega, fun _ => ⟨⟨by dsimp only; omega, hin.1.1, p2.1, ?_, ?_⟩, ?_⟩⟩, q.2⟩
      · dsimp only; rw [eL]; omega
      · dsimp only
        by_cases hlt : t < aLast Tr ins
        · exact hst.2 hlt
        · have gt : bGet b nn t = 0 := by
            rcases aF_ok hz hin.2.1.2 with ⟨a, d⟩ | ⟨a, _⟩
            · rw [pGet hA (by omega) (by omega)]; exact d
            · omega
          unfold scLen kVlen
          rw [gt, if_neg (by decide), if_neg (by decide)]
          exact ⟨by decide, by decide⟩
      · show scGood b nn N (scStep b nn t ins Tr c)
        rw [hst.1]
        exact q.1
