/-! PURE 35: graft -/
theorem mDpN_s {S : MS} {x la : Int} : ∀ (N : Nat) (k b : Int), b ≤ mDpN S x la N k b ∧ (∀ j : Int, k ≤ j → j < k + N → mBox j S = true → S.a 8 j.toNat - S.a 8 x.toNat + 1 ≤ mDpN S x la N k b) ∧ (mDpN S x la N k b = b ∨ ∃ j : Int, k ≤ j ∧ j < k + N ∧ mBox j S = true ∧ mDpN S x la N k b = S.a 8 j.toNat - S.a 8 x.toNat + 1) := by
  intro N
  induction N with
  | zero => intro k b; exact ⟨Int.le_refl _, fun j a c => by omega, Or.inl rfl⟩
  | succ N ih =>
    intro k b
    unfold mDpN
    obtain ⟨a1, a2, a3⟩ := ih (k + 1) (if mBox k S = true ∧ b < S.a 8 k.toNat - S.a 8 x.toNat + 1 then S.a 8 k.toNat - S.a 8 x.toNat + 1 else b)
    have hm : b ≤ (if mBox k S = true ∧ b < S.a 8 k.toNat - S.a 8 x.toNat + 1 then S.a 8 k.toNat - S.a 8 x.toNat + 1 else b) ∧ (mBox k S = true → S.a 8 k.toNat - S.a 8 x.toNat + 1 ≤ (if mBox k S = true ∧ b < S.a 8 k.toNat - S.a 8 x.toNat + 1 then S.a 8 k.toNat - S.a 8 x.toNat + 1 else b)) := by
      by_cases c : mBox k S = true ∧ b < S.a 8 k.toNat - S.a 8 x.toNat + 1
      · rw [if_pos c]; exact ⟨by omega, fun _ => Int.le_refl _⟩
      · rw [if_neg c]
        refine ⟨Int.le_refl _, fun w => ?_⟩
        by_cases c2 : b < S.a 8 k.toNat - S.a 8 x.toNat + 1
        · exact absurd ⟨w, c2⟩ c
        · omega
    refine ⟨Int.le_trans hm.1 a1, fun j u v w => ?_, ?_⟩
    · by_cases e : j = k
      · subst e; exact Int.le_trans (hm.2 w) a1
      · exact a2 j (by omega) (by omega) w
    · rcases a3 with w | ⟨j, w1, w2, w3, w4⟩
      · by_cases c : mBox k S = true ∧ b < S.a 8 k.toNat - S.a 8 x.toNat + 1
        · rw [if_pos c] at w ⊢
          exact Or.inr ⟨k, by omega, by omega, c.1, w⟩
        · rw [if_neg c] at w ⊢
          exact Or.inl w
      · exact Or.inr ⟨j, by omega, by omega, w3, w4⟩
theorem lev_eq {f : Nat → Int} (hf : ∀ x, 0 ≤ f x ∧ f x ≤ 255) {ln : Bool} {n : Int} {T TF : Nat → Nat → Int} {cnt : Nat} {S : MS} (hC : Cert f ln n TF cnt) (ha : tAg T TF cnt) (hL : mLd f n TF cnt S) {y : Nat} (hy : y < cnt) :
    nLevels T cnt y = mGrDeep y S ∧ (0 ≤ nLevels T cnt y ∧ nLevels T cnt y ≤ 17) ∧ (kHold (TF 0 y) = false → nLevels T cnt y = 0) ∧ (kHold (TF 0 y) = true → 1 ≤ nLevels T cnt y ∧ ∀ ce : Nat, nBeh T cnt y = ce → ∀ q : Nat, y ≤ q → q < ce → TF 2 q - TF 2 y + 1 ≤ nLevels T cnt y) := by
  have hxi : (0 : Int) ≤ y ∧ (y : Int) < cnt := ⟨by omega, by omega⟩
  have et : ((y : Int)).toNat = y := by omega
  obtain ⟨ce, f1, f2, f3, f4⟩ := nBeh_s ha hy
  have hk := lk_kind hC hL hxi
  rw [et] at hk
  have e2 := lk_c ha (co := 2) (by decide) hxi
  have e0 := lk_c ha (co := 0) (by decide) hxi
  rw [et] at e2 e0
  obtain ⟨a1, a2, a3⟩ := nDeepN_s (T := T) (cnt := cnt) ((ce : Int) - ((y : Int) + 1)).toNat ((y : Int) + 1) (TF 2 y)
  have hdeep : nDeep T cnt y = nDeepN T cnt ((ce : Int) - ((y : Int) + 1)).toNat ((y : Int) + 1) (TF 2 y) := by
    unfold nDeep nDeepF
    rw [f1, e2]
  rw [← hdeep] at a1 a2 a3
  have hdep : ∀ q : Nat, q < cnt → 0 ≤ TF 2 q ∧ TF 2 q ≤ 16 := fun q hq => (PC_E hC q hq).2.2.2
  have hr : nDeep T cnt y ≤ 16 := by
    rcases a3 with w | ⟨j, w1, w2, w3⟩
    · rw [w]; exact (hdep y hy).2
    · rw [w3, lk_c ha (by decide) ⟨by omega, by omega⟩]; exact (hdep j.toNat (by omega)).2
  have hyd := hdep y hy
  unfold nLevels mGrDeep mBox
  rw [e0, e2, hk]
  cases hh : kHold (TF 0 y)
  · have h34 := kHold_ff.mp hh
    have hce := leaf_ce hC f2 f3 hh
    have hb0 : bI false = 0 := rfl
    have hd0 : nDeep T cnt y = TF 2 y := by
      rcases a3 with w | ⟨j, w1, w2, w3⟩
      · exact w
      · omega
    rw [decide_eq_false h34, if_neg (by decide)]
    refine ⟨by omega, by omega, fun _ => by omega, fun w => by cases w⟩
  · have h34 := kHold_iff.mp hh
    have hb1 : bI true = 1 := rfl
    rw [decide_eq_true h34, if_pos rfl]
    have hbeg := begin_fi hf hC hy hh f2 f3 f4
    have m7 := (hL.2.1 y hy).2.2.2.2
    have hlo : mLo y S + 1 = ce := by
      unfold mLo mLoF
      refine mLo_s _ _ _ (by omega) ?_ (fun j a b => ?_) (fun w => ?_) rfl
      · rw [hL.1.1]; omega
      · rw [hL.1.1, et, m7, ((hL.2.1 j.toNat (by omega)).2.2.1 (by omega)).1]
        exact ⟨by omega, hbeg.2 j.toNat (by omega) (by omega)⟩
      · rw [hL.1.1] at w
        rw [et, m7, ((hL.2.1 ce (by omega)).2.2.1 (by omega)).1]
        exact hbeg.1 (by omega)
    have hall : ∀ q : Nat, y ≤ q → q < ce → TF 2 q ≤ nDeep T cnt y := by
      intro q q1 q2
      by_cases e : q = y
      · subst e; exact a1
      · have := a2 q (by omega) (by omega)
        rw [lk_c ha (by decide) ⟨by omega, by omega⟩, show ((q : Int)).toNat = q by omega] at this
        exact this
    obtain ⟨b1, b2, b3⟩ := mDpN_s (S := S) (x := (y : Int)) (la := mLo y S) (mLo y S + 1 - y).toNat y 0
    have hmd : mDp y S = mDpN S y (mLo y S) (mLo y S + 1 - y).toNat y 0 := rfl
    rw [← hmd] at b1 b2 b3
    have hbox : ∀ q : Nat, q < cnt → (mBox q S = true ↔ kHold (TF 0 q) = true) := by
      intro q hq
      unfold mBox
      have := lk_kind hC hL (x := (q : Int)) ⟨by omega, by omega⟩
      rw [show ((q : Int)).toNat = q by omega] at this
      rw [this, decide_eq_true_iff, kH34]
    have h8 : ∀ q : Nat, q < cnt → S.a 8 q = TF 2 q := fun q hq => (hL.2.1 q hq).2.1
    have hge : ∀ q : Nat, y ≤ q → q < ce → kHold (TF 0 q) = true → TF 2 q - TF 2 y + 1 ≤ mDp y S := by
      intro q q1 q2 q3
      have := b2 q (by omega) (by omega) ((hbox q (by omega)).mpr q3)
      rw [show ((q : Int)).toNat = q by omega, et, h8 q (by omega), h8 y hy] at this
      exact this
    have hle : mDp y S ≤ nDeep T cnt y - TF 2 y + 1 := by
      rcases b3 with w | ⟨j, w1, w2, w3, w4⟩
      · omega
      · rw [w4, et, h8 j.toNat (by omega), h8 y hy]
        have := hall j.toNat (by omega) (by omega)
        omega
    have hge2 : nDeep T cnt y - TF 2 y + 1 ≤ mDp y S := by
      rcases a3 with w | ⟨j, w1, w2, w3⟩
      · have := hge y (Nat.le_refl y) (by omega) hh
        omega
      · rw [lk_c ha (by decide) ⟨by omega, by omega⟩] at w3
        rw [w3]
        cases hj : kHold (TF 0 j.toNat)
        · have r := (hC.2.1 j.toNat (by omega) (by dsimp only; omega)).1
          dsimp only at r
          have r6 := r.2.2.2.2.2.1
          rw [hj] at r6
          have hb0 : bI false = 0 := rfl
          have hp := f3 j.toNat (by omega) (by omega)
          have := hge (TF 1 j.toNat).toNat (by omega) (by have := r.1.1; omega) r.1.2
          omega
        · have := hge j.toNat (by omega) (by omega) hj
          omega
    refine ⟨by omega, by omega, fun w => (by cases w), fun _ => ⟨by omega, fun ce2 g1 q q1 q2 => ?_⟩⟩
    have : ce2 = ce := by omega
    subst this
    have := hall q q1 q2
    omega
/-- the value of a right row, from 0 on -/
theorem vOK_row {f bf : Nat → Int} {ln : Bool} {n : Int} {TF : Nat → Nat → Int} {cnt : Nat} (hC : Cert f ln n TF cnt) {y : Nat} (hy : y < cnt) (he : ∀ j : Int, 0 ≤ j → j < TF 5 y → bf j.toNat = f (TF 4 y + j).toNat) : vOK (TF 0 y) (TF 5 y) bf ∧ kIs (TF 0 y) = true := by
  have hE := PC_E hC y hy
  dsimp only at hE
  have sh : ∀ a to : Int, 0 ≤ a → to ≤ TF 5 y → sEq f bf (TF 4 y + a) (TF 4 y + to) (-TF 4 y) := fun a to a1 a2 z z1 z2 => by
    rw [he (z + -TF 4 y) (by omega) (by omega)]
    congr 1
    omega
  have hlow : 4 ≤ TF 5 y → mLow bf 0 4 = mLow f (TF 4 y) 4 := by
    intro w
    have e2 := mLow_sh (f := f) (h := bf) (a := TF 4 y) (d := -TF 4 y) (w := 4) (by decide) (by
      have := sh 0 4 (by omega) (by omega)
      rw [Int.add_zero] at this
      exact this)
    rw [show TF 4 y + -TF 4 y = 0 by omega] at e2
    exact e2
  by_cases e : y = 0
  · subst e
    have z := hC.1.2
    dsimp only at z
    have hh : kHold (TF 0 0) = true := by rw [z.1.1]; rfl
    refine ⟨⟨hE.2.2.1, ?_, fun _ => by omega, fun w => by rw [z.1.1] at w; omega, fun w => by rw [z.1.1] at w; omega, fun _ => by omega⟩, by rw [z.1.1]; rfl⟩
    rw [aVl_h hh, hlow (by omega), z.1.2.2.2.2.1, z.2.2, z.1.2.2.2.2.2]
  · have r := hC.2.1 y (by omega) hy
    dsimp only at r
    obtain ⟨v1, v2, v3, v4⟩ := r.2.1
    have hEE : tE TF y = TF 4 y + TF 5 y := rfl
    refine ⟨⟨hE.2.2.1, ?_, fun w => ?_, fun w => ?_, fun w => ?_, v4⟩, r.1.2.1.1⟩
    · by_cases k2 : TF 0 y = 2
      · have := v2 k2
        rw [aVl_2 k2] at v1 ⊢
        rw [hlow (by omega)]; exact v1
      · by_cases kh : kHold (TF 0 y) = true
        · have := v4 kh
          rw [aVl_h kh] at v1 ⊢
          rw [hlow (by omega)]; exact v1
        · rw [aVl_n kh k2] at v1 ⊢; exact v1
    · rcases w with w | w
      · have := v2 w; omega
      · have := v4 w; omega
    · have a := v2 w
      refine ⟨a.1, ?_, ?_⟩
      · rw [he _ (by omega) (by omega), show TF 4 y + (TF 5 y - 1) = tE TF y - 1 by omega]; exact a.2.1
      · have e2 := mBad_sh (f := f) (h := bf) (a := TF 4 y + 4) (to := TF 4 y + (TF 5 y - 1)) (d := -TF 4 y) (sh 4 (TF 5 y - 1) (by omega) (by omega)) (by omega) (by omega)
        rw [show TF 4 y + 4 + -TF 4 y = 4 by omega, show TF 4 y + (TF 5 y - 1) + -TF 4 y = TF 5 y - 1 by omega, show TF 4 y + (TF 5 y - 1) = tE TF y - 1 by omega] at e2
        exact e2.mpr a.2.2
    · have l1 : TF 5 y = 1 := by rw [← v1, w]; rfl
      have := he 0 (by omega) (by omega)
      rw [Int.add_zero, show (0 : Int).toNat = 0 from rfl] at this
      rw [this]
      exact v3 w
