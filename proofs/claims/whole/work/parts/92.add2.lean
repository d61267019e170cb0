/-! PURE 33: add -/
theorem zr_eq {b : Nat → Int} {sz : Nat} {S : MS} (hA : pA b sz sz (S.a 0)) : ∀ (N : Nat) (k : Int), 0 ≤ k → k + N ≤ sz → (bFzN b sz N k = -1 ↔ mZrN S N k = false) := by
  intro N
  induction N with
  | zero => intro k _ _; exact ⟨fun _ => rfl, fun _ => rfl⟩
  | succ N ih =>
    intro k h1 h2
    unfold bFzN mZrN
    rw [pGet hA h1 (by omega)]
    by_cases e : S.a 0 k.toNat = 0
    · rw [if_pos e, if_pos e]
      exact ⟨fun w => by omega, fun w => by cases w⟩
    · rw [if_neg e, if_neg e]
      exact ih (k + 1) (by omega) (by omega)
theorem mZrN_no {S : MS} : ∀ (N : Nat) (k : Int), mZrN S N k = false → ∀ j : Int, k ≤ j → j < k + N → ¬ S.a 0 j.toNat = 0 := by
  intro N
  induction N with
  | zero => intro k _ j a b; omega
  | succ N ih =>
    intro k h j a b
    unfold mZrN at h
    by_cases e : S.a 0 k.toNat = 0
    · rw [if_pos e] at h; cases h
    · rw [if_neg e] at h
      by_cases e2 : j = k
      · subst e2; exact e
      · exact ih (k + 1) h j (by omega) (by omega)
theorem free_eq {b : Nat → Int} {nn : Nat} {ln : Bool} {T TF : Nat → Nat → Int} {cnt : Nat} {S : MS} (hC : Cert b ln nn TF cnt) (ha : tAg T TF cnt) (hL : mLd b nn TF cnt S) (hA : pA b nn nn (S.a 3)) {bT : Nat → Int} {zT : Nat} (hT : pA bT zT zT (S.a 0)) {x w : Int} (hx : 0 ≤ x ∧ x < cnt) (hw : 0 ≤ w ∧ w ≤ zT) (h4 : ¬ TF 0 x.toNat = 4) : dFree T cnt b nn bT zT x w = mFree x w S := by
  unfold dFree mFree
  rw [lk_kind hC hL hx, if_neg h4, pWrong hT (by omega) (by omega), find_eq hC ha hL hA hT hx hw]
  have hz := zr_eq hT (w - 0).toNat 0 (by omega) (by omega)
  have e1 : bFz bT zT 0 w = bFzN bT zT (w - 0).toNat 0 := rfl
  have e2 : mZr S w 0 = mZrN S (w - 0).toNat 0 := rfl
  rw [e1, e2]
  have hb := mBad_r (S.a 0) 0 w
  have hf := mFd_r (S := S) (bx := x) (h := S.a 0) (q := 0) (n := w) (k := 1) (by rw [hL.1.1]; omega)
  cases hzz : mZrN S (w - 0).toNat 0
  · rw [if_neg (by decide)]
    have := hz.mpr hzz
    by_cases c : mBad (S.a 0) 0 w < 0 ∧ mFd S x (S.a 0) 0 w 1 < 0
    · rw [decide_eq_true c, decide_eq_true ⟨this, by omega, by omega⟩]
    · rw [decide_eq_false c, decide_eq_false (fun z => c ⟨by omega, by omega⟩)]
  · rw [if_pos rfl, decide_eq_false (fun z => by have := hz.mp z.1; rw [hzz] at this; cases this)]
theorem dNl_eq {b : Nat → Int} {nn : Nat} {ln : Bool} {T TF : Nat → Nat → Int} {cnt : Nat} {S : MS} (hC : Cert b ln nn TF cnt) (ha : tAg T TF cnt) (hL : mLd b nn TF cnt S) {x n : Int} (hx : 0 ≤ x ∧ x < cnt) : mNl x n S = dNl T cnt x n ∧ mEls x S = nCell T cnt 6 x := by
  have e6 : mEls x S = nCell T cnt 6 x := by
    rw [mEls_c hC hL hx.1, lk_c ha (by decide) hx]
    have := hC.2.2.2.2.2.1 x.toNat (by dsimp only; omega)
    dsimp only at this
    rw [this, show ((x.toNat : Nat) : Int) = x by omega]
  refine ⟨?_, e6⟩
  unfold mNl dNl
  rw [lk_kind hC hL hx, lk_c ha (by decide) hx, e6]
/-- the bytes of a new element, and that they are right where they come -/
theorem new_right {b bT bF : Nat → Int} {nn zT : Nat} {T TF : Nat → Nat → Int} {cnt : Nat} {S U : MS} (hb : ∀ x, 0 ≤ b x ∧ b x ≤ 255) (hU13 : ∀ x, 0 ≤ U.a 13 x ∧ U.a 13 x ≤ 255) (hC : Cert b false nn TF cnt) (ha : tAg T TF cnt) (hL : mLd b nn TF cnt S) (hA : pA b nn nn (S.a 3)) (hT : pA bT zT zT (S.a 0)) {x k n : Int} {zF : Nat} (hx : 0 ≤ x ∧ x < cnt) (hxh : kHold (TF 0 x.toNat) = true) (hn : 0 ≤ n ∧ n ≤ zT ∧ zT ≤ 2000) (hfree : mFree x n S = true) (hk : kIs k = true)
    (hU : ∀ i : Nat, (i : Int) < 2 + mNl x n S → U.a 13 i = (mHead x k n S).a 13 i) (hv : ∀ j : Int, 0 ≤ j → j < zF → U.a 13 (2 + mNl x n S + j).toNat = bF j.toNat) (hvo : vOK k zF bF) (hfit : (nn : Int) + (dNl T cnt x n + 2 + zF) ≤ 2000) (hdep : kHold k = true → TF 2 x.toNat < 16) :
    (k % 256 = U.a 13 0 ∧ (nCell T cnt 0 x = 4 → ∀ j : Int, 0 ≤ j → j < dNl T cnt x n → U.a 13 (1 + j).toNat = mDigit (nCell T cnt 6 x) j) ∧ (¬ nCell T cnt 0 x = 4 → ∀ j : Int, 0 ≤ j → j < dNl T cnt x n → U.a 13 (1 + j).toNat = bT j.toNat) ∧ U.a 13 (1 + dNl T cnt x n).toNat = 0 ∧ ∀ j : Int, 0 ≤ j → j < zF → U.a 13 (dNl T cnt x n + 2 + j).toNat = bF j.toNat)
    ∧ ∀ fi mn : Nat, ∀ TN : Nat → Nat → Int, nBeh T cnt x = fi → TN 1 fi = x → (∀ k1, fi < k1 → k1 < fi + mn → fi ≤ TN 1 k1 ∧ TN 1 k1 < k1) → 0 < mn →
      (∀ h : Nat → Int, (∀ x, 0 ≤ h x ∧ h x ≤ 255) → (∀ y : Int, 0 ≤ y → y < dNl T cnt x n + 2 + zF → h (y + (tE TF x.toNat - 1)).toNat = U.a 13 y.toNat) → ∀ T1 : Nat → Nat → Int, T1 2 x.toNat = TF 2 x.toNat → (∀ q, q < fi → T1 1 q < fi) → PC h false (nn + (dNl T cnt x n + 2 + zF)) (tE TF x.toNat - 1 + dNl T cnt x n + 2 + (if kHold k = true then 4 else (zF : Int)), (if kHold k = true then (fi : Int) else x.toNat), nApp T1 fi k x.toNat (tE TF x.toNat) (tE TF x.toNat - 1 + dNl T cnt x n + 2) zF, fi + 1) → ∃ M T2, aSt h false M (tE TF x.toNat - 1 + dNl T cnt x n + 2 + (if kHold k = true then 4 else (zF : Int)), (if kHold k = true then (fi : Int) else x.toNat), nApp T1 fi k x.toNat (tE TF x.toNat) (tE TF x.toNat - 1 + dNl T cnt x n + 2) zF, fi + 1) (tE TF x.toNat - 1 + dNl T cnt x n + 2 + zF, x.toNat, T2, fi + mn) ∧ ∀ k1, fi ≤ k1 → k1 < fi + mn → ∀ co, co < 6 → T2 co k1 = TN co k1) →
      ∃ T1, Cert (zUp TF (dNl T cnt x n + 2 + zF) 1000 x (h0 b (tE TF x.toNat - 1) 0 (U.a 13) (dNl T cnt x n + 2 + zF))) false (nn + (dNl T cnt x n + 2 + zF)) T1 (cnt + mn) := by
  obtain ⟨d1, d2⟩ := dNl_eq (n := n) hC ha hL hx
  obtain ⟨h1, h2, h3, h4, h5⟩ := mHead_v (x := x) (k := k) (S := S) (n := n) (by omega)
  rw [d1] at hU hv h2 h4 h5
  have hnl0 : 0 ≤ dNl T cnt x n := by
    unfold dNl
    have := bDigits_r (nCell T cnt 6 x)
    split <;> omega
  have hkk := of_decide_eq_true hk
  have e0 : U.a 13 0 = k := by rw [hU 0 (by omega)]; exact h3
  have ek := lk_kind hC hL hx
  have ec := lk_c ha (co := 0) (by decide) hx
  have hrow : nCell T cnt 0 x = 4 → ∀ j : Int, 0 ≤ j → j < dNl T cnt x n → U.a 13 (1 + j).toNat = mDigit (nCell T cnt 6 x) j := by
    intro w j j1 j2
    rw [hU _ (by omega), h4 j j1 j2, ek, ← ec, if_pos w, d2]
  have hdoc : ¬ nCell T cnt 0 x = 4 → ∀ j : Int, 0 ≤ j → j < dNl T cnt x n → U.a 13 (1 + j).toNat = bT j.toNat := by
    intro w j j1 j2
    have hnn : dNl T cnt x n = n := by unfold dNl; rw [if_neg w]
    rw [hU _ (by omega), h4 j j1 j2, ek, ← ec, if_neg w, hT.1.2 _ (by omega)]
  have hz : U.a 13 (1 + dNl T cnt x n).toNat = 0 := by rw [hU _ (by omega)]; exact h5
  have hv2 : ∀ j : Int, 0 ≤ j → j < zF → U.a 13 (dNl T cnt x n + 2 + j).toNat = bF j.toNat := fun j j1 j2 => by
    rw [show dNl T cnt x n + 2 + j = 2 + dNl T cnt x n + j by omega]; exact hv j j1 j2
  refine ⟨⟨by rw [e0]; omega, hrow, hdoc, hz, hv2⟩, fun fi mn TN g1 g2 g3 g4 hRun => ?_⟩
  obtain ⟨xn, rfl⟩ : ∃ xn : Nat, x = xn := ⟨x.toNat, by omega⟩
  have et : ((xn : Int)).toNat = xn := by omega
  rw [et] at hxh hdep ec ek hRun ⊢
  have hxn : xn < cnt := by omega
  obtain ⟨fi2, f1, f2, f3, f4⟩ := nBeh_s ha hxn
  have efi : fi2 = fi := by omega
  subst efi
  obtain ⟨v1, v2, v3⟩ := vOK_sh (d := dNl T cnt xn n + 2) (e := U.a 13) (by omega) hvo hv2
  have hvo2 := hvo
  obtain ⟨o0, o1, o2, o3, o4, o5⟩ := hvo2
  have h6 : nCell T cnt 6 xn = TF 6 xn := by rw [lk_c ha (by decide) hx, et]
  refine ins_all (e := U.a 13) (nl := dNl T cnt xn n) (l1 := zF) hb hU13 hC hxn hxh f2 f3 f4 (by omega) hnl0 o0 e0 hk (fun y y1 y2 => ?_) hz ?_ (fun w => ?_) (fun w q q1 q2 q3 q4 => ?_) v1 o2 (fun w => ⟨o5 w, hdep w⟩) v2 v3 ⟨g2, g3⟩ g4 hRun
  · by_cases w : nCell T cnt 0 xn = 4
    · have := hrow w (y - 1) (by omega) (by omega)
      rw [show 1 + (y - 1) = y by omega] at this
      rw [this]
      have := mDigit_r (nCell T cnt 6 xn) (y - 1)
      omega
    · have hnn : dNl T cnt xn n = n := by unfold dNl; rw [if_neg w]
      have := hdoc w (y - 1) (by omega) (by omega)
      rw [show 1 + (y - 1) = y by omega] at this
      rw [this, hT.1.2 _ (by omega)]
      unfold mFree at hfree
      rw [ek, ← ec, if_neg w] at hfree
      cases hzr : mZr S n 0
      · have := mZrN_no (n - 0).toNat 0 hzr (y - 1) (by omega) (by omega)
        exact this
      · rw [hzr, if_pos rfl] at hfree; cases hfree
  · by_cases w : nCell T cnt 0 xn = 4
    · refine mBad_ascii _ _ (fun y y1 y2 => ?_)
      have := hrow w (y - 1) (by omega) (by omega)
      rw [show 1 + (y - 1) = y by omega] at this
      rw [this]
      have := mDigit_r (nCell T cnt 6 xn) (y - 1)
      omega
    · have hnn : dNl T cnt xn n = n := by unfold dNl; rw [if_neg w]
      have e3 := mBad_sh (f := S.a 0) (h := U.a 13) (a := 0) (to := n) (d := 1) (fun y y1 y2 => by
        rw [show y + 1 = 1 + y by omega, hdoc w y y1 (by omega), hT.1.2 _ (by omega)]) (by omega) (by omega)
      rw [show (0 : Int) + 1 = 1 by omega, show n + 1 = 1 + n by omega] at e3
      rw [hnn]
      refine e3.mpr ?_
      unfold mFree at hfree
      rw [ek, ← ec, if_neg w] at hfree
      have hb2 := mBad_r (S.a 0) 0 n
      cases hzr : mZr S n 0
      · rw [hzr, if_neg (by decide)] at hfree
        have := (of_decide_eq_true hfree).1
        omega
      · rw [hzr, if_pos rfl] at hfree; cases hfree
  · have w2 : nCell T cnt 0 xn = 4 := by rw [ec]; exact w
    have hnn : dNl T cnt xn n = bDigits (nCell T cnt 6 xn) := by unfold dNl; rw [if_pos w2]
    unfold mNum
    rw [h6] at hnn
    rw [if_neg (by omega)]
    refine mNumN_all _ 0 (fun j j1 j2 => ?_)
    rw [hrow w2 j j1 (by omega), h6]
  · have w2 : ¬ nCell T cnt 0 xn = 4 := by rw [ec]; exact w
    have hnn : dNl T cnt xn n = n := by unfold dNl; rw [if_neg w2]
    unfold mFree at hfree
    rw [ek, if_neg w] at hfree
    have hfd := mFd_r (S := S) (bx := (xn : Int)) (h := S.a 0) (q := 0) (n := n) (k := 1) (by rw [hL.1.1]; omega)
    cases hzr : mZr S n 0
    · rw [hzr, if_neg (by decide)] at hfree
      have hd := (of_decide_eq_true hfree).2
      have hm : mFd S xn (S.a 0) 0 n 1 = -1 := by omega
      unfold mFd at hm
      rw [hL.1.1, mFdN_m1 _ _ (by omega)] at hm
      have q0 : 1 ≤ q := by
        by_cases e : q = 0
        · subst e; have := hC.1.2.1.2.1; dsimp only at this; omega
        · omega
      refine hm q (by omega) (by omega) ((mHit_s (mLd_rw (T := TF) hL (fun _ _ _ _ => rfl)) q0 q1).mpr ⟨⟨q2, by omega⟩, fun j j1 j2 => ?_⟩)
      have hN := (PC_nm hC).2 q q0 q1
      dsimp only at hN
      rw [hL.1.2.2 _ (by omega), q4 j j1 (by omega), hdoc w2 j j1 (by omega), Int.zero_add, hT.1.2 _ (by omega)]
    · rw [hzr, if_pos rfl] at hfree; cases hfree
