/-! PURE 32: what is written is right -/
theorem mBad_ascii {f : Nat → Int} {to : Int} : ∀ (N : Nat) (k : Int), (∀ y : Int, k ≤ y → y < to → f y.toNat < 128) → mBadN f to N k = -1 := by
  intro N
  induction N with
  | zero => intro k _; rfl
  | succ N ih =>
    intro k h
    unfold mBadN
    by_cases c : k < to
    · have e : mChar f k to = 1 := by unfold mChar; rw [if_pos (h k (Int.le_refl k) c)]
      rw [if_pos c, e, if_neg (by decide)]
      exact ih (k + 1) (fun y a b => h y (by omega) b)
    · rw [if_neg c]
theorem mNumN_all {f : Nat → Int} {a v : Int} : ∀ (N : Nat) (k : Int), (∀ j : Int, k ≤ j → j < k + N → f (a + j).toNat = mDigit v j) → mNumN f a v N k = true := by
  intro N
  induction N with
  | zero => intro k _; rfl
  | succ N ih =>
    intro k h
    unfold mNumN
    rw [if_pos (h k (by omega) (by omega))]
    exact ih (k + 1) (fun j a b => h j (by omega) (by omega))
/-- a value's bytes, from 0 on -/
def vOK (k : Int) (z : Int) (bf : Nat → Int) : Prop := 0 ≤ z ∧ aVl bf k 0 = z ∧ (k = 2 ∨ kHold k = true → 4 ≤ z) ∧ (k = 2 → 5 ≤ z ∧ bf (z - 1).toNat = 0 ∧ mBad bf 4 (z - 1) = -1) ∧ (k = 8 → bf 0 ≤ 1) ∧ (kHold k = true → 5 ≤ z)
theorem vOK_sh {k z : Int} {bf e : Nat → Int} {d : Int} (hd : 0 ≤ d) (h : vOK k z bf) (he : ∀ j : Int, 0 ≤ j → j < z → e (d + j).toNat = bf j.toNat) : aVl e k d = z ∧ (k = 2 → 5 ≤ z ∧ e (d + z - 1).toNat = 0 ∧ mBad e (d + 4) (d + z - 1) = -1) ∧ (k = 8 → e d.toNat ≤ 1) := by
  obtain ⟨h0, h1, h2, h3, h4, h5⟩ := h
  have sh : ∀ a to : Int, 0 ≤ a → to ≤ z → sEq bf e a to d := fun a to a1 a2 y y1 y2 => by rw [show y + d = d + y by omega]; exact he y (by omega) (by omega)
  refine ⟨?_, fun w => ?_, fun w => ?_⟩
  · by_cases k2 : k = 2
    · rw [aVl_2 k2] at h1 ⊢
      have := h2 (Or.inl k2)
      have e2 := mLow_sh (a := 0) (w := 4) (by decide) (sh 0 (0 + 4) (by omega) (by omega))
      rw [Int.zero_add] at e2
      rw [e2]; exact h1
    · by_cases kh : kHold k = true
      · rw [aVl_h kh] at h1 ⊢
        have := h2 (Or.inr kh)
        have e2 := mLow_sh (a := 0) (w := 4) (by decide) (sh 0 (0 + 4) (by omega) (by omega))
        rw [Int.zero_add] at e2
        rw [e2]; exact h1
      · rw [aVl_n kh k2] at h1 ⊢; exact h1
  · have a := h3 w
    refine ⟨a.1, ?_, ?_⟩
    · rw [show d + z - 1 = d + (z - 1) by omega, he _ (by omega) (by omega)]; exact a.2.1
    · rw [show d + z - 1 = z - 1 + d by omega, show d + 4 = 4 + d by omega]
      exact (mBad_sh (sh 4 (z - 1) (by omega) (by omega)) (by omega) (by omega)).mpr a.2.2
  · have z1 : z = 1 := by rw [← h1, w]; rfl
    have := he 0 (by omega) (by omega)
    rw [Int.add_zero] at this
    rw [this]
    exact h4 w
theorem bAppNum_v {b : Nat → Int} {sz : Nat} {v w : Int} (hw : 0 ≤ w) : bAppNum b sz v w = zP b sz v w := by
  unfold bAppNum
  rw [bGap_0, bPn_v (by omega) hw (by omega)]
theorem bApp_v {b b2 : Nat → Int} {sz : Nat} {fr n : Int} : ∀ y : Nat, bApp b sz b2 fr n y = if sz ≤ y ∧ y < sz + n.toNat then b2 (fr.toNat + (y - sz)) else b y := by
  intro y
  unfold bApp
  rw [bGap_0]
  unfold bCopy va_cpy
  rw [show ((sz : Int)).toNat = sz by omega]
/-- add's value: the program's fresh bytes and the reference's, and that they are right -/
theorem fresh_v {k v n m : Int} {bF bT : Nat → Int} {zT : Nat} {H : MS} (hT : pA bT zT zT (H.a 0)) (hk : kIs k = true) (hv : kAllows k v = true) (hn : 0 ≤ n ∧ 0 ≤ m ∧ n + m ≤ zT ∧ zT ≤ 2000) (hm : m = 0 ∨ k = 2) (h7 : 0 ≤ H.f 7) (hbad : mBad (H.a 0) n (n + m) = -1) (hF : ∀ x, 0 ≤ bF x ∧ bF x < 256) :
    mKp H (mAddV k v n m H) ∧ (mAddV k v n m H).f 7 = H.f 7 + (dFresh k v n m bF bT).1 ∧ (∀ i : Nat, (i : Int) < H.f 7 → (mAddV k v n m H).a 13 i = H.a 13 i) ∧ (∀ j : Int, 0 ≤ j → j < (dFresh k v n m bF bT).1 → (mAddV k v n m H).a 13 (H.f 7 + j).toNat = (dFresh k v n m bF bT).2 j.toNat) ∧ vOK k (dFresh k v n m bF bT).1 (dFresh k v n m bF bT).2 ∧ (∀ x, 0 ≤ (dFresh k v n m bF bT).2 x ∧ (dFresh k v n m bF bT).2 x < 256) ∧ (kHold k = true → (dFresh k v n m bF bT).1 = 5 ∧ (dFresh k v n m bF bT).2 4 = 0) := by
  have hF5 := rg_255 hF
  have hkk := of_decide_eq_true hk
  have zr : ∀ (a v w : Int) (f : Nat → Int), (∀ x, 0 ≤ f x ∧ f x ≤ 255) → ∀ x, 0 ≤ zP f a v w x ∧ zP f a v w x < 256 := fun a v w f hf x => by have := zP_r hf a v w x; omega
  by_cases k2 : k = 2
  · have ef : dFresh k v n m bF bT = (0 + 4 + m.toNat + 1, bAppNum (bApp (bAppNum bF 0 (m + 1) 4) (0 + 4) bT n m) (0 + 4 + m.toNat) 0 1) := by unfold dFresh; rw [if_pos k2]
    have eu : mAddV k v n m H = mWr 0 (mWc 0 n m (mWl (m + 1) 4 H)) := by
      unfold mAddV
      rw [if_neg (by omega), if_neg (by omega), if_neg (by omega), if_pos k2]
    rw [ef, eu]
    dsimp only
    have w1 := mWl_k (v := m + 1) (n := 4) (S := H) (by decide)
    have w1v := mWlN_v (v := m + 1) (4 : Int).toNat 0 H (by omega) h7
    have e1 : mWl (m + 1) 4 H = mWlN (m + 1) (4 : Int).toNat 0 H := rfl
    rw [← e1] at w1v
    generalize mWl (m + 1) 4 H = H1 at *
    have w2 := mWc_k (ks := 0) (o := n) (n := m) (S := H1) hn.2.1
    have w2v := mWcN_v (ks := 0) (by decide) (o := n) (m - 0).toNat 0 H1 (by omega) (by omega)
    have e2 : mWc 0 n m H1 = mWcN 0 n (m - 0).toNat 0 H1 := rfl
    rw [← e2] at w2v
    generalize mWc 0 n m H1 = H2 at *
    rw [bAppNum_v (by decide), bAppNum_v (by decide)]
    have hfv : ∀ j : Nat, zP (bApp (zP bF ((0 : Nat) : Int) (m + 1) 4) (0 + 4) bT n m) ((0 + 4 + m.toNat : Nat) : Int) 0 1 j = if j = 4 + m.toNat then 0 else if 4 ≤ j ∧ j < 4 + m.toNat then bT (n.toNat + (j - 4)) else zP bF ((0 : Nat) : Int) (m + 1) 4 j := by
      intro j
      conv => lhs; unfold zP
      by_cases c1 : j = 4 + m.toNat
      · rw [if_pos (by omega), if_pos c1]
        simp
      · rw [if_neg (by omega), if_neg c1, bApp_v]
        by_cases c2 : 4 ≤ j ∧ j < 4 + m.toNat
        · rw [if_pos (by omega), if_pos c2]
        · rw [if_neg (by omega), if_neg c2]
          rfl
    have hfr : ∀ x, 0 ≤ zP (bApp (zP bF ((0 : Nat) : Int) (m + 1) 4) (0 + 4) bT n m) ((0 + 4 + m.toNat : Nat) : Int) 0 1 x ∧ zP (bApp (zP bF ((0 : Nat) : Int) (m + 1) 4) (0 + 4) bT n m) ((0 + 4 + m.toNat : Nat) : Int) 0 1 x < 256 := by
      intro x
      rw [hfv]
      split
      · omega
      · split
        · exact hT.2.1 _
        · exact zr _ _ _ _ hF5 x
    generalize zP (bApp (zP bF ((0 : Nat) : Int) (m + 1) 4) (0 + 4) bT n m) ((0 + 4 + m.toNat : Nat) : Int) 0 1 = bf at *
    refine ⟨mKp_t w1.1 (mKp_t w2.1 mWr_k), by rw [mWr_p, w2.2, w1.2]; omega, fun i hi => ?_, fun j j1 j2 => ?_, ?_, hfr, fun w => by rw [k2] at w; cases w⟩
    · rw [mWr_v, w2.2, w1.2, if_neg (by omega), w2v, if_neg (by omega), w1v, if_neg (by omega)]
    · rw [mWr_v, w2.2, w1.2, hfv]
      by_cases c1 : j.toNat = 4 + m.toNat
      · rw [if_pos (by omega), if_pos c1]
      · rw [if_neg (by omega), if_neg c1, w2v, w1.2]
        by_cases c2 : 4 ≤ j.toNat ∧ j.toNat < 4 + m.toNat
        · rw [if_pos (by omega), if_pos c2, w1.1.1 0 (by decide), hT.1.2 _ (by omega)]
          congr 1
          omega
        · rw [if_neg (by omega), if_neg c2, w1v, if_pos (by omega)]
          unfold zP
          rw [if_pos (by omega)]
          congr 3
          omega
    · have hlow : mLow bf 0 4 = m + 1 := by
        have e3 := mLow_sh (f := zP bF ((0 : Nat) : Int) (m + 1) 4) (h := bf) (a := 0) (d := 0) (w := 4) (by decide) (fun y y1 y2 => by rw [Int.add_zero, hfv, if_neg (by omega), if_neg (by omega)])
        rw [Int.add_zero] at e3
        rw [e3]
        exact zP_low (a := 0) (by omega) ⟨by omega, by omega⟩
      refine ⟨by omega, by rw [aVl_2 k2, hlow]; omega, fun _ => by omega, fun _ => ⟨by omega, ?_, ?_⟩, fun w => by omega, fun w => by rw [k2] at w; cases w⟩
      · rw [show (((0 + 4 + m.toNat + 1 : Nat) : Int) - 1).toNat = 4 + m.toNat by omega, hfv, if_pos rfl]
      · have e3 := mBad_sh (f := H.a 0) (h := bf) (a := n) (to := n + m) (d := 4 - n) (fun y y1 y2 => by
          rw [hfv, if_neg (by omega), if_pos (by omega), hT.1.2 _ (by omega)]
          congr 1
          omega) hn.1 (by omega)
        rw [show n + (4 - n) = 4 by omega, show n + m + (4 - n) = ((0 + 4 + m.toNat + 1 : Nat) : Int) - 1 by omega] at e3
        exact e3.mpr hbad
  · have hm0 : m = 0 := by omega
    by_cases kh : kHold k = true
    · have ef : dFresh k v n m bF bT = (0 + 4 + 1, bAppNum (bAppNum bF 0 5 4) (0 + 4) 0 1) := by unfold dFresh; rw [if_neg k2, if_pos kh]
      have k34 := kH34.mp kh
      have eu : mAddV k v n m H = mWr 0 (mWl 5 4 H) := by
        unfold mAddV
        rw [if_neg (by omega), if_neg (by omega), if_neg (by omega), if_neg (by omega), if_neg (by omega)]
      rw [ef, eu]
      dsimp only
      have w1 := mWl_k (v := 5) (n := 4) (S := H) (by decide)
      have w1v := mWlN_v (v := 5) (4 : Int).toNat 0 H (by omega) h7
      have e1 : mWl 5 4 H = mWlN 5 (4 : Int).toNat 0 H := rfl
      rw [← e1] at w1v
      generalize mWl 5 4 H = H1 at *
      rw [bAppNum_v (by decide), bAppNum_v (by decide)]
      have hfv : ∀ j : Nat, zP (zP bF ((0 : Nat) : Int) 5 4) ((0 + 4 : Nat) : Int) 0 1 j = if j = 4 then 0 else zP bF ((0 : Nat) : Int) 5 4 j := by
        intro j
        conv => lhs; unfold zP
        by_cases c1 : j = 4
        · rw [if_pos (by omega), if_pos c1]
          simp
        · rw [if_neg (by omega), if_neg c1]
          rfl
      have hfr : ∀ x, 0 ≤ zP (zP bF ((0 : Nat) : Int) 5 4) ((0 + 4 : Nat) : Int) 0 1 x ∧ zP (zP bF ((0 : Nat) : Int) 5 4) ((0 + 4 : Nat) : Int) 0 1 x < 256 := fun x => zr _ _ _ _ (zP_r hF5 _ _ _) x
      generalize zP (zP bF ((0 : Nat) : Int) 5 4) ((0 + 4 : Nat) : Int) 0 1 = bf at *
      refine ⟨mKp_t w1.1 mWr_k, by rw [mWr_p, w1.2]; omega, fun i hi => ?_, fun j j1 j2 => ?_, ?_, hfr, fun _ => ⟨rfl, by rw [hfv, if_pos rfl]⟩⟩
      · rw [mWr_v, w1.2, if_neg (by omega), w1v, if_neg (by omega)]
      · rw [mWr_v, w1.2, hfv]
        by_cases c1 : j.toNat = 4
        · rw [if_pos (by omega), if_pos c1]
        · rw [if_neg (by omega), if_neg c1, w1v, if_pos (by omega)]
          unfold zP
          rw [if_pos (by omega)]
          congr 3
          omega
      · have hlow : mLow bf 0 4 = 5 := by
          have e3 := mLow_sh (f := zP bF ((0 : Nat) : Int) 5 4) (h := bf) (a := 0) (d := 0) (w := 4) (by decide) (fun y y1 y2 => by rw [Int.add_zero, hfv, if_neg (by omega)])
          rw [Int.add_zero] at e3
          rw [e3]
          exact zP_low (a := 0) (by omega) ⟨by omega, by omega⟩
        exact ⟨by omega, by rw [aVl_h kh, hlow]; rfl, fun _ => by omega, fun w => absurd w k2, fun w => by omega, fun _ => by omega⟩
    · have kr := kWidth_r k
      have ef : dFresh k v n m bF bT = (0 + (kWidth k).toNat, bAppNum bF 0 v (kWidth k)) := by unfold dFresh; rw [if_neg k2, if_neg kh]
      have hk34 : ¬ (k = 3 ∨ k = 4) := fun w => kh (kH34.mpr w)
      have hU : mKp H (mAddV k v n m H) ∧ (mAddV k v n m H).f 7 = H.f 7 + kWidth k ∧ ∀ x : Nat, (mAddV k v n m H).a 13 x = if H.f 7 ≤ x ∧ (x : Int) < H.f 7 + kWidth k then v / 2 ^ (8 * (0 + ((x : Int) - H.f 7))).toNat % 256 else H.a 13 x := by
        unfold mAddV
        by_cases k16 : k = 16
        · have e4 : kWidth k = 4 := by rw [k16]; rfl
          rw [if_pos k16, e4]
          have w1 := mWl_k (v := v) (n := 4) (S := H) (by decide)
          exact ⟨w1.1, w1.2, mWlN_v (v := v) (4 : Int).toNat 0 H (by omega) h7⟩
        · rw [if_neg k16]
          by_cases k18 : k = 18
          · have e4 : kWidth k = 8 := by rw [k18]; rfl
            rw [if_pos k18, e4]
            have w1 := mWl_k (v := v) (n := 8) (S := H) (by decide)
            exact ⟨w1.1, w1.2, mWlN_v (v := v) (8 : Int).toNat 0 H (by omega) h7⟩
          · rw [if_neg k18]
            by_cases k8 : k = 8
            · have e4 : kWidth k = 1 := by rw [k8]; rfl
              rw [if_pos k8, e4]
              refine ⟨mWr_k, mWr_p, fun x => ?_⟩
              rw [mWr_v]
              have hvv : v = 0 ∨ v = 1 := by
                rw [k8] at hv
                exact of_decide_eq_true hv
              by_cases c : x = (H.f 7).toNat
              · rw [if_pos c, if_pos (by omega), show (8 * (0 + ((x : Int) - H.f 7))).toNat = 0 by omega]
                rcases hvv with rfl | rfl <;> decide
              · rw [if_neg c, if_neg (by omega)]
            · have e4 : kWidth k = 0 := by unfold kWidth; rw [if_neg k8, if_neg k16, if_neg k18]
              rw [if_neg k8, if_neg k2, if_pos (by omega), e4, Int.add_zero]
              exact ⟨mKp_r, rfl, fun x => by rw [if_neg (by omega)]⟩
      obtain ⟨u1, u2, u3⟩ := hU
      rw [ef]
      dsimp only
      rw [bAppNum_v kr.1]
      refine ⟨u1, by rw [u2]; omega, fun i hi => by rw [u3, if_neg (by omega)], fun j j1 j2 => ?_, ⟨by omega, by rw [aVl_n kh k2]; omega, fun w => by rcases w with w | w; exact absurd w k2; exact absurd w kh, fun w => absurd w k2, fun w => ?_, fun w => absurd w kh⟩, zr _ _ _ _ hF5, fun w => absurd w kh⟩
      · rw [u3, if_pos (by omega)]
        unfold zP
        rw [if_pos (by omega)]
        congr 3
        omega
      · have e4 : kWidth k = 1 := by rw [w]; rfl
        have hvv : v = 0 ∨ v = 1 := by
          rw [w] at hv
          exact of_decide_eq_true hv
        unfold zP
        rw [if_pos (by omega)]
        rcases hvv with rfl | rfl <;> decide
