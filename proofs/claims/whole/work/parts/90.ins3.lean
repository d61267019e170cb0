/-! PURE 31: an element more, on both sides -/
theorem bPdN_r {sz : Nat} {a : Int} : ∀ (N : Nat) (v : Int) (b : Nat → Int), (∀ x, 0 ≤ b x ∧ b x < 256) → ∀ x, 0 ≤ bPdN sz a N v b x ∧ bPdN sz a N v b x < 256 := by
  intro N
  induction N with
  | zero => intro v b h; exact h
  | succ N ih => intro v b h; exact ih _ _ (bPut_r h _ _ _)
theorem dWrite_r {T : Nat → Nat → Int} {cnt : Nat} {b bT bF : Nat → Int} {sz zF : Nat} {x k nl : Int} (hb : ∀ x, 0 ≤ b x ∧ b x < 256) (hT : ∀ x, 0 ≤ bT x ∧ bT x < 256) (hF : ∀ x, 0 ≤ bF x ∧ bF x < 256) : ∀ y, 0 ≤ dWrite T cnt b sz bT bF zF x k nl y ∧ dWrite T cnt b sz bT bF zF x k nl y < 256 := by
  have g1 := bPut_r (cpy_r hb hb (nLast T cnt x).toNat (nLast T cnt x + (2 + nl + zF)).toNat (sz - nLast T cnt x).toNat) (sz + (2 + nl + zF).toNat) (nLast T cnt x) k
  unfold dWrite
  refine cpy_r hF (bPut_r ?_ _ _ _) _ _ _
  split
  · exact bPdN_r _ _ _ g1
  · exact cpy_r hT g1 _ _ _
theorem mLo_s {S : MS} {x : Int} {fi : Nat} : ∀ (N : Nat) (k t : Int), k ≤ fi → (fi : Int) < k + N ∨ (fi : Int) = S.f 3 ∧ (fi : Int) = k + N → (∀ j : Int, k ≤ j → j < fi → j < S.f 3 ∧ S.a 5 j.toNat < S.a 7 x.toNat) → ((fi : Int) < S.f 3 → S.a 7 x.toNat ≤ S.a 5 fi) → t + 1 = k → mLoN S x N k t + 1 = fi := by
  intro N
  induction N with
  | zero =>
    intro k t h1 h2 h3 h4 h5
    show t + 1 = _
    omega
  | succ N ih =>
    intro k t h1 h2 h3 h4 h5
    unfold mLoN
    by_cases e : k = fi
    · subst e
      by_cases c : (fi : Int) < S.f 3
      · have := h4 c
        rw [if_neg (by rw [show ((fi : Int)).toNat = fi by omega]; omega)]
        exact h5
      · rw [if_neg (by omega)]
        exact h5
    · rw [if_pos (h3 k (by omega) (by omega))]
      exact ih (k + 1) k (by omega) (by omega) (fun j a b => h3 j (by omega) b) h4 rfl
/-- the first row behind x begins behind it -/
theorem begin_fi {f : Nat → Int} (hf : ∀ x, 0 ≤ f x ∧ f x ≤ 255) {ln : Bool} {n : Int} {TF : Nat → Nat → Int} {cnt : Nat} (hC : Cert f ln n TF cnt) {x fi : Nat} (hx : x < cnt) (hxh : kHold (TF 0 x) = true) (hfi : x < fi ∧ fi ≤ cnt) (hf1 : ∀ j : Nat, x < j → j < fi → x ≤ TF 1 j) (hf2 : fi < cnt → TF 1 fi < x) : (fi < cnt → tE TF x ≤ TF 3 fi - 1) ∧ ∀ j : Nat, x < j → j < fi → TF 3 j - 1 < tE TF x := by
  refine ⟨fun w => ?_, fun j a b => ?_⟩
  · obtain ⟨A, TK, R, TR, sA, sR, hA, hA6, hTR⟩ := atEnd hf hC hx hxh hfi hf1 hf2
    have h0 : (aF0 f n).1 = 0 := by rw [Cert_0 hC]
    have hn := hC.1.2.2.1
    have PK := PC_st hf (PC_start (T := TF) h0 hn.2) sA
    have o := (aSt_old hf PK sR).2.2.2 fi (Nat.le_refl fi) w
    dsimp only at o
    rw [hTR 3 fi w (by decide)] at o
    have hz := hC.2.2.2.2.1 x hx hxh (fun z => by have := z.1; dsimp only at this; omega)
    dsimp only at hz
    have r := (hC.2.1 fi (by omega) w).1
    dsimp only at r
    by_cases e : TF 3 fi - 1 = tE TF x - 1
    · have k1 := r.2.1
      rw [e, hz] at k1
      exact absurd k1.2.symm (kIs_0 k1.1)
    · omega
  · have key : ∀ m : Nat, x < m → m < fi → tE TF m ≤ tE TF x - 1 := by
      intro m
      induction m using Nat.strongRecOn with
      | _ m ih =>
        intro m1 m2
        have r := (hC.2.1 m (by omega) (by dsimp only; omega)).1
        dsimp only at r
        have rp := hf1 m m1 m2
        have r1 := r.1.1
        have r3 := r.2.2.1
        by_cases e : TF 1 m = x
        · rw [e, show ((x : Int)).toNat = x by omega] at r3
          exact r3.2.2.2
        · have := ih (TF 1 m).toNat (by omega) (by omega) (by omega)
          omega
    have := key j a b
    have r3 := (hC.2.1 j (by omega) (by dsimp only; omega)).1.2.2.1
    dsimp only at r3
    have : tE TF j = TF 4 j + TF 5 j := rfl
    omega
theorem mLd_kp {f : Nat → Int} {n : Int} {TF : Nat → Nat → Int} {cnt : Nat} {S U : MS} (hL : mLd f n TF cnt S) (h : mKp S U) : mLd f n TF cnt U := by
  unfold mLd
  rw [h.1 3 (by decide), h.1 4 (by decide), h.1 5 (by decide), h.1 6 (by decide), h.1 7 (by decide), h.1 8 (by decide), h.2 3 (by decide), h.2 4 (by decide), h.2 5 (by decide)]
  exact hL
theorem Inv_kp {scn fpl : Int} {zT : Nat} {bT : Nat → Int} {T : Nat → Nat → Int} {cnt : Nat} {zS : Nat → Nat} {bS : Nat → Nat → Int} {S U : MS} (hI : Inv scn fpl zT bT T cnt zS bS S) (h : mKp S U) : Inv scn fpl zT bT T cnt zS bS U := by
  unfold Inv
  rw [h.1 0 (by decide), h.1 1 (by decide), h.1 2 (by decide), h.2 0 (by decide), h.2 1 (by decide), h.2 6 (by decide)]
  exact hI
theorem ins_both {scn fpl : Int} {zT : Nat} {bT : Nat → Int} {T TF : Nat → Nat → Int} {cnt : Nat} {zS : Nat → Nat} {bS : Nat → Nat → Int} {U : MS} {s : Int} (hI : Inv scn fpl zT bT T cnt zS bS U) (hRb : ∀ x, 0 ≤ bS s.toNat x ∧ bS s.toNat x < 256) (hRT : ∀ x, 0 ≤ bT x ∧ bT x < 256) (hR3 : ∀ x, 0 ≤ U.a 13 x ∧ U.a 13 x ≤ 255) (hs : 0 ≤ s ∧ s < 8) (hC : Cert (bS s.toNat) false (zS s.toNat) TF cnt) (ha : tAg T TF cnt) (hL : mLd (bS s.toNat) (zS s.toNat) TF cnt U) (h2 : U.f 2 = zS s.toNat)
    {bF : Nat → Int} {zF : Nat} {x k n : Int} (hF : ∀ x, 0 ≤ bF x ∧ bF x < 256) (hx : 0 ≤ x ∧ x < cnt) (hxh : kHold (TF 0 x.toNat) = true) (h7 : U.f 7 = dNl T cnt x n + 2 + zF) (hn : 0 ≤ n) (hfit : zS s.toNat + (dNl T cnt x n + 2 + zF) ≤ 2000)
    (e0 : k % 256 = U.a 13 0) (hrow : nCell T cnt 0 x = 4 → ∀ j : Int, 0 ≤ j → j < dNl T cnt x n → U.a 13 (1 + j).toNat = mDigit (nCell T cnt 6 x) j) (hdoc : ¬ nCell T cnt 0 x = 4 → ∀ j : Int, 0 ≤ j → j < dNl T cnt x n → U.a 13 (1 + j).toNat = bT j.toNat) (hz : U.a 13 (1 + dNl T cnt x n).toNat = 0) (hv : ∀ j : Int, 0 ≤ j → j < zF → U.a 13 (dNl T cnt x n + 2 + j).toNat = bF j.toNat)
    (hCert : ∃ T1 c1, Cert (zUp TF (dNl T cnt x n + 2 + zF) 1000 x (h0 (bS s.toNat) (tE TF x.toNat - 1) 0 (U.a 13) (dNl T cnt x n + 2 + zF))) false (zS s.toNat + (dNl T cnt x n + 2 + zF)) T1 c1) :
    nBeh T cnt x = mLo x (U.pf 0 0) + 1 ∧ ∀ T1 c1, Inv (-1) fpl 0 bT T1 c1 (va_up zS s.toNat (dInsZ T cnt (zS s.toNat) zF x n)) (va_up bS s.toNat (dInsB T cnt (bS s.toNat) (zS s.toNat) bT bF zF x k n)) (mStore s (mSplice (U.a 7 x.toNat - 1) 0 x (U.pf 0 0))) := by
  obtain ⟨xn, rfl⟩ : ∃ xn : Nat, x = xn := ⟨x.toNat, by omega⟩
  have et : ((xn : Int)).toNat = xn := by omega
  rw [et] at hxh hCert ⊢
  have hxn : xn < cnt := by omega
  obtain ⟨fi, f1, f2, f3, f4⟩ := nBeh_s ha hxn
  obtain ⟨zw1, zw2, zw3, zw4⟩ := Cert_zw hC
  have hb255 := rg_255 hRb
  have hx5 := zw3 xn hxn hxh
  have hE := PC_E hC xn hxn
  dsimp only at hE
  have hEE : tE TF xn = TF 4 xn + TF 5 xn := rfl
  have hla : nLast T cnt xn = tE TF xn - 1 := by
    unfold nLast tE
    rw [lk_c ha (by decide) hx, lk_c ha (by decide) hx, et]
  have hnl0 : 0 ≤ dNl T cnt xn n := by
    unfold dNl
    have := bDigits_r (nCell T cnt 6 xn)
    split <;> omega
  have m7 := (hL.2.1 xn hxn).2.2.2.2
  generalize hnl : dNl T cnt xn n = nl at *
  have hbeg := begin_fi hb255 hC hxn hxh f2 f3 f4
  refine ⟨?_, fun T1 c1 => ?_⟩
  · rw [f1]
    unfold mLo mLoF
    refine (mLo_s _ _ _ (by omega) ?_ (fun j a b => ?_) (fun w => ?_) rfl).symm
    · show (fi : Int) < (xn : Int) + 1 + ((U.f 3 - ((xn : Int) + 1)).toNat : Nat) ∨ (fi : Int) = U.f 3 ∧ (fi : Int) = (xn : Int) + 1 + ((U.f 3 - ((xn : Int) + 1)).toNat : Nat)
      rw [hL.1.1]
      omega
    · show j < U.f 3 ∧ U.a 5 j.toNat < U.a 7 ((xn : Int)).toNat
      rw [hL.1.1, et, m7, ((hL.2.1 j.toNat (by omega)).2.2.1 (by omega)).1]
      exact ⟨by omega, hbeg.2 j.toNat (by omega) (by omega)⟩
    · show U.a 7 ((xn : Int)).toNat ≤ U.a 5 fi
      have w' : (fi : Int) < U.f 3 := w
      rw [hL.1.1] at w'
      rw [et, m7, ((hL.2.1 fi (by omega)).2.2.1 (by omega)).1]
      exact hbeg.1 (by omega)
  · have hDI : ∀ y : Nat, (y : Int) < zS s.toNat + (nl + 2 + zF) → dInsB T cnt (bS s.toNat) (zS s.toNat) bT bF zF xn k n y = zUp TF (nl + 2 + zF) 1000 xn (h0 (bS s.toNat) (tE TF xn - 1) 0 (U.a 13) (nl + 2 + zF)) y ∧ True := by
      intro y hy
      refine ⟨?_, trivial⟩
      unfold dInsB dInsZ rzF
      rw [hnl, show (16 - (0 : Int)).toNat = 16 from rfl]
      have hzz : ((zS s.toNat + (2 + nl + zF).toNat : Nat) : Int) = zS s.toNat + (nl + 2 + zF) := by omega
      have q := rz_zUp (ch := 2 + nl + zF) (sz := zS s.toNat + (2 + nl + zF).toNat) ha ⟨zw1, fun k hk => ⟨zw2 k hk, fun w => by have := (zw3 k hk w).1; omega⟩⟩ 16 xn (dWrite T cnt (bS s.toNat) (zS s.toNat) bT bF zF xn k nl) (h0 (bS s.toNat) (tE TF xn - 1) 0 (U.a 13) (nl + 2 + zF)) (fun _ => ⟨by omega, by rw [et]; exact hxh⟩) zw4 (dWrite_r hRb hRT hF) (fun y hy => by
        rw [dWrite_v (e := U.a 13) (by rw [hla]; omega) hnl0 e0 (fun w => ⟨?_, hrow w⟩) hdoc hz hv y (by omega), hla]
        rw [← hnl]
        unfold dNl
        rw [if_pos w])
      rw [q.1 y (by omega), show 2 + nl + (zF : Int) = nl + 2 + zF by omega]
      rw [zUp_fuel hC 16 1000 xn _ (fun _ => ⟨by omega, by rw [et]; exact hxh, by rw [et]; omega, by rw [et]; omega⟩)]
    have hzz : ((dInsZ T cnt (zS s.toNat) zF xn n : Nat) : Int) = zS s.toNat + (nl + 2 + zF) := by
      unfold dInsZ
      rw [hnl]
      omega
    have hrU : ∀ k : Nat, k < cnt → (U.pf 0 0).a 4 k = TF 1 k ∧ mVal k (U.pf 0 0) = TF 4 k := by
      intro k hk
      refine ⟨(hL.2.1 k hk).1, ?_⟩
      have := lk_val hC hL (x := (k : Int)) ⟨by omega, by omega⟩
      rw [show ((k : Int)).toNat = k by omega] at this
      exact this
    have hp : U.a 7 xn - 1 = tE TF xn - 1 := by rw [m7]
    have hsp := mSplice_v (S := U.pf 0 0) (a := tE TF xn - 1) (gone := 0) (x := xn) (f := bS s.toNat) (n := zS s.toNat) (by omega) (by omega) (by show 0 ≤ U.f 7; omega) (by show tE TF xn - 1 + 0 ≤ U.f 2; omega) hxn zw1 zw2 hrU
    have hs1 := mSp1_v (S := U.pf 0 0) (a := tE TF xn - 1) (gone := 0) (by omega) (by omega) (by show 0 ≤ U.f 7; omega) (by show tE TF xn - 1 + 0 ≤ U.f 2; omega)
    have hf7 : (U.pf 0 0).f 7 = nl + 2 + zF := h7
    have hf2 : (U.pf 0 0).f 2 = zS s.toNat := h2
    rw [hf7, Int.sub_zero] at hsp hs1
    rw [hf2] at hsp hs1
    rw [hp]
    have hMI : ∀ y : Nat, (y : Int) < zS s.toNat + (nl + 2 + zF) → (mSplice (tE TF xn - 1) 0 xn (U.pf 0 0)).a 3 y = zUp TF (nl + 2 + zF) 1000 xn (h0 (bS s.toNat) (tE TF xn - 1) 0 (U.a 13) (nl + 2 + zF)) y := by
      intro y hy
      rw [hsp.1]
      refine zUp_ext (cnt := cnt) (m := zS s.toNat + (nl + 2 + zF)) zw1 zw2 (fun k hk w => by have := (zw3 (TF 1 k).toNat (by have := zw1 k hk; omega) (zw4 k hk w)).1; omega) 1000 xn _ _ (fun _ => ⟨by omega, by rw [et]; omega⟩) (fun y hy => ?_) y hy
      rw [hs1.1 y hy]
      unfold h0
      show (if (y : Int) < tE TF xn - 1 then U.a 3 y else if (y : Int) < tE TF xn - 1 + (nl + 2 + zF) then U.a 13 (y - (tE TF xn - 1).toNat) else U.a 3 ((y : Int) - (nl + 2 + zF) + 0).toNat) = _
      by_cases c1 : (y : Int) < tE TF xn - 1
      · rw [if_pos c1, if_pos c1]; exact hL.1.2.2 y (by omega)
      · rw [if_neg c1, if_neg c1]
        by_cases c2 : (y : Int) < tE TF xn - 1 + (nl + 2 + zF)
        · rw [if_pos c2, if_pos c2]
        · rw [if_neg c2, if_neg c2]; exact hL.1.2.2 _ (by omega)
    obtain ⟨T2, c2, hC2⟩ := hCert
    have hdr : ∀ y, 0 ≤ dInsB T cnt (bS s.toNat) (zS s.toNat) bT bF zF xn k n y ∧ dInsB T cnt (bS s.toNat) (zS s.toNat) bT bF zF xn k n y ≤ 255 := by
      have q := rz_zUp (ch := 2 + nl + zF) (sz := zS s.toNat + (2 + nl + zF).toNat) ha ⟨zw1, fun k hk => ⟨zw2 k hk, fun w => by have := (zw3 k hk w).1; omega⟩⟩ 16 xn (dWrite T cnt (bS s.toNat) (zS s.toNat) bT bF zF xn k nl) _ (fun _ => ⟨by omega, by rw [et]; exact hxh⟩) zw4 (dWrite_r hRb hRT hF) (fun y hy => rfl)
      intro y
      unfold dInsB dInsZ rzF
      rw [hnl, show (16 - (0 : Int)).toNat = 16 from rfl]
      have := q.2 y
      omega
    have hhr := zUp_r (TF := TF) (ch := nl + 2 + zF) 1000 xn _ (h0_r hb255 hR3 (tE TF xn - 1) 0 (nl + 2 + zF))
    obtain ⟨T3, w3, _⟩ := Cert_ext (h := dInsB T cnt (bS s.toNat) (zS s.toNat) bT bF zF xn k n) hhr hdr hC2 (fun y hy => (hDI y hy).1)
    refine Inv_store (S := U) hI hs (by rw [hsp.2.2.1 0 (by decide)]; rfl) (by omega) (fun y hy => by omega) (by rw [hsp.2.2.1 1 (by decide)]; exact hI.2.1.1) (by rw [hsp.2.2.1 6 (by decide)]; exact hI.2.1.2) (by rw [hsp.2.1 1 (by decide)]; rfl) (by rw [hsp.2.1 2 (by decide)]; rfl) (by rw [hsp.2.2.2, hzz]) (fun y hy => ?_) ⟨T3, c2, by rw [hzz]; exact w3⟩
    have hy2 : (y : Int) < zS s.toNat + (nl + 2 + zF) := by omega
    rw [(hDI y hy2).1, hMI y hy2]
