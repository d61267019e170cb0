/-! PURE 29: bytes put between bytes -/
def h0 (b : Nat → Int) (p gone : Int) (e : Nat → Int) (len : Int) : Nat → Int := fun y => if (y : Int) < p then b y else if (y : Int) < p + len then e (y - p.toNat) else b ((y : Int) - len + gone).toNat
theorem h0_r {b e : Nat → Int} (hb : ∀ x, 0 ≤ b x ∧ b x ≤ 255) (he : ∀ x, 0 ≤ e x ∧ e x ≤ 255) (p gone len : Int) : ∀ x, 0 ≤ h0 b p gone e len x ∧ h0 b p gone e len x ≤ 255 := by
  intro x
  unfold h0
  split
  · exact hb _
  · split
    · exact he _
    · exact hb _
theorem mSp1_v {a gone : Int} {S : MS} (ha : 0 ≤ a) (hg : 0 ≤ gone) (h7 : 0 ≤ S.f 7) (h2 : a + gone ≤ S.f 2) : (∀ y : Nat, (y : Int) < S.f 2 + (S.f 7 - gone) → (mSp1 a gone S).a 3 y = h0 (S.a 3) a gone (S.a 13) (S.f 7) y) ∧ (∀ q, q ≠ 3 → (mSp1 a gone S).a q = S.a q) ∧ (∀ j, j ≠ 2 → (mSp1 a gone S).f j = S.f j) ∧ (mSp1 a gone S).f 2 = S.f 2 + (S.f 7 - gone) := by
  unfold mSp1 mMv
  refine ⟨fun y hy => ?_, fun q hq => ?_, fun j hj => ?_, rfl⟩
  · rw [cp_a]
    unfold h0
    by_cases c1 : (y : Int) < a
    · rw [if_neg (show ¬ (3 = 3 ∧ a.toNat ≤ y ∧ y < a.toNat + (S.f 7).toNat) by omega), pf_a, cp_a, if_neg (show ¬ (3 = 3 ∧ (a + gone + (S.f 7 - gone)).toNat ≤ y ∧ y < (a + gone + (S.f 7 - gone)).toNat + (S.f 2 - (a + gone)).toNat) by omega), if_pos c1]
    · rw [if_neg c1]
      by_cases c2 : (y : Int) < a + S.f 7
      · rw [if_pos (show 3 = 3 ∧ a.toNat ≤ y ∧ y < a.toNat + (S.f 7).toNat by omega), if_pos c2, pf_a, cp_a, if_neg (show ¬ (13 = 3 ∧ (a + gone + (S.f 7 - gone)).toNat ≤ 0 + (y - a.toNat) ∧ 0 + (y - a.toNat) < (a + gone + (S.f 7 - gone)).toNat + (S.f 2 - (a + gone)).toNat) by omega), Nat.zero_add]
      · rw [if_neg (show ¬ (3 = 3 ∧ a.toNat ≤ y ∧ y < a.toNat + (S.f 7).toNat) by omega), if_neg c2, pf_a, cp_a, if_pos (show 3 = 3 ∧ (a + gone + (S.f 7 - gone)).toNat ≤ y ∧ y < (a + gone + (S.f 7 - gone)).toNat + (S.f 2 - (a + gone)).toNat by omega)]
        congr 1
        omega
  · funext y
    rw [cp_a, if_neg (fun w => hq w.1), pf_a, cp_a, if_neg (fun w => hq w.1)]
  · show (MS.pf _ 2 _).f j = _
    rw [pf_f, if_neg hj]
    rfl
theorem mSplice_v {f : Nat → Int} {n : Int} {TF : Nat → Nat → Int} {cnt : Nat} {S : MS} {a gone : Int} {x : Nat} (ha : 0 ≤ a) (hg : 0 ≤ gone) (h7 : 0 ≤ S.f 7) (h2 : a + gone ≤ S.f 2) (hx : x < cnt) (hw : ∀ k : Nat, k < cnt → -1 ≤ TF 1 k ∧ TF 1 k < k) (hw4 : ∀ k : Nat, k < cnt → 0 ≤ TF 4 k) (hr : ∀ k : Nat, k < cnt → S.a 4 k = TF 1 k ∧ mVal k S = TF 4 k) :
    (mSplice a gone x S).a 3 = zUp TF (S.f 7 - gone) 1000 x ((mSp1 a gone S).a 3) ∧ (∀ q, q ≠ 3 → (mSplice a gone x S).a q = S.a q) ∧ (∀ j, j ≠ 2 → (mSplice a gone x S).f j = S.f j) ∧ (mSplice a gone x S).f 2 = S.f 2 + (S.f 7 - gone) := by
  obtain ⟨s1, s2, s3, s4⟩ := mSp1_v ha hg h7 h2
  unfold mSplice
  obtain ⟨u1, u2, u3⟩ := mUp_zUp (ch := S.f 7 - gone) hw hw4 1000 x (mSp1 a gone S) (fun _ => by omega) (fun k hk => by
    refine ⟨by rw [s2 4 (by decide)]; exact (hr k hk).1, ?_⟩
    have := (hr k hk).2
    unfold mVal at this ⊢
    rw [s2 6 (by decide)]
    exact this)
  exact ⟨u1, fun q hq => by rw [u2 q hq, s2 q hq], fun j hj => by rw [u3, s3 j hj], by rw [u3, s4]⟩
/-- zUp looks at the bytes ahead of n alone -/
theorem zUp_ext {TF : Nat → Nat → Int} {cnt : Nat} {ch m : Int} (hw : ∀ k : Nat, k < cnt → -1 ≤ TF 1 k ∧ TF 1 k < k) (hw4 : ∀ k : Nat, k < cnt → 0 ≤ TF 4 k) (hpar : ∀ k : Nat, k < cnt → 0 ≤ TF 1 k → TF 4 (TF 1 k).toNat + 4 ≤ m) : ∀ (N : Nat) (ar : Int) (f g : Nat → Int), (0 ≤ ar → ar < cnt ∧ TF 4 ar.toNat + 4 ≤ m) → (∀ y : Nat, (y : Int) < m → f y = g y) → ∀ y : Nat, (y : Int) < m → zUp TF ch N ar f y = zUp TF ch N ar g y := by
  intro N
  induction N with
  | zero => intro ar f g _ h; exact h
  | succ N ih =>
    intro ar f g har h
    unfold zUp
    by_cases e : ar < 0
    · rw [if_pos e, if_pos e]; exact h
    · rw [if_neg e, if_neg e]
      have q := har (by omega)
      have w1 := hw ar.toNat (by omega)
      have w4 := hw4 ar.toNat (by omega)
      have el : mLow f (TF 4 ar.toNat) 4 = mLow g (TF 4 ar.toNat) 4 := by
        have e2 := mLow_sh (f := g) (h := f) (a := TF 4 ar.toNat) (d := 0) (w := 4) (by decide) (fun y y1 y2 => by rw [Int.add_zero]; exact h y.toNat (by omega))
        rw [Int.add_zero] at e2
        exact e2
      rw [el]
      refine ih _ _ _ (fun w => ⟨by omega, hpar ar.toNat (by omega) w⟩) (fun y hy => ?_)
      unfold zP
      rw [h y hy]
theorem Cert_zw {f : Nat → Int} {ln : Bool} {n : Int} {TF : Nat → Nat → Int} {cnt : Nat} (hC : Cert f ln n TF cnt) : (∀ k : Nat, k < cnt → -1 ≤ TF 1 k ∧ TF 1 k < k) ∧ (∀ k : Nat, k < cnt → 0 ≤ TF 4 k) ∧ (∀ k : Nat, k < cnt → kHold (TF 0 k) = true → TF 4 k + 5 ≤ n ∧ TF 5 k ≤ n ∧ 5 ≤ TF 5 k ∧ mLow f (TF 4 k) 4 = TF 5 k) ∧ (∀ k : Nat, k < cnt → 0 ≤ TF 1 k → kHold (TF 0 (TF 1 k).toNat) = true) := by
  have z := hC.1.2
  dsimp only at z
  refine ⟨fun k hk => ?_, fun k hk => ?_, fun k hk hh => ?_, fun k hk w => ?_⟩
  · by_cases e : k = 0
    · subst e; omega
    · have := (hC.2.1 k (by omega) hk).1.1.1
      dsimp only at this
      omega
  · have := (PC_E hC k hk).2.1
    exact this
  · have hE := PC_E hC k hk
    dsimp only at hE
    have hEE : tE TF k = TF 4 k + TF 5 k := rfl
    by_cases e : k = 0
    · subst e
      rw [z.1.2.2.2.2.1, z.1.2.2.2.2.2]
      exact ⟨by omega, by omega, by omega, z.2.2⟩
    · have v := (hC.2.1 k (by omega) hk).2.1
      dsimp only at v
      have v4 := v.2.2.2 hh
      have v1 := v.1
      rw [aVl_h hh] at v1
      exact ⟨by omega, by omega, v4, v1⟩
  · by_cases e : k = 0
    · subst e; omega
    · exact (hC.2.1 k (by omega) hk).1.1.2
/-- an element e, of len bytes, put at the end of box x: right again -/
theorem ins_all {b e : Nat → Int} (hb : ∀ x, 0 ≤ b x ∧ b x ≤ 255) (he : ∀ x, 0 ≤ e x ∧ e x ≤ 255) {nn : Int} {TF : Nat → Nat → Int} {cnt : Nat} (hC : Cert b false nn TF cnt) {x fi mn : Nat} {TN : Nat → Nat → Int} {k nl l1 : Int}
    (hx : x < cnt) (hxh : kHold (TF 0 x) = true) (hfi : x < fi ∧ fi ≤ cnt) (hf1 : ∀ j : Nat, x < j → j < fi → x ≤ TF 1 j) (hf2 : fi < cnt → TF 1 fi < x) (hn : nn + (nl + 2 + l1) ≤ 2000) (hnl : 0 ≤ nl) (h0l : 0 ≤ l1)
    (e0 : e 0 = k) (hK : kIs k = true) (hnz : ∀ y : Int, 1 ≤ y → y < 1 + nl → ¬ e y.toNat = 0) (hz : e (1 + nl).toNat = 0) (hbad : mBad e 1 (1 + nl) = -1)
    (hnr : TF 0 x = 4 → mNum e 1 (1 + nl) (TF 6 x) = true)
    (hnd : ¬ TF 0 x = 4 → ∀ q, q < cnt → TF 1 q = x → TF 4 q - 1 - TF 3 q = nl → ¬ ∀ j : Int, 0 ≤ j → j < nl → b (TF 3 q + j).toNat = e (1 + j).toNat)
    (hV : aVl e k (nl + 2) = l1) (hVt : k = 2 ∨ kHold k = true → 4 ≤ l1) (hH : kHold k = true → 5 ≤ l1 ∧ TF 2 x < 16) (hT : k = 2 → 5 ≤ l1 ∧ e (nl + 2 + l1 - 1).toNat = 0 ∧ mBad e (nl + 2 + 4) (nl + 2 + l1 - 1) = -1) (h8 : k = 8 → e (nl + 2).toNat ≤ 1)
    (hTN : TN 1 fi = x ∧ ∀ k1, fi < k1 → k1 < fi + mn → fi ≤ TN 1 k1 ∧ TN 1 k1 < k1) (hmn : 0 < mn)
    (hRun : ∀ h : Nat → Int, (∀ x, 0 ≤ h x ∧ h x ≤ 255) → (∀ y : Int, 0 ≤ y → y < nl + 2 + l1 → h (y + (tE TF x - 1)).toNat = e y.toNat) → ∀ T1 : Nat → Nat → Int, T1 2 x = TF 2 x → (∀ q, q < fi → T1 1 q < fi) → PC h false (nn + (nl + 2 + l1)) (tE TF x - 1 + nl + 2 + (if kHold k = true then 4 else l1), (if kHold k = true then (fi : Int) else x), nApp T1 fi k x (tE TF x) (tE TF x - 1 + nl + 2) l1, fi + 1) → ∃ M T2, aSt h false M (tE TF x - 1 + nl + 2 + (if kHold k = true then 4 else l1), (if kHold k = true then (fi : Int) else x), nApp T1 fi k x (tE TF x) (tE TF x - 1 + nl + 2) l1, fi + 1) (tE TF x - 1 + nl + 2 + l1, x, T2, fi + mn) ∧ ∀ k1, fi ≤ k1 → k1 < fi + mn → ∀ co, co < 6 → T2 co k1 = TN co k1) :
    ∃ T1, Cert (zUp TF (nl + 2 + l1) 1000 x (h0 b (tE TF x - 1) 0 e (nl + 2 + l1))) false (nn + (nl + 2 + l1)) T1 (cnt + mn) := by
  obtain ⟨zw1, zw2, zw3, zw4⟩ := Cert_zw hC
  have hEx := PC_E hC x hx
  dsimp only at hEx
  have hEE : tE TF x = TF 4 x + TF 5 x := rfl
  have hx5 := zw3 x hx hxh
  obtain ⟨p, hp⟩ : ∃ p, p = tE TF x - 1 := ⟨_, rfl⟩
  have hanc : ∀ q, q ≤ x → opn TF (x + 1) x q → kHold (TF 0 q) = true ∧ TF 4 q + 4 ≤ p := by
    intro q q1 q2
    have hqh : kHold (TF 0 q) = true := by
      by_cases e : q = x
      · rw [e]; exact hxh
      · have := q2.2 (q + 1) (by omega) (by omega)
        have rr := (hC.2.1 (q + 1) (by omega) (by dsimp only; omega)).1.1
        dsimp only at rr
        rw [show (TF 1 (q + 1)).toNat = q by omega] at rr
        exact rr.2
    refine ⟨hqh, ?_⟩
    by_cases e : q = x
    · subst e; omega
    · have := inBox_hd hb hC (q := q) (k := x) (by omega) hx
      unfold hd at this
      rw [hqh, if_pos rfl] at this
      have := (hC.2.1 x (by omega) hx).1.2.2.1
      dsimp only at this
      omega
  have hpre0 : ∀ y : Int, 0 ≤ y → y < p → h0 b p 0 e (nl + 2 + l1) y.toNat = b y.toNat := fun y y1 y2 => by unfold h0; rw [if_pos (by omega)]
  have hU := zUp_props hb (ch := nl + 2 + l1) hC x hx hxh 1000 (h0 b p 0 e (nl + 2 + l1)) (by omega) (fun q q1 q2 => by
    obtain ⟨a1, a2⟩ := hanc q q1 q2
    have w := zw3 q (by omega) a1
    refine ⟨?_, by omega, by omega⟩
    have := zw2 q (by omega)
    have e2 := mLow_sh (f := b) (h := h0 b p 0 e (nl + 2 + l1)) (a := TF 4 q) (d := 0) (w := 4) (by decide) (fun y y1 y2 => by rw [Int.add_zero]; exact hpre0 y (by omega) (by omega))
    rw [Int.add_zero] at e2
    rw [e2]
    exact w.2.2.2)
  have hUr := zUp_r (TF := TF) (ch := nl + 2 + l1) 1000 x _ (h0_r hb he p 0 (nl + 2 + l1))
  rw [← hp] at hRun ⊢
  generalize zUp TF (nl + 2 + l1) 1000 x (h0 b p 0 e (nl + 2 + l1)) = h at *
  have hat : ∀ y : Int, p ≤ y → h y.toNat = h0 b p 0 e (nl + 2 + l1) y.toNat := fun y y1 => hU.1 y.toNat (fun q q1 q2 z => by have := (hanc q q1 q2).2; omega)
  have hel : ∀ y : Int, 0 ≤ y → y < nl + 2 + l1 → h (y + p).toNat = e y.toNat := by
    intro y y1 y2
    rw [hat (y + p) (by omega)]
    unfold h0
    rw [if_neg (by omega), if_pos (by omega)]
    congr 1
    omega
  have hsh : ∀ a to : Int, 0 ≤ a → to ≤ nl + 2 + l1 → sEq e h a to p := fun a to a1 a2 y y1 y2 => hel y (by omega) (by omega)
  have eVl : aVl h k (p + nl + 2) = l1 := by
    by_cases k2 : k = 2
    · rw [aVl_2 k2] at hV ⊢
      have := hVt (Or.inl k2)
      have e2 := mLow_sh (a := nl + 2) (w := 4) (by decide) (hsh (nl + 2) (nl + 2 + 4) (by omega) (by omega))
      rw [show p + nl + 2 = nl + 2 + p by omega, e2]
      exact hV
    · by_cases kh : kHold k = true
      · rw [aVl_h kh] at hV ⊢
        have := hVt (Or.inr kh)
        have e2 := mLow_sh (a := nl + 2) (w := 4) (by decide) (hsh (nl + 2) (nl + 2 + 4) (by omega) (by omega))
        rw [show p + nl + 2 = nl + 2 + p by omega, e2]
        exact hV
      · rw [aVl_n kh k2] at hV ⊢
        exact hV
  have hE1 : tE TF x = 1 + p := by omega
  refine ins_core (f := b) (h := h) (ch := nl + 2 + l1) (k := k) (v := p + nl + 2) (l1 := l1) hb hUr hC hx hxh hfi hf1 hf2 (by omega) (by omega) (fun y y1 y2 y3 => ?_) (fun q q1 q2 => hU.2 q q1 q2) (fun y y1 y2 => ?_) ?_ hK (by omega) (fun y y1 y2 => ?_) ?_ ?_ (fun w => ?_) (fun w q q1 q2 q3 q4 => ?_) eVl h0l hH (fun w => ?_) (fun w => ?_) hTN hmn (hRun h hUr hel)
  · rw [hU.1 y.toNat (fun q q1 q2 z => y3 q q1 q2 (by omega))]
    exact hpre0 y y1 (by omega)
  · rw [hat (y + (nl + 2 + l1)) (by omega)]
    unfold h0
    rw [if_neg (by omega), if_neg (by omega)]
    congr 1
    omega
  · rw [← hp, ← e0]
    have := hel 0 (by omega) (by omega)
    rw [Int.zero_add] at this
    exact this
  · have := hel (y - p) (by omega) (by omega)
    rw [show y - p + p = y by omega] at this
    rw [this]
    exact hnz (y - p) (by omega) (by omega)
  · have := hel (1 + nl) (by omega) (by omega)
    rw [show p + nl + 2 - 1 = 1 + nl + p by omega, this]
    exact hz
  · rw [hE1, show p + nl + 2 - 1 = 1 + nl + p by omega]
    exact (mBad_sh (hsh 1 (1 + nl) (by omega) (by omega)) (by omega) (by omega)).mpr hbad
  · rw [hE1, show p + nl + 2 - 1 = 1 + nl + p by omega, mNum_sh (hsh 1 (1 + nl) (by omega) (by omega))]
    exact hnr w
  · refine hnd w q q1 q2 (by omega) (fun j j1 j2 => ?_)
    rw [q4 j j1 (by omega), hE1, show 1 + p + j = 1 + j + p by omega]
    exact hel (1 + j) (by omega) (by omega)
  · have a := hT w
    refine ⟨a.1, ?_, ?_⟩
    · rw [show p + nl + 2 + l1 - 1 = nl + 2 + l1 - 1 + p by omega, hel _ (by omega) (by omega)]
      exact a.2.1
    · rw [show p + nl + 2 + l1 - 1 = nl + 2 + l1 - 1 + p by omega, show p + nl + 2 + 4 = nl + 2 + 4 + p by omega]
      exact (mBad_sh (hsh (nl + 2 + 4) (nl + 2 + l1 - 1) (by omega) (by omega)) (by omega) (by omega)).mpr a.2.2
  · have l8 : l1 = 1 := by rw [← hV, w]; rfl
    rw [show p + nl + 2 = nl + 2 + p by omega, hel _ (by omega) (by omega)]
    exact h8 w
