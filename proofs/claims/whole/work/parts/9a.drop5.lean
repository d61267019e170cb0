/-! PURE 41: the reference's loop of drop -/
theorem cC_ivt {T : Nat → Nat → Int} {r nu : Int} : ∀ (k : Nat), 0 ≤ nu → nu < cC T r k → ∃ j, j < k ∧ T 1 j = r ∧ cC T r j = nu := by
  intro k
  induction k with
  | zero => intro h1 h2; have e : cC T r 0 = 0 := rfl; omega
  | succ k ih =>
    intro h1 h2
    have e : cC T r (k + 1) = cC T r k + (if T 1 k = r then 1 else 0) := rfl
    by_cases c : nu < cC T r k
    · obtain ⟨j, a, b⟩ := ih h1 c
      exact ⟨j, by omega, b⟩
    · by_cases d : T 1 k = r
      · rw [if_pos d] at e
        exact ⟨k, by omega, d, by omega⟩
      · rw [if_neg d] at e; omega
theorem bk_none {C : Nat → Bool} {pos le va : Nat → Int} {lo : Nat} : ∀ (m : Nat) (f : Nat → Int), (∀ i, i < m → C (lo + i) = false) → bk C pos le va lo m f = f ∧ bz C le va lo m = 0 := by
  intro m f h
  have q := bk_skip (C := C) (pos := pos) (le := le) (va := va) m lo 0 f h
  rw [Nat.add_zero] at q
  exact q
theorem renum_v {S : MS} {c : Nat} {Tc : Nat → Nat → Int} (hr : ∀ x, 0 ≤ S.a 3 x ∧ S.a 3 x ≤ 255) (hC : Cert (S.a 3) true (S.f 2) Tc c) : mGoGood 4000 (mGoS (S.f 2) (S.pf 6 1)) ∧ mLd (S.a 3) (S.f 2) Tc c (mRenum S) ∧ (∀ q, q = 0 ∨ q = 1 ∨ q = 2 ∨ q = 3 ∨ q = 13 → (mRenum S).a q = S.a q) ∧ (∀ j, j = 0 ∨ j = 1 ∨ j = 2 ∨ j = 7 ∨ j = 8 → (mRenum S).f j = S.f j) ∧ (mRenum S).f 6 = 0 := by
  have hm := mOver_C (S := S.pf 6 1) hr hr (ln := true) (n := S.f 2) rfl hC (fun _ _ => rfl)
  have hfr := mFr_over (S := S.pf 6 1) (S.f 2)
  refine ⟨hm.1, hm.2, fun q hq => hfr.1 q hq, fun j hj => ?_, rfl⟩
  unfold mRenum mAgain
  rw [pf_f, if_neg (by omega), pf_f]
  by_cases e : j = 1
  · subst e; rfl
  · rw [if_neg e]
    show (mGoOver (S.f 2) (S.pf 6 1)).f j = _
    rw [hfr.2 j (by omega), pf_f, if_neg (by omega)]
/-- what the loop leaves of slots and tape -/
def dKeep (s : Int) (S U : MS) : Prop := U.a 0 = S.a 0 ∧ U.f 0 = S.f 0 ∧ U.f 1 = S.f 1 ∧ U.f 6 = 0 ∧ (∀ k, k ≠ s.toNat → U.a 1 k = S.a 1 k) ∧ ∀ y : Nat, ((y : Int) < 2000 * s ∨ 2000 * s + 2000 ≤ y) → U.a 2 y = S.a 2 y
def dSt (s : Int) (S : MS) : Prop := S.a 1 s.toNat = S.f 2 ∧ ∀ y : Nat, (y : Int) < S.f 2 → S.a 2 ((2000 * s).toNat + y) = S.a 3 y
theorem dr_loop {TF : Nat → Nat → Int} {r : Nat} {P z nF : Int} {G : Nat → Int} {c : Nat} {s : Int} (hs : 0 ≤ s ∧ s < 8) (hP : 0 ≤ P) (hc : c ≤ 998) : ∀ (q : Nat) (nu : Int) (S : MS) (Tc : Nat → Nat → Int), (∀ x, 0 ≤ S.a 3 x ∧ S.a 3 x ≤ 255) → r13 S → S.f 6 = 0 → dSt s S → 0 ≤ nu ∧ nu ≤ c → (c : Int) - nu < q → DS TF r P z nF G c nu (S.a 3) (S.f 2) Tc →
    mDrGood s r q nu S ∧ (∀ x, 0 ≤ (mDrN s r q nu S).a 3 x ∧ (mDrN s r q nu S).a 3 x ≤ 255) ∧ dSt s (mDrN s r q nu S) ∧ dKeep s S (mDrN s r q nu S) ∧ (mDrN s r q nu S).f 2 = nF ∧ (∃ T1, Cert ((mDrN s r q nu S).a 3) false nF T1 c) ∧ (∀ y : Nat, ¬ Fl TF r y → (y : Int) < nF → (mDrN s r q nu S).a 3 y = G y) ∧ ∀ p, p ≤ r → opn TF (r + 1) r p → mLow ((mDrN s r q nu S).a 3) (TF 4 p) 4 = TF 5 p + (nF - z) := by
  intro q
  induction q with
  | zero => intro nu S Tc _ _ _ _ h1 h2; omega
  | succ q ih =>
    intro nu S Tc hr h13 h6 hst hnu hq D
    have hC := D.1
    obtain ⟨g1, g2, g3, g4, g5⟩ := renum_v hr hC
    have hn := hC.1.2.2.1
    have c1 := hC.1.1
    dsimp only at c1
    have htb := mLd_tb hC hc g2 (by rw [g4 2 (by decide)])
    have hrow := D.2.1
    have hit := mItem_s (S := mRenum S) (T := Tc) (c := c) (bx := (r : Int)) (nu := nu) (by omega) hC.1.2.1.2.1 g2.1.1 c1 (fun k hk => (g2.2.1 k hk).1)
    rcases hit with ⟨w1, w2⟩ | ⟨k, k1, k2, k3, k4, k5⟩
    · have hno : ¬ 0 < mItem r nu (mRenum S) := by rw [w1]; decide
      have eN : mDrN s r (q + 1) nu S = mRenum S := mDrN_e (by omega) hno
      have hall : ∀ j, j < c → ¬ (Tc 1 j = r ∧ nu ≤ cC Tc r j) := by
        intro j hj w
        by_cases e : cC Tc r j = nu
        · exact w2 j hj ⟨w.1, e⟩
        · obtain ⟨i, i1, i2⟩ := cC_ivt j hnu.1 (show nu < cC Tc r j by omega)
          exact w2 i (by omega) i2
      have hbk := bk_none (C := dC Tc r nu) (pos := Tc 3) (le := dLe Tc) (va := fun k => cC Tc r k) (lo := 0) c (S.a 3) (fun i hi => decide_eq_false (by rw [Nat.zero_add]; exact hall i hi))
      obtain ⟨_, _, danc, _, dnum, dsz, dX⟩ := D
      rw [hbk.2, Int.add_zero] at dsz
      rw [hbk.1] at dX
      obtain ⟨T1, x1, x2⟩ := strict hr hC (fun k a b e => dnum k a b e (fun w => by
        by_cases z : cC Tc r k < nu
        · exact z
        · exact absurd ⟨w, by omega⟩ (hall k b)))
      rw [eN, g3 3 (by decide), g4 2 (by decide)]
      refine ⟨⟨⟨by omega, g1, htb.1, htb.2, by omega, by rw [g2.1.1]; omega, fun w => absurd w hno⟩, fun w => absurd w hno⟩, hr, ⟨by rw [g3 1 (by decide), g4 2 (by decide)]; exact hst.1, fun y hy => by rw [g4 2 (by decide)] at hy; rw [g3 2 (by decide), g3 3 (by decide)]; exact hst.2 y hy⟩, ⟨g3 0 (by decide), g4 0 (by decide), g4 1 (by decide), g5, fun k _ => by rw [g3 1 (by decide)], fun y _ => by rw [g3 2 (by decide)]⟩, dsz, ⟨T1, by rw [← dsz]; exact x1⟩, dX, fun p p1 p2 => ?_⟩
      have zw := Cert_zw hC
      have hph : kHold (Tc 0 p) = true := by
        by_cases e : p = r
        · rw [e, hrow.2.1]; rfl
        · have := p2.2 (p + 1) (by omega) (by omega)
          have rr := (hC.2.1 (p + 1) (by omega) (by dsimp only; omega)).1.1
          dsimp only at rr
          have e1 := (hrow.2.2 (p + 1) (by omega)).1
          rw [show (Tc 1 (p + 1)).toNat = p by omega] at rr
          exact rr.2
      have := (zw.2.2.1 p (by omega) hph).2.2.2
      rw [(hrow.2.2 p p1).2, (danc p p1 p2).1] at this
      rw [this, dsz]
    · have hyes : 0 < mItem r nu (mRenum S) := by rw [k5]; omega
      have eN : mDrN s r (q + 1) nu S = mDrN s r q (nu + 1) (mDrS s r nu (mRenum S)) := mDrN_s (by omega) hyes
      have hnuc : nu < c := by have := cC_r Tc r k; omega
      generalize hW : mRenum S = W at *
      have e5 : W.a 5 (mItem r nu W).toNat = Tc 3 k - 1 ∧ W.a 6 (mItem r nu W).toNat = Tc 4 k - 1 := by
        rw [k5, show ((k : Int)).toNat = k by omega]
        exact (g2.2.1 k k2).2.2.1 k1
      have hdw := mWd_k (v := nu) (S := W.pf 7 0)
      have hdv := mWdN_v (v := nu) (bDigits nu - 0).toNat 0 (W.pf 7 0) (by omega) (by show (0 : Int) ≤ 0; omega)
      have hV13 : r13 (mWd nu (W.pf 7 0)) := r13_wd _ _ _ (fun x => by show 0 ≤ W.a 13 x ∧ W.a 13 x ≤ 255; rw [g3 13 (by decide)]; exact h13 x)
      have eV : mWd nu (W.pf 7 0) = mWdN nu (bDigits nu - 0).toNat 0 (W.pf 7 0) := rfl
      rw [← eV] at hdv
      have eS : mDrS s r nu W = mStore s (mSplice (Tc 3 k) (dLe Tc k) r (mWd nu (W.pf 7 0))) := by
        unfold mDrS dLe
        rw [e5.1, e5.2, show Tc 3 k - 1 + 1 = Tc 3 k by omega, show Tc 4 k - 1 - (Tc 3 k - 1) - 1 = Tc 4 k - 1 - Tc 3 k by omega]
      generalize mWd nu (W.pf 7 0) = V at *
      have hdg := bDigits_r nu
      have v7 : V.f 7 = bDigits nu := by rw [hdw.2]; show (0 : Int) + _ = _; omega
      have hE : ∀ j : Int, 0 ≤ j → j < bDigits nu → V.a 13 j.toNat = mDigit nu j := by
        intro j j1 j2
        have e7 : (W.pf 7 0).f 7 = 0 := rfl
        rw [hdv, e7, if_pos (by omega)]
        congr 1
        omega
      have v2 : V.f 2 = S.f 2 := by rw [hdw.1.2 2 (by decide)]; show W.f 2 = _; exact g4 2 (by decide)
      have v3 : V.a 3 = S.a 3 := by rw [hdw.1.1 3 (by decide)]; exact g3 3 (by decide)
      obtain ⟨zw1, zw2, zw3, zw4⟩ := Cert_zw hC
      have hNk := (PC_nm hC).2 k k1 k2
      dsimp only at hNk
      have hL : dLe Tc k = Tc 4 k - 1 - Tc 3 k := rfl
      have hrV : ∀ j : Nat, j < c → V.a 4 j = Tc 1 j ∧ mVal j V = Tc 4 j := by
        intro j hj
        refine ⟨by rw [hdw.1.1 4 (by decide)]; exact (g2.2.1 j hj).1, ?_⟩
        have e1 := lk_val hC g2 (x := (j : Int)) ⟨by omega, by omega⟩
        rw [show ((j : Int)).toNat = j by omega] at e1
        rw [← e1]
        unfold mVal
        rw [hdw.1.1 6 (by decide)]
        rfl
      have hsp := mSplice_v (S := V) (a := Tc 3 k) (gone := dLe Tc k) (x := r) (f := S.a 3) (n := S.f 2) (by omega) (by omega) (by omega) (by omega) hrow.1 zw1 zw2 hrV
      have hs1 := mSp1_v (S := V) (a := Tc 3 k) (gone := dLe Tc k) (by omega) (by omega) (by omega) (by omega)
      rw [v7, v2, v3] at hs1
      rw [v7, v2] at hsp
      have hp4 : ∀ j : Nat, j < k → kHold (Tc 0 j) = true → Tc 4 j + 4 ≤ Tc 3 k - 1 := by
        intro j j1 j2
        have := inBox_hd hr hC (q := j) (k := k) j1 k2
        unfold hd at this
        rw [j2, if_pos rfl] at this
        exact this
      have hrk : r < k := by have := (hC.2.1 k k1 k2).1.1.1; dsimp only at this; omega
      have hr4 := hp4 r hrk (by rw [hrow.2.1]; rfl)
      have h2 : ∀ y : Nat, (y : Int) < S.f 2 + (bDigits nu - dLe Tc k) → (mSplice (Tc 3 k) (dLe Tc k) r V).a 3 y = zUp Tc (bDigits nu - dLe Tc k) 1000 r (h0 (S.a 3) (Tc 3 k) (dLe Tc k) (V.a 13) (bDigits nu)) y := by
        intro y hy
        rw [hsp.1]
        refine zUp_ext (cnt := r + 1) (m := S.f 2 + (bDigits nu - dLe Tc k)) (fun j hj => zw1 j (by omega)) (fun j hj => zw2 j (by omega)) (fun j hj w => ?_) 1000 r _ _ (fun _ => ⟨by omega, by rw [show ((r : Int)).toNat = r by omega]; omega⟩) (fun y hy => hs1.1 y hy) y hy
        have := zw1 j (by omega)
        have := hp4 (Tc 1 j).toNat (by omega) (zw4 j (by omega) w)
        omega
      have hS2r : ∀ x, 0 ≤ (mSplice (Tc 3 k) (dLe Tc k) r V).a 3 x ∧ (mSplice (Tc 3 k) (dLe Tc k) r V).a 3 x ≤ 255 := by
        intro x
        rw [hsp.1]
        refine zUp_r _ _ _ (fun y => ?_) x
        unfold mSp1 mMv
        rw [cp_a]
        split
        · rw [pf_a, cp_a, if_neg (fun w => absurd w.1 (by decide))]; exact hV13 _
        · rw [pf_a, cp_a]
          split
          · rw [v3]; exact hr _
          · rw [v3]; exact hr _
      obtain ⟨T2, D2, hle, _⟩ := ds_step (f2 := (mSplice (Tc 3 k) (dLe Tc k) r V).a 3) (e := V.a 13) hr hS2r hV13 hP D k1 k2 k3 k4 hE h2
      have hn2 := D2.1.1.2.2.1
      have hst2 := mStore_k (s := s) (S := mSplice (Tc 3 k) (dLe Tc k) r V) hs
      have hS6 : (mStore s (mSplice (Tc 3 k) (dLe Tc k) r V)).f 6 = 0 := by
        rw [hst2.2.1, hsp.2.2.1 6 (by decide), hdw.1.2 6 (by decide)]
        exact g5
      rw [← eS] at hst2 hS6
      generalize hSe : mDrS s r nu W = S3 at *
      generalize mSplice (Tc 3 k) (dLe Tc k) r V = S2 at *
      have e3 : S3.a 3 = S2.a 3 := hst2.1 3 (by decide) (by decide)
      have ef : S3.f 2 = S.f 2 + (bDigits nu - dLe Tc k) := by rw [hst2.2.1]; exact hsp.2.2.2
      have hst3 : dSt s S3 := by
        refine ⟨by rw [hst2.2.2.1, if_pos rfl, hst2.2.1], fun y hy => ?_⟩
        rw [ef] at hy
        rw [hst2.2.2.2, hsp.2.2.2, if_pos (by omega), e3]
        congr 1
        omega
      have i := ih (nu + 1) S3 T2 (by rw [e3]; exact hS2r) (fun x => by rw [hst2.1 13 (by decide) (by decide), hsp.2.1 13 (by decide)]; exact hV13 x) hS6 hst3 (by omega) (by omega) (by rw [e3, ef]; exact D2)
      rw [eN]
      obtain ⟨i1, i2, i3, i4, i5⟩ := i
      refine ⟨⟨⟨by omega, g1, by rw [hW]; exact htb.1, by rw [hW]; exact htb.2, by omega, by rw [hW, g2.1.1]; omega, fun _ => ?_⟩, fun _ => by rw [hW, hSe]; exact i1⟩, i2, i3, ?_, i5⟩
      · rw [hW, e5.1, e5.2, g4 2 (by decide)]
        omega
      · obtain ⟨j1, j2, j3, j4, j5, j6⟩ := i4
        refine ⟨?_, ?_, ?_, j4, fun k hk => ?_, fun y hy => ?_⟩
        · rw [j1, hst2.1 0 (by decide) (by decide), hsp.2.1 0 (by decide), hdw.1.1 0 (by decide)]; exact g3 0 (by decide)
        · rw [j2, hst2.2.1, hsp.2.2.1 0 (by decide), hdw.1.2 0 (by decide)]; exact g4 0 (by decide)
        · rw [j3, hst2.2.1, hsp.2.2.1 1 (by decide), hdw.1.2 1 (by decide)]; exact g4 1 (by decide)
        · rw [j5 k hk, hst2.2.2.1, if_neg hk, hsp.2.1 1 (by decide), hdw.1.1 1 (by decide)]
          show W.a 1 k = _
          rw [g3 1 (by decide)]
        · rw [j6 y hy, hst2.2.2.2, hsp.2.2.2, if_neg (by omega), hsp.2.1 2 (by decide), hdw.1.1 2 (by decide)]
          show W.a 2 y = _
          rw [g3 2 (by decide)]
