/-! PURE 44: drop, as called -/
theorem nu_eq {f : Nat → Int} {ln : Bool} {n : Int} {TF : Nat → Nat → Int} {cnt : Nat} {S : MS} (hC : Cert f ln n TF cnt) (hL : mLd f n TF cnt S) {x r : Nat} (x1 : 1 ≤ x) (hx : x < cnt) : mElsF S r 1 x 0 = cC TF r x := by
  unfold mElsF
  have q := mElsN_c (S := S) (TF := TF) (cnt := cnt) (nd := (r : Int)) (fun k hk => (hL.2.1 k hk).1) (x - 1) 1 0 (by omega)
  rw [show ((1 : Nat) : Int) = 1 from rfl, show 1 + (x - 1) = x by omega] at q
  rw [show ((x : Int) - 1).toNat = x - 1 by omega, q]
  have e : cC TF r 1 = 0 := by
    unfold cC cC
    have := hC.1.2.1.2.1
    dsimp only at this
    rw [this, if_neg (by omega)]
    rfl
  rw [e]
  omega
theorem Inv_keep {scn fpl : Int} {zT : Nat} {bT : Nat → Int} {T : Nat → Nat → Int} {cnt : Nat} {zS : Nat → Nat} {bS : Nat → Nat → Int} {S U : MS} (hI : Inv scn fpl zT bT T cnt zS bS S) {s : Int} (hs : 0 ≤ s ∧ s < 8) (hk : dKeep s S U) (hst : dSt s U) {z1 : Nat} {b1 : Nat → Int} (h2 : U.f 2 = z1) (hb : ∀ y : Nat, y < z1 → b1 y = U.a 3 y) (hC : ∃ TF c, Cert b1 false z1 TF c) : ∀ T1 c1, Inv (-1) fpl zT bT T1 c1 (va_up zS s.toNat z1) (va_up bS s.toNat b1) U := by
  intro T1 c1
  obtain ⟨k1, k2, k3, k4, k5, k6⟩ := hk
  refine ⟨⟨by rw [k2]; exact hI.1.1, hI.1.2.1, fun y hy => by rw [k1]; exact hI.1.2.2 y hy⟩, ⟨by rw [k3]; exact hI.2.1.1, k4⟩, fun k hk => ?_, by omega, fun w => by omega⟩
  by_cases e : k = s.toNat
  · subst e
    rw [va_up_self, va_up_self]
    refine ⟨by rw [hst.1, h2], fun y hy => ?_, hC⟩
    rw [hb y hy, ← hst.2 y (by rw [h2]; omega)]
    congr 1
    omega
  · rw [va_up_ne _ _ e, va_up_ne _ _ e, k5 k e]
    obtain ⟨w1, w2, w3⟩ := hI.2.2.1 k hk
    have hzk : zS k ≤ 2000 := by
      obtain ⟨TF, c, h⟩ := w3
      have := h.1.2.2.1
      omega
    refine ⟨w1, fun y hy => ?_, w3⟩
    rw [k6 _ (by omega)]
    exact w2 y hy
theorem r_drop {scn fpl : Int} {zT : Nat} {bT : Nat → Int} {T : Nat → Nat → Int} {cnt d : Nat} {zS : Nat → Nat} {bS : Nat → Nat → Int} {S : MS} (hI : Inv scn fpl zT bT T cnt zS bS S) (hR : Rg bT bS S) (s x : Int) {dt : Int × (Nat → Nat → Int) × Nat × Nat} (hdt : dt = dTab scn s T cnt d zS bS) :
    (dDropOK s x dt.2.1 dt.2.2.1 (zS s.toNat) (bS s.toNat) ∧ ((mIsNode s x S).1 = true → 1 ≤ x → mKind ((mLoad s S).a 4 x.toNat) (mLoad s S) = 4 → mDrGood s ((mLoad s S).a 4 x.toNat) 1000 (mElsF (mLoad s S) ((mLoad s S).a 4 x.toNat) 1 x 0) (mDr0 s x (mLoad s S))))
    ∧ (x = 0 → (mDrop s x S).1 = false ∧ Inv scn fpl zT bT T cnt zS bS (mDrop s x S).2)
    ∧ (¬ x = 0 → dHas s x dt.2.2.1 = false → (mDrop s x S).1 = false ∧ Inv dt.1 fpl zT bT dt.2.1 dt.2.2.1 zS bS (mDrop s x S).2)
    ∧ (¬ x = 0 → dHas s x dt.2.2.1 = true → (mDrop s x S).1 = true ∧ ∀ T1 c1, Inv (-1) fpl zT bT T1 c1 (va_up zS s.toNat ((dDz dt.2.1 dt.2.2.1 x (zS s.toNat) (bS s.toNat)).1 - (dDl dt.2.1 dt.2.2.1 x).toNat)) (va_up bS s.toNat (dDropB dt.2.1 dt.2.2.1 x (zS s.toNat) (dDz dt.2.1 dt.2.2.1 x (zS s.toNat) (bS s.toNat)).1 (dDz dt.2.1 dt.2.2.1 x (zS s.toNat) (bS s.toNat)).2)) (mDrop s x S).2) := by
  have hI1 := (Inv_dTab (d := d) hI hR s).2
  rw [← hdt] at hI1
  by_cases hs : 0 ≤ s ∧ s < 8
  · obtain ⟨_, u2, TF, hC, ha⟩ := dTab_in (d := d) hI hR hs
    rw [← hdt] at u2 hC ha
    have hl := mLoad_in hI hR hs hC
    have nd := node_in (x := x) hs hl.2.1.1.1
    have hIl := Inv_same hI s
    have hI1l := Inv_same hI1 s
    have hlk := mLoad_k (s := s) (S := S)
    obtain ⟨zs1, zs2, _⟩ := hI.2.2.1 s.toNat (by omega)
    have hb : ∀ y, 0 ≤ bS s.toNat y ∧ bS s.toNat y < 256 := fun y => hR.2.1 s.toNat y (by omega)
    have hb5 := rg_255 hb
    have hc7 := PC_c hC
    dsimp only at hc7
    have hW2 : (mLoad s S).f 2 = zS s.toNat := by rw [hlk.2.2]; exact zs1.symm
    have hW6 : (mLoad s S).f 6 = 0 := by rw [hlk.2.1 6 (by decide)]; exact hI.2.1.2
    have hW13 : ∀ y, 0 ≤ (mLoad s S).a 13 y ∧ (mLoad s S).a 13 y ≤ 255 := fun y => by rw [hlk.1 13 (by decide)]; exact hR.2.2 13 y (by decide)
    have hW3r : ∀ y, 0 ≤ (mLoad s S).a 3 y ∧ (mLoad s S).a 3 y ≤ 255 := (pA_ld hI hR hs hl.2.1).2
    rw [nd.2]
    unfold mDrop
    rw [nd.1]
    by_cases e : 0 ≤ x ∧ x < dt.2.2.1
    · rw [decide_eq_true e, if_neg (show ¬ true = false by decide)]
      by_cases x0 : x = 0
      · rw [if_pos x0]
        refine ⟨⟨fun _ w => absurd x0 w, fun _ w => by omega⟩, fun _ => ⟨rfl, hIl⟩, fun w => absurd x0 w, fun w => absurd x0 w⟩
      · rw [if_neg x0]
        obtain ⟨xn, rfl⟩ : ∃ xn : Nat, x = xn := ⟨x.toNat, by omega⟩
        have et : ((xn : Int)).toNat = xn := by omega
        have x1 : 1 ≤ xn := by omega
        have hxn : xn < dt.2.2.1 := by omega
        rw [et]
        obtain ⟨m4, m8, m56, m0, m7⟩ := hl.2.1.2.1 xn hxn
        have hpx := (hC.2.1 xn x1 hxn).1.1.1
        dsimp only at hpx
        obtain ⟨r, hr⟩ : ∃ r : Nat, TF 1 xn = r := ⟨(TF 1 xn).toNat, by omega⟩
        have hrc : r < dt.2.2.1 := by omega
        have hri : (0 : Int) ≤ r ∧ (r : Int) < dt.2.2.1 := ⟨by omega, by omega⟩
        have hkr := lk_kind hC hl.2.1 hri
        rw [show ((r : Int)).toNat = r by omega] at hkr
        have cp := lk_c ha (co := 1) (by decide) e
        rw [et, hr] at cp
        have ckr := lk_c ha (co := 0) (by decide) hri
        rw [show ((r : Int)).toNat = r by omega] at ckr
        rw [m4, hr, hkr]
        obtain ⟨ce, f1, f2, f3, f4⟩ := nBeh_s ha hxn
        obtain ⟨ch, hch⟩ : ∃ ch, ch = TF 3 xn - 1 - tE TF xn := ⟨_, rfl⟩
        have hd0 := dr0_v hb5 hC hl.2.1 hW2 x1 hxn hr hch
        have eD0 : mDr0 s xn (mLoad s S) = mStore s (mSplice ((mLoad s S).a 5 xn) ((mLoad s S).a 7 xn - (mLoad s S).a 5 xn) ((mLoad s S).a 4 xn) ((mLoad s S).pf 7 0)) := by unfold mDr0; rw [et]
        rw [eD0]
        have hEn := PC_E hC xn hxn
        dsimp only at hEn
        have r3 := (hC.2.1 xn x1 hxn).1.2.2.1
        dsimp only at r3
        have hEE : tE TF xn = TF 4 xn + TF 5 xn := rfl
        have hcz := (cut_zUp hb5 hW13 (Cert_ln hC) x1 hxn hr f2 f3 f4 (fun _ => rfl) hch)
        have hUr := zUp_r (TF := TF) (ch := ch) 1000 r _ (h0_r hb5 hW13 (TF 3 xn - 1) (-ch) 0)
        have hS1r : ∀ y, 0 ≤ (mSplice ((mLoad s S).a 5 xn) ((mLoad s S).a 7 xn - (mLoad s S).a 5 xn) ((mLoad s S).a 4 xn) ((mLoad s S).pf 7 0)).a 3 y ∧ (mSplice ((mLoad s S).a 5 xn) ((mLoad s S).a 7 xn - (mLoad s S).a 5 xn) ((mLoad s S).a 4 xn) ((mLoad s S).pf 7 0)).a 3 y ≤ 255 := by
          intro y
          have key : ∀ (N : Nat) (ar : Int) (U : MS), (∀ y, 0 ≤ U.a 3 y ∧ U.a 3 y ≤ 255) → ∀ y, 0 ≤ (mUpN ((((mLoad s S).pf 7 0)).f 7 - ((mLoad s S).a 7 xn - (mLoad s S).a 5 xn)) N ar U).a 3 y ∧ (mUpN ((((mLoad s S).pf 7 0)).f 7 - ((mLoad s S).a 7 xn - (mLoad s S).a 5 xn)) N ar U).a 3 y ≤ 255 := by
            intro N
            induction N with
            | zero => intro ar U h; exact h
            | succ N ih =>
              intro ar U h
              unfold mUpN
              split
              · exact h
              · refine ih _ _ (fun y => ?_)
                have key2 : ∀ (M : Nat) (k : Int) (a v : Int) (V : MS), (∀ y, 0 ≤ V.a 3 y ∧ V.a 3 y ≤ 255) → ∀ y, 0 ≤ (mPlN a v M k V).a 3 y ∧ (mPlN a v M k V).a 3 y ≤ 255 := by
                  intro M
                  induction M with
                  | zero => intro k a v V h; exact h
                  | succ M ih2 =>
                    intro k a v V h
                    refine ih2 (k + 1) a v _ (fun y => ?_)
                    rw [st_eq]
                    split
                    · omega
                    · exact h y
                exact key2 4 0 _ _ _ h y
          unfold mSplice
          refine key _ _ _ (fun y => ?_) y
          unfold mSp1 mMv
          rw [cp_a]
          split
          · rw [pf_a, cp_a, if_neg (fun w => absurd w.1 (by decide))]; exact hW13 _
          · rw [pf_a, cp_a]
            split
            · exact hW3r _
            · exact hW3r _
        have hS13 : (mSplice ((mLoad s S).a 5 xn) ((mLoad s S).a 7 xn - (mLoad s S).a 5 xn) ((mLoad s S).a 4 xn) ((mLoad s S).pf 7 0)).a 13 = (mLoad s S).a 13 := hd0.2.1 13 (by decide)
        have hst := mStore_k (s := s) (S := mSplice ((mLoad s S).a 5 xn) ((mLoad s S).a 7 xn - (mLoad s S).a 5 xn) ((mLoad s S).a 4 xn) ((mLoad s S).pf 7 0)) hs
        generalize mSplice ((mLoad s S).a 5 xn) ((mLoad s S).a 7 xn - (mLoad s S).a 5 xn) ((mLoad s S).a 4 xn) ((mLoad s S).pf 7 0) = S1 at *
        obtain ⟨d1, d2, d3, d4⟩ := hd0
        by_cases h4 : TF 0 r = 4
        · have hrn := drop_rn hb hC ha (by omega) x1 hxn hr h4 f2 f3 f4
          obtain ⟨rg, z1, b1, q1, q2, q3, q4, q5, q6, q7⟩ := hrn
          have hBr : ∀ y, 0 ≤ bk (fun k => decide (TF 1 k = r)) (TF 3) (dLe TF) (fun k => cC TF r k - 1) ce (dt.2.2.1 - ce) (bS s.toNat) y ∧ bk (fun k => decide (TF 1 k = r)) (TF 3) (dLe TF) (fun k => cC TF r k - 1) ce (dt.2.2.1 - ce) (bS s.toNat) y ≤ 255 := by
            have key : ∀ (m : Nat) (f : Nat → Int), (∀ y, 0 ≤ f y ∧ f y ≤ 255) → ∀ y, 0 ≤ bk (fun k => decide (TF 1 k = r)) (TF 3) (dLe TF) (fun k => cC TF r k - 1) ce m f y ∧ bk (fun k => decide (TF 1 k = r)) (TF 3) (dLe TF) (fun k => cC TF r k - 1) ce m f y ≤ 255 := by
              intro m
              induction m with
              | zero => intro f h; exact h
              | succ m ih =>
                intro f h
                refine ih _ ?_
                split
                · exact h0_r h (fun y => by have := mDigit_r (cC TF r (ce + m) - 1) y; show 0 ≤ mDigit (cC TF r (ce + m) - 1) y ∧ mDigit (cC TF r (ce + m) - 1) y ≤ 255; omega) _ _ _
                · exact h
            exact key _ _ hb5
          have hax := after_x hb5 hC hxn f2 f3 f4
          have hfin := drop_fin (e := (mLoad s S).a 13) (B := bk (fun k => decide (TF 1 k = r)) (TF 3) (dLe TF) (fun k => cC TF r k - 1) ce (dt.2.2.1 - ce) (bS s.toNat)) hb5 hW13 hC ha x1 hxn hr hch q5 q6 q4 q3 hBr (fun y hy => bk_low _ _ (fun i hi w => by have := hax (ce + i) (by omega) (by omega); omega)) q7
          obtain ⟨⟨g1, g2⟩, g3, g4, g5, g6⟩ := hfin
          have edz : dDz dt.2.1 dt.2.2.1 xn (zS s.toNat) (bS s.toNat) = (z1, b1) := by
            unfold dDz
            rw [cp, ckr, if_pos h4, q1]
          obtain ⟨Tc, hDS⟩ := ds_start (e := (mLoad s S).a 13) (f0 := S1.a 3) hb5 hW13 hS1r hC x1 hxn hr h4 f2 f3 f4 hch d1
          have hnu := nu_eq (r := r) hC hl.2.1 x1 hxn
          have ef2 : (mStore s S1).f 2 = zS s.toNat + ch := by rw [hst.2.1]; exact d4
          have hloop := dr_loop (s := s) hs (show (0 : Int) ≤ TF 3 xn - 1 by omega) (show dt.2.2.1 + 0 - (ce - xn) ≤ 998 by omega) 1000 (cC TF r xn) (mStore s S1) Tc (by rw [hst.1 3 (by decide) (by decide)]; exact hS1r) (fun y => by rw [hst.1 13 (by decide) (by decide), hS13]; exact hW13 y) (by rw [hst.2.1, d3 6 (by decide) (by decide)]; exact hW6) ⟨by rw [hst.2.2.1, if_pos rfl, hst.2.1], fun y hy => by
            rw [ef2] at hy
            rw [hst.2.2.2, d4, if_pos (by omega), hst.1 3 (by decide) (by decide)]
            congr 1
            omega⟩ (by
            have h1 := cC_r TF r xn
            have h2 := hDS.1.1
            dsimp only at h2
            have hle : cC TF r xn ≤ (dt.2.2.1 + 0 - (ce - xn) : Nat) := by omega
            omega) (by have h1 := cC_r TF r xn; omega) (by rw [hst.1 3 (by decide) (by decide), ef2]; exact hDS)
          obtain ⟨l1, l2, l3, l4, l5, ⟨Tq, l6⟩, l7, l8⟩ := hloop
          rw [hnu]
          refine ⟨⟨fun _ _ => ⟨by rw [cp]; omega, fun _ => by rw [cp]; exact rg, ?_⟩, fun _ _ _ => l1⟩, fun w => absurd w x0, fun _ w => (by cases w), fun _ _ => ?_⟩
          · rw [edz, g1, g2]
            dsimp only
            omega
          · rw [if_neg (fun w => w h4), edz, g2]
            dsimp only
            refine ⟨rfl, ?_⟩
            have hkeep : dKeep s (mLoad s S) (mDrN s r 1000 (cC TF r xn) (mStore s S1)) := by
              obtain ⟨k1, k2, k3, k4, k5, k6⟩ := l4
              refine ⟨?_, ?_, ?_, k4, fun k hk => ?_, fun y hy => ?_⟩
              · rw [k1, hst.1 0 (by decide) (by decide), d2 0 (by decide)]
              · rw [k2, hst.2.1, d3 0 (by decide) (by decide)]
              · rw [k3, hst.2.1, d3 1 (by decide) (by decide)]
              · rw [k5 k hk, hst.2.2.1, if_neg hk, d2 1 (by decide)]
              · have hzle := hC.1.2.2.1
                rw [k6 y hy, hst.2.2.2, d4, if_neg (by omega), d2 2 (by decide)]
            have hnFe : ((z1 - (-ch).toNat : Nat) : Int) = zS s.toNat + ch + bz (fun k => decide (TF 1 k = r)) (dLe TF) (fun k => cC TF r k - 1) ce (dt.2.2.1 - ce) := by omega
            have hUq := zUp_r (TF := TF) (ch := z1 + ch - zS s.toNat) 1000 r _ (h0_r hBr hW13 (TF 3 xn - 1) (-ch) 0)
            have heq : ∀ y : Nat, y < z1 - (-ch).toNat → dDropB dt.2.1 dt.2.2.1 xn (zS s.toNat) z1 b1 y = (mDrN s r 1000 (cC TF r xn) (mStore s S1)).a 3 y := by
              intro y hy
              rw [g4 y (by omega)]
              by_cases hf : Fl TF r y
              · obtain ⟨p, p1, p2, p3, p4⟩ := hf
                have hp := (anc_ahead hb5 hC x1 hxn hr p p1 p2).2.1
                refine low_inj hUq l2 (a := TF 4 p) ?_ hp y p3 p4
                rw [g6 p p1 p2, l8 p p1 p2]
                omega
              · rw [g5 y hf, l7 y hf (by omega)]
            obtain ⟨T3, w3, _⟩ := Cert_ext (h := dDropB dt.2.1 dt.2.2.1 xn (zS s.toNat) z1 b1) l2 (rg_255 g3) l6 (fun y hy => heq y (by omega))
            exact Inv_keep hIl hs hkeep l3 (by rw [l5, hnFe]) heq ⟨T3, _, by rw [hnFe]; exact w3⟩
        · have hfin := drop_fin (e := (mLoad s S).a 13) (B := bS s.toNat) (b1 := bS s.toNat) (z1 := zS s.toNat) hb5 hW13 hC ha x1 hxn hr hch (by omega) (Int.le_refl _) hb (fun y _ => rfl) hb5 (fun y _ => rfl) (fun p p1 p2 => by have := (anc_ahead hb5 hC x1 hxn hr p p1 p2).2.2.2.2.1; omega)
          obtain ⟨⟨g1, g2⟩, g3, g4, g5, g6⟩ := hfin
          have edz : dDz dt.2.1 dt.2.2.1 xn (zS s.toNat) (bS s.toNat) = (zS s.toNat, bS s.toNat) := by
            unfold dDz
            rw [cp, ckr, if_neg h4]
          rw [show (zS s.toNat : Int) + ch - zS s.toNat = ch by omega] at g4
          obtain ⟨_, _, T1, w1, _⟩ := cut_zUp (e := (mLoad s S).a 13) hb5 hW13 hC x1 hxn hr f2 f3 f4 (fun w => absurd w h4) hch
          have hnFe : ((zS s.toNat - (-ch).toNat : Nat) : Int) = zS s.toNat + ch := by omega
          obtain ⟨T3, w3, _⟩ := Cert_ext (h := dDropB dt.2.1 dt.2.2.1 xn (zS s.toNat) (zS s.toNat) (bS s.toNat)) hUr (rg_255 g3) w1 (fun y hy => g4 y (by omega))
          refine ⟨⟨fun _ _ => ⟨by rw [cp]; omega, fun w => (by rw [cp, ckr] at w; exact absurd w h4), ?_⟩, fun _ _ w => absurd w h4⟩, fun w => absurd w x0, fun _ w => (by cases w), fun _ _ => ?_⟩
          · rw [edz, g1, g2]
            dsimp only
            omega
          · rw [if_pos h4, edz, g2]
            dsimp only
            refine ⟨rfl, fun T1 c1 => ?_⟩
            refine Inv_store (S := mLoad s S) hIl hs (by rw [d3 0 (by decide) (by decide)]; exact hIl.1.1) hIl.1.2.1 (fun y hy => by rw [d2 0 (by decide)]; exact hIl.1.2.2 y hy) (by rw [d3 1 (by decide) (by decide)]; exact hIl.2.1.1) (by rw [d3 6 (by decide) (by decide)]; exact hW6) (d2 1 (by decide)) (d2 2 (by decide)) (by rw [d4, hnFe]) (fun y hy => ?_) ⟨T3, _, by rw [hnFe]; exact w3⟩
            rw [g4 y (by omega), d1 y (by omega)]
    · rw [decide_eq_false e, if_pos rfl]
      refine ⟨⟨fun w => (by rw [nd.2, decide_eq_false e] at w; cases w), fun w => by cases w⟩, fun w => ⟨rfl, hIl⟩, fun _ _ => ⟨rfl, hI1l⟩, fun _ w => by cases w⟩
  · have n1 := node_out (x := x) (S := S) (c := dt.2.2.1) hs
    unfold mDrop
    rw [n1.1, if_pos rfl, n1.2]
    refine ⟨⟨fun w => (by rw [n1.2] at w; cases w), fun w => by cases w⟩, fun _ => ⟨rfl, hI⟩, fun _ _ => ⟨rfl, hI1⟩, fun _ w => by cases w⟩
