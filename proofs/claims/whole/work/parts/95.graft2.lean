/-! PURE 36: graft, as called -/
theorem Rg_load {bT : Nat → Int} {bS : Nat → Nat → Int} {S : MS} (hR : Rg bT bS S) (s : Int) : Rg bT bS (mLoad s S) := by
  refine ⟨hR.1, hR.2.1, fun k x hk => ?_⟩
  have hlk := mLoad_k (s := s) (S := S)
  by_cases e : k = 3
  · subst e
    have e3 : (mLoad s S).a 3 = (mLoad0 s S).a 3 := (mFr_over (S := mLoad0 s S) (S.a 1 s.toNat)).1 3 (by decide)
    rw [e3, mLoad0_k.2.2.2]
    split
    · exact hR.2.2 2 _ (by decide)
    · exact hR.2.2 3 _ (by decide)
  · rw [hlk.1 k (by omega)]
    exact hR.2.2 k x hk
theorem Inv_same {scn fpl : Int} {zT : Nat} {bT : Nat → Int} {T : Nat → Nat → Int} {cnt : Nat} {zS : Nat → Nat} {bS : Nat → Nat → Int} {S : MS} (hI : Inv scn fpl zT bT T cnt zS bS S) (s : Int) : Inv scn fpl zT bT T cnt zS bS (mLoad s S) := Inv_load hI s hI.2.2.2.1 hI.2.2.2.2
/-- what graft's contract asks of the reference -/
theorem graft_pre {scn fpl : Int} {zT : Nat} {bT : Nat → Int} {T : Nat → Nat → Int} {cnt : Nat} {zS : Nat → Nat} {bS : Nat → Nat → Int} {S : MS} (hI : Inv scn fpl zT bT T cnt zS bS S) (hR : Rg bT bS S) (s t : Int) :
    mSzs (mLoad s S) ∧ (mSlot s = true → mLdOK t (mLoad s S)) ∧ (mSlot s = true → mSlot t = true → mSzs (mLoad t (mLoad s S))) ∧ (mSlot s = true → mSlot t = true → mLdOK s (mLoad t (mLoad s S))) ∧ (mSlot s = true → mSlot t = true → (mLoad s (mLoad t (mLoad s S))).f 3 = (mLoad s S).f 3) ∧ (mSlot s = true → mSlot t = true → mEn (mLoad t (mLoad s S))) ∧ (mSlot s = true → mSlot t = true → mEn (mLoad s (mLoad t (mLoad s S)))) := by
  have h1 := Inv_same hI s
  have r1 := Rg_load hR s
  have h2 := Inv_same h1 t
  have r2 := Rg_load r1 t
  refine ⟨Inv_szs h1, fun _ => (Inv_ldOK h1 r1 t).1, fun _ _ => Inv_szs h2, fun _ _ => (Inv_ldOK h2 r2 s).1, fun w _ => ?_, fun _ w => (Inv_ldOK h1 r1 t).2 w, fun w _ => (Inv_ldOK h2 r2 s).2 w⟩
  have hs := mSlot_iff.mp w
  obtain ⟨_, _, TF, c, hC⟩ := hI.2.2.1 s.toNat (by omega)
  rw [(mLoad_in hI hR hs hC).2.1.1.1, (mLoad_in h2 r2 hs hC).2.1.1.1]
theorem dGr_in {scn fpl : Int} {zT : Nat} {bT : Nat → Int} {T : Nat → Nat → Int} {cnt d : Nat} {zS : Nat → Nat} {bS : Nat → Nat → Int} {S : MS} (hI : Inv scn fpl zT bT T cnt zS bS S) (hR : Rg bT bS S) (t y : Int) : dGrOK t y (dTab scn t T cnt d zS bS).2.1 (dTab scn t T cnt d zS bS).2.2.1 (zS t.toNat) := by
  intro w
  have q := dHas_iff.mp w
  obtain ⟨q1, q2, TF, hC, ha⟩ := dTab_in (d := d) hI hR q.1
  have hl := mLoad_in hI hR q.1 hC
  have hlev := lev_eq (rg_255 (fun x => hR.2.1 t.toNat x (by omega))) hC ha hl.2.1 (y := y.toNat) (by omega)
  rw [show ((y.toNat : Nat) : Int) = y by omega] at hlev
  rw [lk_c ha (by decide) q.2, lk_c ha (by decide) q.2]
  have hE := PC_E hC y.toNat (by dsimp only; omega)
  dsimp only at hE
  have hEE : tE TF y.toNat = TF 4 y.toNat + TF 5 y.toNat := rfl
  exact ⟨⟨hE.2.1, hE.2.2.1, by omega⟩, by omega⟩
theorem r_graft {scn fpl : Int} {zT : Nat} {bT : Nat → Int} {T : Nat → Nat → Int} {cnt d : Nat} {zS : Nat → Nat} {bS : Nat → Nat → Int} {S : MS} (hI : Inv scn fpl zT bT T cnt zS bS S) (hR : Rg bT bS S) (s x t y n : Int) {bF : Nat → Int} (hF : ∀ x, 0 ≤ bF x ∧ bF x < 256) {dt du : Int × (Nat → Nat → Int) × Nat × Nat} (hdt : dt = dTab scn t T cnt d zS bS) (hdu : du = dTab dt.1 s dt.2.1 dt.2.2.1 dt.2.2.2 zS bS) :
    (bHas zT n 0 = false → mGraft s x t y n S = (-1, S))
    ∧ (bHas zT n 0 = true → dHas t y dt.2.2.1 = false → (mGraft s x t y n S).1 = -1 ∧ Inv dt.1 fpl zT bT dt.2.1 dt.2.2.1 zS bS (mGraft s x t y n S).2)
    ∧ (bHas zT n 0 = true → dHas t y dt.2.2.1 = true → dMay s x du.2.1 du.2.2.1 = false → (mGraft s x t y n S).1 = -1 ∧ Inv du.1 fpl zT bT du.2.1 du.2.2.1 zS bS (mGraft s x t y n S).2)
    ∧ (bHas zT n 0 = true → dHas t y dt.2.2.1 = true → dMay s x du.2.1 du.2.2.1 = true → dGrA du.2.1 du.2.2.1 (bS s.toNat) (zS s.toNat) bT zT (0 + (nCell dt.2.1 dt.2.2.1 5 y).toNat) x n (nLevels dt.2.1 dt.2.2.1 y) = (mGraft s x t y n S).1
      ∧ (dGrA du.2.1 du.2.2.1 (bS s.toNat) (zS s.toNat) bT zT (0 + (nCell dt.2.1 dt.2.2.1 5 y).toNat) x n (nLevels dt.2.1 dt.2.2.1 y) < 0 → Inv du.1 fpl 0 bT du.2.1 du.2.2.1 zS bS (mGraft s x t y n S).2)
      ∧ (0 ≤ dGrA du.2.1 du.2.2.1 (bS s.toNat) (zS s.toNat) bT zT (0 + (nCell dt.2.1 dt.2.2.1 5 y).toNat) x n (nLevels dt.2.1 dt.2.2.1 y) → ∀ T1 c1, Inv (-1) fpl 0 bT T1 c1 (va_up zS s.toNat (dInsZ du.2.1 du.2.2.1 (zS s.toNat) (0 + (nCell dt.2.1 dt.2.2.1 5 y).toNat) x n)) (va_up bS s.toNat (dInsB du.2.1 du.2.2.1 (bS s.toNat) (zS s.toNat) bT (bApp bF 0 (bS t.toNat) (nCell dt.2.1 dt.2.2.1 4 y) (nCell dt.2.1 dt.2.2.1 5 y)) (0 + (nCell dt.2.1 dt.2.2.1 5 y).toNat) x (nCell dt.2.1 dt.2.2.1 0 y) n)) (mGraft s x t y n S).2)) := by
  have hI1 := (Inv_dTab (d := d) hI hR t).2
  rw [← hdt] at hI1
  have hI2 := (Inv_dTab (d := dt.2.2.2) hI1 hR s).2
  rw [← hdu] at hI2
  have hz0 := hI.1.1
  have hz2 := hI.1.2.1
  by_cases hb : bHas zT n 0 = true
  · have hn := bHas_iff.mp hb
    refine ⟨fun w => (by rw [hb] at w; cases w), ?_⟩
    have eG : mGraft s x t y n S = if (mIsNode s x S).1 = false then (-1, (mIsNode s x S).2) else if mBox x (mLoad s S) = false then (-1, mLoad s S) else if (mIsNode t y (mLoad s S)).1 = false then (-1, (mIsNode t y (mLoad s S)).2)
        else mGr2 s x t (mKind y (mLoad t (mLoad s S))) (mGrDeep y (mLoad t (mLoad s S))) (mVal y (mLoad t (mLoad s S))) ((mLoad t (mLoad s S)).a 7 y.toNat - mVal y (mLoad t (mLoad s S))) n (mLoad s (mLoad t (mLoad s S))) := by unfold mGraft; rw [if_neg (show ¬ (n < 0 ∨ S.f 0 < n) by omega)]
    by_cases hs : 0 ≤ s ∧ s < 8
    · obtain ⟨_, u2, TF, hC, ha⟩ := dTab_in (d := dt.2.2.2) hI1 hR hs
      rw [← hdu] at u2 hC ha
      have hl := mLoad_in hI hR hs hC
      have nd := node_in (x := x) hs hl.2.1.1.1
      rw [nd.1] at eG
      dsimp only at eG
      have hbox : mBox x (mLoad s S) = true ↔ (mKind x (mLoad s S) = 3 ∨ mKind x (mLoad s S) = 4) := by unfold mBox; exact decide_eq_true_iff
      unfold dMay
      rw [nd.2]
      by_cases e : 0 ≤ x ∧ x < du.2.2.1
      · rw [decide_eq_true e, if_neg (show ¬ true = false by decide)] at eG
        rw [decide_eq_true e, Bool.true_and, lk_c ha (by decide) e]
        rw [lk_kind hC hl.2.1 e] at hbox
        cases hkx : kHold (TF 0 x.toNat)
        · have hb0 : mBox x (mLoad s S) = false := by
            cases h : mBox x (mLoad s S)
            · rfl
            · exact absurd (hbox.mp h) (kHold_ff.mp hkx)
          rw [hb0, if_pos rfl] at eG
          rw [eG]
          exact ⟨fun _ _ => ⟨rfl, Inv_same hI1 s⟩, fun _ _ _ => ⟨rfl, Inv_same hI2 s⟩, fun _ _ w => by cases w⟩
        · have hb1 : mBox x (mLoad s S) = true := hbox.mpr (kHold_iff.mp hkx)
          rw [hb1, if_neg (show ¬ true = false by decide)] at eG
          by_cases ht : 0 ≤ t ∧ t < 8
          · obtain ⟨_, t2, TS, hCt, hat⟩ := dTab_in (d := d) hI hR ht
            rw [← hdt] at t2 hCt hat
            have hIs := Inv_same hI s
            have hRs := Rg_load hR s
            have hlt := mLoad_in hIs hRs ht hCt
            have ndt := node_in (x := y) ht hlt.2.1.1.1
            rw [ndt.1] at eG
            dsimp only at eG
            rw [ndt.2]
            by_cases ey : 0 ≤ y ∧ y < dt.2.2.1
            · rw [decide_eq_true ey, if_neg (show ¬ true = false by decide)] at eG
              refine ⟨fun _ w => (by rw [decide_eq_true ey] at w; cases w), fun _ _ w => (by cases w), fun _ _ _ => ?_⟩
              rw [eG]
              have hIt := Inv_same hIs t
              have hRt := Rg_load hRs t
              have hl3 := mLoad_in hIt hRt hs hC
              have hA := (pA_ld hIt hRt hs hl3.2.1).1
              have hlk3 := mLoad_k (s := s) (S := mLoad t (mLoad s S))
              have hlk2 := mLoad_k (s := t) (S := mLoad s S)
              have hlk1 := mLoad_k (s := s) (S := S)
              have k0 : ∀ q, q = 0 ∨ q = 1 ∨ q = 2 ∨ q = 13 → (mLoad s (mLoad t (mLoad s S))).a q = S.a q := fun q hq => (hlk3.1 q hq).trans ((hlk2.1 q hq).trans (hlk1.1 q hq))
              have hT : pA bT zT zT ((mLoad s (mLoad t (mLoad s S))).a 0) := by rw [k0 0 (by decide)]; exact pA_tape hI hR
              have hlev := lev_eq (rg_255 (fun x => hR.2.1 t.toNat x (by omega))) hCt hat hlt.2.1 (y := y.toNat) (by omega)
              have hyy : ((y.toNat : Nat) : Int) = y := by omega
              rw [hyy] at hlev
              have ek := lk_kind hCt hlt.2.1 ey
              have ev := lk_val hCt hlt.2.1 ey
              have e7 := (hlt.2.1.2.1 y.toNat (by omega)).2.2.2.2
              have hEy := PC_E hCt y.toNat (by dsimp only; omega)
              dsimp only at hEy
              have hEE : tE TS y.toNat = TS 4 y.toNat + TS 5 y.toNat := rfl
              rw [← hlev.1, ek, ev, e7, show tE TS y.toNat - TS 4 y.toNat = TS 5 y.toNat by omega, lk_c hat (by decide) ey, lk_c hat (by decide) ey, lk_c hat (by decide) ey]
              obtain ⟨zt1, zt2, _⟩ := hI.2.2.1 t.toNat (by omega)
              obtain ⟨zs1, zs2, _⟩ := hI.2.2.1 s.toNat (by omega)
              have hI3 : Inv du.1 fpl zT bT du.2.1 du.2.2.1 zS bS (mLoad s (mLoad t (mLoad s S))) := Inv_same (Inv_same (Inv_same hI2 s) t) s
              have hW2 : (mLoad s (mLoad t (mLoad s S))).f 2 = zS s.toNat := by rw [hlk3.2.2, hlk2.1 1 (by decide), hlk1.1 1 (by decide)]; exact zs1.symm
              have m8 := (hl3.2.1.2.1 x.toNat (by omega)).2.1
              have hd16 := (PC_E hC x.toNat (by dsimp only; omega)).2.2.2
              dsimp only at hd16
              generalize hW : mLoad s (mLoad t (mLoad s S)) = W at *
              generalize hlv : nLevels dt.2.1 dt.2.2.1 y = lv at *
              have hfvb : ∀ j : Int, 0 ≤ j → j < TS 5 y.toNat → bApp bF 0 (bS t.toNat) (TS 4 y.toNat) (TS 5 y.toNat) j.toNat = bS t.toNat (TS 4 y.toNat + j).toNat := by
                intro j j1 j2
                rw [bApp_v, if_pos (by omega)]
                congr 1
                omega
              have hvo := vOK_row (bf := bApp bF 0 (bS t.toNat) (TS 4 y.toNat) (TS 5 y.toNat)) hCt (y := y.toNat) (by omega) hfvb
              have hfr6 : ∀ z, 0 ≤ bApp bF 0 (bS t.toNat) (TS 4 y.toNat) (TS 5 y.toNat) z ∧ bApp bF 0 (bS t.toNat) (TS 4 y.toNat) (TS 5 y.toNat) z < 256 := by
                intro z
                rw [bApp_v]
                split
                · exact hR.2.1 t.toNat _ (by omega)
                · exact hF z
              generalize bApp bF 0 (bS t.toNat) (TS 4 y.toNat) (TS 5 y.toNat) = bf at *
              have ezF : ((0 + (TS 5 y.toNat).toNat : Nat) : Int) = TS 5 y.toNat := by omega
              generalize hzF : 0 + (TS 5 y.toNat).toNat = zF at *
              unfold mGr2 mGrWhy dGrA dFits
              rw [lk_kind hC hl3.2.1 e, lk_c ha (by decide) e, m8]
              by_cases cfit : TF 0 x.toNat = 4 ∧ 0 < n
              · rw [if_pos cfit, decide_eq_false (show ¬ (n = 0 ∨ ¬ TF 0 x.toNat = 4) by omega), if_pos rfl, if_pos (by decide)]
                exact ⟨rfl, fun _ => Inv_tape0 hI3, fun w => absurd w (by decide)⟩
              · rw [if_neg cfit, decide_eq_true (show n = 0 ∨ ¬ TF 0 x.toNat = 4 by omega), if_neg (show ¬ true = false by decide)]
                have hfr : (¬ nCell du.2.1 du.2.2.1 0 x = 4 ∧ dFree du.2.1 du.2.2.1 (bS s.toNat) (zS s.toNat) bT zT x n = false) ↔ mFree x n W = false := by
                  rw [lk_c ha (by decide) e]
                  by_cases e4 : TF 0 x.toNat = 4
                  · have : mFree x n W = true := by unfold mFree; rw [lk_kind hC hl3.2.1 e, if_pos e4]
                    rw [this]
                    exact ⟨fun w => absurd e4 w.1, fun w => by cases w⟩
                  · rw [free_eq hC ha hl3.2.1 hA hT e ⟨hn.1, by omega⟩ e4]
                    exact ⟨fun w => w.2, fun w => ⟨e4, w⟩⟩
                unfold dInsA
                by_cases cf : mFree x n W = false
                · rw [if_pos cf, if_pos (hfr.mpr cf), if_pos (by decide)]
                  exact ⟨rfl, fun _ => Inv_tape0 hI3, fun w => absurd w (by decide)⟩
                · rw [if_neg cf, if_neg (fun w => cf (hfr.mp w)), lk_c ha (by decide) e]
                  by_cases cd : 0 < lv ∧ 16 < TF 2 x.toNat + lv
                  · rw [if_pos cd, if_pos cd.2, if_pos (by decide)]
                    exact ⟨rfl, fun _ => Inv_tape0 hI3, fun w => absurd w (by decide)⟩
                  · rw [if_neg cd, if_neg (show ¬ 16 < TF 2 x.toNat + lv by omega), if_neg (show ¬ (0 : Int) < 0 by decide)]
                    have hHv := mHead_v (x := x) (k := TS 0 y.toNat) (n := n) (S := W) (by omega)
                    have hdn := dNl_eq (n := n) hC ha hl3.2.1 e
                    have hnl0 : 0 ≤ dNl du.2.1 du.2.2.1 x n := by
                      unfold dNl
                      have := bDigits_r (nCell du.2.1 du.2.2.1 6 x)
                      split <;> omega
                    rw [hdn.1] at hHv
                    obtain ⟨hh1, hh2, hh3, hh4, hh5⟩ := hHv
                    have hkk := of_decide_eq_true hvo.2
                    have hr0 : ∀ z, 0 ≤ W.a 0 z ∧ W.a 0 z ≤ 255 := fun z => by rw [k0 0 (by decide)]; exact hR.2.2 0 z (by decide)
                    have hr2 : ∀ z, 0 ≤ W.a 2 z ∧ W.a 2 z ≤ 255 := fun z => by rw [k0 2 (by decide)]; exact hR.2.2 2 z (by decide)
                    have hr13H : r13 (mHead x (TS 0 y.toNat) n W) := r13_head (by omega) hr0 (fun z => by rw [k0 13 (by decide)]; exact hR.2.2 13 z (by decide))
                    have hH2 : (mHead x (TS 0 y.toNat) n W).a 2 = W.a 2 := hh1.1 2 (by decide)
                    have g1 := mWc_k (ks := 2) (o := 2000 * t + TS 4 y.toNat) (n := TS 5 y.toNat) (S := mHead x (TS 0 y.toNat) n W) hEy.2.2.1
                    have gv := mWcN_v (ks := 2) (by decide) (o := 2000 * t + TS 4 y.toNat) (TS 5 y.toNat - 0).toNat 0 (mHead x (TS 0 y.toNat) n W) (by omega) (by omega)
                    have hr13 : r13 (mWc 2 (2000 * t + TS 4 y.toNat) (TS 5 y.toNat) (mHead x (TS 0 y.toNat) n W)) := r13_wc (by decide) _ _ _ (by rw [hH2]; exact hr2) hr13H
                    have eU : mWc 2 (2000 * t + TS 4 y.toNat) (TS 5 y.toNat) (mHead x (TS 0 y.toNat) n W) = mWcN 2 (2000 * t + TS 4 y.toNat) (TS 5 y.toNat - 0).toNat 0 (mHead x (TS 0 y.toNat) n W) := rfl
                    rw [← eU] at gv
                    generalize mWc 2 (2000 * t + TS 4 y.toNat) (TS 5 y.toNat) (mHead x (TS 0 y.toNat) n W) = U at *
                    have hkpU : mKp W U := mKp_t hh1 g1.1
                    have hU2 : U.f 2 = zS s.toNat := by rw [hkpU.2 2 (by decide)]; exact hW2
                    have hU7 : U.f 7 = 2 + dNl du.2.1 du.2.2.1 x n + zF := by rw [g1.2, hh2]; omega
                    unfold mIns
                    rw [hU2, hU7]
                    by_cases cz : 2000 < (zS s.toNat : Int) + (2 + dNl du.2.1 du.2.2.1 x n + zF)
                    · rw [if_pos cz, if_pos (by omega)]
                      exact ⟨rfl, fun _ => Inv_tape0 (Inv_kp hI3 hkpU), fun w => absurd w (by decide)⟩
                    · rw [if_neg cz, if_neg (show ¬ 2000 < (zS s.toNat : Int) + (2 + dNl du.2.1 du.2.2.1 x n + (zF : Int)) by omega)]
                      have hUv : ∀ j : Int, 0 ≤ j → j < zF → U.a 13 (2 + dNl du.2.1 du.2.2.1 x n + j).toNat = bf j.toNat := by
                        intro j j1 j2
                        rw [gv, hh2, if_pos (by omega), hH2, k0 2 (by decide), hfvb j j1 (by omega), zt2 _ (by omega)]
                        congr 1
                        omega
                      have hnew := new_right (U := U) (bF := bf) (zF := zF) (k := TS 0 y.toNat) (rg_255 (fun z => hR.2.1 s.toNat z (by omega))) hr13 hC ha hl3.2.1 hA hT e hkx ⟨hn.1, by omega, by omega⟩ (zee cf) hvo.2 (fun i hi => by rw [hdn.1] at hi; rw [gv, hh2, if_neg (by omega)]) (fun j j1 j2 => by rw [hdn.1]; exact hUv j j1 j2) (by rw [ezF]; exact hvo.1) (by omega) (fun w => by
                        have := (hlev.2.2.2 w).1
                        omega)
                      obtain ⟨fi, f1, f2, f3, f4⟩ := nBeh_s ha (x := x.toNat) (by omega)
                      have hxx : ((x.toNat : Nat) : Int) = x := by omega
                      rw [hxx] at f1
                      have hcert : ∃ T1 c1, Cert (zUp TF (dNl du.2.1 du.2.2.1 x n + 2 + zF) 1000 x (h0 (bS s.toNat) (tE TF x.toNat - 1) 0 (U.a 13) (dNl du.2.1 du.2.2.1 x n + 2 + zF))) false (zS s.toNat + (dNl du.2.1 du.2.2.1 x n + 2 + zF)) T1 c1 := by
                        have hE := PC_E hC x.toNat (by dsimp only; omega)
                        dsimp only at hE
                        have hEE2 : tE TF x.toNat = TF 4 x.toNat + TF 5 x.toNat := rfl
                        have hx5 := (Cert_zw hC).2.2.1 x.toNat (by omega) hkx
                        cases hkd : kHold (TS 0 y.toNat)
                        · obtain ⟨T1, w⟩ := hnew.2 fi 1 (nApp TF fi (TS 0 y.toNat) x.toNat (tE TF x.toNat) (tE TF x.toNat - 1 + dNl du.2.1 du.2.2.1 x n + 2) zF) f1 (by rw [nA_1]; exact hxx) (fun k1 a b => by omega) (by decide) (fun h _ _ => run_leaf (by omega) hkd)
                          exact ⟨T1, _, w⟩
                        · obtain ⟨ce, c1, c2, c3, c4⟩ := nBeh_s hat (x := y.toNat) (by omega)
                          have hl2 := (hlev.2.2.2 hkd).2 ce (by rw [← hyy]; exact c1)
                          obtain ⟨T1, w⟩ := hnew.2 fi (ce - y.toNat) (gRow (nApp TF fi (TS 0 y.toNat) x.toNat (tE TF x.toNat) (tE TF x.toNat - 1 + dNl du.2.1 du.2.2.1 x n + 2) zF) TS y.toNat fi (tE TF x.toNat - 1 + dNl du.2.1 du.2.2.1 x n + 2 - TS 4 y.toNat) (TF 2 x.toNat + 1 - TS 2 y.toNat)) f1 (by unfold gRow; rw [if_pos rfl, nA_1]; exact hxx) (fun k1 a b => by
                            unfold gRow
                            rw [if_neg (by omega), if_pos rfl]
                            have r := (hCt.2.1 (k1 - fi + y.toNat) (by omega) (by dsimp only; omega)).1.1.1
                            dsimp only at r
                            have := c3 (k1 - fi + y.toNat) (by omega) (by omega)
                            omega) (by omega) (fun h hh hel => run_graft (ln := false) (TF := TF) (rg_255 (fun z => hR.2.1 t.toNat z (by omega))) hh hCt (by omega) (by omega) (by omega) hkd rfl c2 c3 c4 (by omega) ezF rfl (fun z z1 z2 => by
                              have := hel (dNl du.2.1 du.2.2.1 x n + 2 + (z - TS 4 y.toNat)) (by omega) (by omega)
                              rw [show dNl du.2.1 du.2.2.1 x n + 2 + (z - TS 4 y.toNat) + (tE TF x.toNat - 1) = z + (tE TF x.toNat - 1 + dNl du.2.1 du.2.2.1 x n + 2 - TS 4 y.toNat) by omega, show dNl du.2.1 du.2.2.1 x n + 2 + (z - TS 4 y.toNat) = 2 + dNl du.2.1 du.2.2.1 x n + (z - TS 4 y.toNat) by omega, hUv _ (by omega) (by omega), hfvb _ (by omega) (by omega), show TS 4 y.toNat + (z - TS 4 y.toNat) = z by omega] at this
                              exact this) (fun q q1 q2 => by
                              have := hl2 q (by omega) q2
                              omega))
                          exact ⟨T1, _, w⟩
                      obtain ⟨p1, p2, p3, p4, p5⟩ := hnew.1
                      have hboth := ins_both (U := U) (k := TS 0 y.toNat) (Inv_kp hI3 hkpU) (fun z => hR.2.1 s.toNat z (by omega)) hR.1 hr13 hs hC ha (mLd_kp hl3.2.1 hkpU) hU2 (bF := bf) (zF := zF) (n := n) hfr6 e hkx (by rw [hU7]; omega) hn.1 (by omega) p1 p2 p3 p4 p5 hcert
                      refine ⟨hboth.1, fun w => ?_, fun _ => hboth.2⟩
                      have := nBeh_r du.2.1 du.2.2.1 x
                      omega
            · rw [decide_eq_false ey, if_pos rfl] at eG
              rw [eG]
              refine ⟨fun _ _ => ⟨rfl, Inv_same (Inv_same hI1 s) t⟩, fun _ w => (by rw [decide_eq_false ey] at w; cases w), fun _ w => (by rw [decide_eq_false ey] at w; cases w)⟩
          · have n1 := node_out (x := y) (S := mLoad s S) (c := dt.2.2.1) ht
            rw [n1.1, if_pos rfl] at eG
            rw [eG, n1.2]
            exact ⟨fun _ _ => ⟨rfl, Inv_same hI1 s⟩, fun _ w => (by cases w), fun _ w => (by cases w)⟩
      · rw [decide_eq_false e, if_pos rfl] at eG
        rw [eG, decide_eq_false e, Bool.false_and]
        exact ⟨fun _ _ => ⟨rfl, Inv_same hI1 s⟩, fun _ _ _ => ⟨rfl, Inv_same hI2 s⟩, fun _ _ w => by cases w⟩
    · have n1 := node_out (x := x) (S := S) (c := du.2.2.1) hs
      rw [n1.1, if_pos rfl] at eG
      unfold dMay
      rw [eG, n1.2, Bool.false_and]
      exact ⟨fun _ _ => ⟨rfl, hI1⟩, fun _ _ _ => ⟨rfl, hI2⟩, fun _ _ w => by cases w⟩
  · have hbf : bHas zT n 0 = false := by cases h : bHas zT n 0; rfl; exact absurd h hb
    have hno : ¬ (0 ≤ n ∧ (0 : Int) ≤ 0 ∧ n ≤ zT ∧ (0 : Int) ≤ zT - n) := of_decide_eq_false hbf
    refine ⟨fun _ => by unfold mGraft; rw [if_pos (by omega)], fun w => absurd w hb, fun w => absurd w hb, fun w => absurd w hb⟩
