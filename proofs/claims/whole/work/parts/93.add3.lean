/-! PURE 34: add, as called -/
def r13 (S : MS) : Prop := ∀ x, 0 ≤ S.a 13 x ∧ S.a 13 x ≤ 255
theorem r13_wr {b : Int} {S : MS} (h : r13 S) (hb : 0 ≤ b ∧ b ≤ 255) : r13 (mWr b S) := by
  intro x
  rw [mWr_v]
  split
  · exact hb
  · exact h x
theorem r13_pf {j : Nat} {v : Int} {S : MS} (h : r13 S) : r13 (S.pf j v) := h
theorem r13_wl {v : Int} : ∀ (N : Nat) (k : Int) (S : MS), r13 S → r13 (mWlN v N k S) := by
  intro N
  induction N with
  | zero => intro k S h; exact h
  | succ N ih => intro k S h; exact ih _ _ (r13_wr h (by omega))
theorem r13_wd {v : Int} : ∀ (N : Nat) (k : Int) (S : MS), r13 S → r13 (mWdN v N k S) := by
  intro N
  induction N with
  | zero => intro k S h; exact h
  | succ N ih => intro k S h; exact ih _ _ (r13_wr h (by have := mDigit_r v k; omega))
theorem r13_wc {ks : Nat} (hks : ks ≠ 13) {o : Int} : ∀ (N : Nat) (k : Int) (S : MS), (∀ x, 0 ≤ S.a ks x ∧ S.a ks x ≤ 255) → r13 S → r13 (mWcN ks o N k S) := by
  intro N
  induction N with
  | zero => intro k S _ h; exact h
  | succ N ih =>
    intro k S hs h
    exact ih _ _ (by rw [mWr_k.1 ks hks]; exact hs) (r13_wr h (hs _))
theorem r13_head {x k n : Int} {S : MS} (hk : 0 ≤ k ∧ k ≤ 255) (h0 : ∀ x, 0 ≤ S.a 0 x ∧ S.a 0 x ≤ 255) (h : r13 S) : r13 (mHead x k n S) := by
  have a : r13 (mHd0 k S) := r13_wr h hk
  refine r13_wr ?_ (by omega)
  unfold mHd1
  split
  · exact r13_wd _ _ _ a
  · exact r13_wc (by decide) _ _ _ (by rw [mHd0_k.1.1 0 (by decide)]; exact h0) a
theorem r13_addV {k v n m : Int} {S : MS} (hv : k = 8 → v = 0 ∨ v = 1) (h0 : ∀ x, 0 ≤ S.a 0 x ∧ S.a 0 x ≤ 255) (h : r13 S) : r13 (mAddV k v n m S) := by
  unfold mAddV
  split
  · exact r13_wl _ _ _ h
  · split
    · exact r13_wl _ _ _ h
    · split
      · rename_i e
        exact r13_wr h (by have := hv e; omega)
      · split
        · exact r13_wr (r13_wc (by decide) _ _ _ (by rw [(mWl_k (v := m + 1) (n := 4) (S := S) (by decide)).1.1 0 (by decide)]; exact h0) (r13_wl _ _ _ h)) (by omega)
        · split
          · exact h
          · exact r13_wr (r13_wl _ _ _ h) (by omega)
theorem can_eq {b : Nat → Int} {nn : Nat} {ln : Bool} {T TF : Nat → Nat → Int} {cnt : Nat} {S : MS} (hC : Cert b ln nn TF cnt) (ha : tAg T TF cnt) (hL : mLd b nn TF cnt S) {x k v n m : Int} (hx : 0 ≤ x ∧ x < cnt) (hn : 0 ≤ n ∧ 0 ≤ m) : mCan x k v n m S = dAddOK T cnt x k v n m := by
  unfold mCan dAddOK dFits
  rw [lk_kind hC hL hx, lk_c ha (by decide) hx]
  cases hk : kIs k
  · rw [if_pos (Or.inl rfl), Bool.false_and]
  · rw [Bool.true_and]
    by_cases c1 : TF 0 x.toNat = 4 ∧ 0 < n
    · rw [if_pos (Or.inr (Or.inl c1)), decide_eq_false (show ¬ (n = 0 ∨ ¬ TF 0 x.toNat = 4) by omega), Bool.false_and, Bool.and_false]
    · rw [decide_eq_true (show n = 0 ∨ ¬ TF 0 x.toNat = 4 by omega), Bool.true_and]
      by_cases c2 : ¬ k = 2 ∧ 0 < m
      · rw [if_pos (Or.inr (Or.inr c2)), decide_eq_false (show ¬ (m = 0 ∨ k = 2) by omega), Bool.and_false]
      · rw [if_neg (show ¬ (true = false ∨ TF 0 x.toNat = 4 ∧ 0 < n ∨ ¬ k = 2 ∧ 0 < m) from fun w => by rcases w with w | w | w; cases w; exact c1 w; exact c2 w), decide_eq_true (show m = 0 ∨ k = 2 by omega), Bool.and_true]
        unfold kAllows
        by_cases k16 : k = 16
        · rw [if_pos k16, if_neg (by omega), if_pos k16]
          by_cases e : -2147483648 ≤ v ∧ v < 2147483648
          · rw [decide_eq_true e, decide_eq_true (by omega)]
          · rw [decide_eq_false e, decide_eq_false (by omega)]
        · rw [if_neg k16]
          by_cases k8 : k = 8
          · rw [if_pos k8, if_pos k8]
          · rw [if_neg k8, if_neg k8, if_neg k16]
            by_cases k18 : k = 18
            · rw [if_pos k18, decide_eq_true (Or.inl k18)]
            · rw [if_neg k18]
              by_cases e : v = 0
              · rw [decide_eq_true e, decide_eq_true (Or.inr e)]
              · rw [decide_eq_false e, decide_eq_false (by omega)]
theorem dLa_in {scn fpl : Int} {zT : Nat} {bT : Nat → Int} {T : Nat → Nat → Int} {cnt d : Nat} {zS : Nat → Nat} {bS : Nat → Nat → Int} {S : MS} (hI : Inv scn fpl zT bT T cnt zS bS S) (hR : Rg bT bS S) (s x : Int) : dLa s x (dTab scn s T cnt d zS bS).2.1 (dTab scn s T cnt d zS bS).2.2.1 (zS s.toNat) := by
  intro w
  have q := dHas_iff.mp w
  obtain ⟨q1, q2, TF, hC, ha⟩ := dTab_in (d := d) hI hR q.1
  unfold nLast
  rw [lk_c ha (by decide) q.2, lk_c ha (by decide) q.2]
  have hE := PC_E hC x.toNat (by dsimp only; omega)
  dsimp only at hE
  have hEE : tE TF x.toNat = TF 4 x.toNat + TF 5 x.toNat := rfl
  by_cases e : x.toNat = 0
  · have z := hC.1.2
    dsimp only at z
    rw [e, z.1.2.2.2.2.1, z.1.2.2.2.2.2]
    omega
  · have r := (hC.2.1 x.toNat (by omega) (by dsimp only; omega)).1.2.2.1
    dsimp only at r
    omega
theorem r_add {scn fpl : Int} {zT : Nat} {bT : Nat → Int} {T : Nat → Nat → Int} {cnt d : Nat} {zS : Nat → Nat} {bS : Nat → Nat → Int} {S : MS} (hI : Inv scn fpl zT bT T cnt zS bS S) (hR : Rg bT bS S) (s x k v n m : Int) {bF : Nat → Int} (hF : ∀ x, 0 ≤ bF x ∧ bF x < 256) :
    ((dMay s x (dTab scn s T cnt d zS bS).2.1 (dTab scn s T cnt d zS bS).2.2.1 = false ∨ bHas zT n m = false) → (mAdd s x k v n m S).1 = -1 ∧ Inv (dTab scn s T cnt d zS bS).1 fpl zT bT (dTab scn s T cnt d zS bS).2.1 (dTab scn s T cnt d zS bS).2.2.1 zS bS (mAdd s x k v n m S).2)
    ∧ (dMay s x (dTab scn s T cnt d zS bS).2.1 (dTab scn s T cnt d zS bS).2.2.1 = true → bHas zT n m = true → dAddA (dTab scn s T cnt d zS bS).2.1 (dTab scn s T cnt d zS bS).2.2.1 (bS s.toNat) (zS s.toNat) bT zT bF x k v n m = (mAdd s x k v n m S).1 ∧ (dAddA (dTab scn s T cnt d zS bS).2.1 (dTab scn s T cnt d zS bS).2.2.1 (bS s.toNat) (zS s.toNat) bT zT bF x k v n m < 0 → Inv (dTab scn s T cnt d zS bS).1 fpl 0 bT (dTab scn s T cnt d zS bS).2.1 (dTab scn s T cnt d zS bS).2.2.1 zS bS (mAdd s x k v n m S).2)
      ∧ (0 ≤ dAddA (dTab scn s T cnt d zS bS).2.1 (dTab scn s T cnt d zS bS).2.2.1 (bS s.toNat) (zS s.toNat) bT zT bF x k v n m → ∀ T1 c1, Inv (-1) fpl 0 bT T1 c1 (va_up zS s.toNat (dInsZ (dTab scn s T cnt d zS bS).2.1 (dTab scn s T cnt d zS bS).2.2.1 (zS s.toNat) (dFresh k v n m bF bT).1 x n)) (va_up bS s.toNat (dInsB (dTab scn s T cnt d zS bS).2.1 (dTab scn s T cnt d zS bS).2.2.1 (bS s.toNat) (zS s.toNat) bT (dFresh k v n m bF bT).2 (dFresh k v n m bF bT).1 x k n)) (mAdd s x k v n m S).2)) := by
  have hd := (Inv_dTab (d := d) hI hR s).2
  have hz0 := hI.1.1
  have hz2 := hI.1.2.1
  by_cases hb : bHas zT n m = true
  · have hn := bHas_iff.mp hb
    have eA : mAdd s x k v n m S = if (mIsNode s x S).1 = false then (-1, (mIsNode s x S).2) else if mBox x (mLoad s S) = false then (-1, mLoad s S) else mAdd2 s x k v n m (mLoad s S) := by unfold mAdd; rw [if_neg (show ¬ (n < 0 ∨ m < 0 ∨ S.f 0 < n + m) by omega)]
    rw [eA]
    by_cases hs : 0 ≤ s ∧ s < 8
    · obtain ⟨q1, q2, TF, hC, ha⟩ := dTab_in (d := d) hI hR hs
      generalize dTab scn s T cnt d zS bS = dt at *
      have hl := mLoad_in hI hR hs hC
      have nd := node_in (x := x) hs hl.2.1.1.1
      have hIl := Inv_load hI s hd.2.2.2.1 hd.2.2.2.2
      have hA := (pA_ld hI hR hs hl.2.1).1
      have hlk := mLoad_k (s := s) (S := S)
      have hT : pA bT zT zT ((mLoad s S).a 0) := by rw [hlk.1 0 (by decide)]; exact pA_tape hI hR
      unfold dMay
      rw [nd.1, nd.2]
      by_cases e : 0 ≤ x ∧ x < dt.2.2.1
      · rw [decide_eq_true e, if_neg (show ¬ true = false by decide), Bool.true_and, lk_c ha (by decide) e]
        unfold mBox
        rw [lk_kind hC hl.2.1 e]
        cases hkx : kHold (TF 0 x.toNat)
        · have h34 := kHold_ff.mp hkx
          rw [decide_eq_false h34, if_pos rfl]
          exact ⟨fun _ => ⟨rfl, hIl⟩, fun w => by cases w⟩
        · have h34 := kHold_iff.mp hkx
          rw [decide_eq_true h34, if_neg (show ¬ true = false by decide)]
          refine ⟨fun w => (by rcases w with w | w; cases w; rw [hb] at w; cases w), fun _ _ => ?_⟩
          obtain ⟨z1, z2, _⟩ := hI.2.2.1 s.toNat (by omega)
          have hW2 : (mLoad s S).f 2 = zS s.toNat := by rw [hlk.2.2]; exact z1.symm
          have m8 := (hl.2.1.2.1 x.toNat (by omega)).2.1
          have hbr := mBad_r ((mLoad s S).a 0) n (n + m)
          have hd16 := (PC_E hC x.toNat (by dsimp only; omega)).2.2.2
          dsimp only at hd16
          unfold mAdd2 mAddWhy dAddA
          rw [can_eq hC ha hl.2.1 e ⟨hn.1, hn.2.1⟩, pWrong hT (by omega) (by omega), m8]
          cases hok : dAddOK dt.2.1 dt.2.2.1 x k v n m
          · rw [if_pos rfl, if_pos rfl, if_pos (by decide)]
            exact ⟨rfl, fun _ => Inv_tape0 hIl, fun w => absurd w (by decide)⟩
          · rw [if_neg (show ¬ true = false by decide), if_neg (show ¬ true = false by decide)]
            have hok2 := hok
            unfold dAddOK at hok2
            rw [Bool.and_eq_true, Bool.and_eq_true, Bool.and_eq_true, decide_eq_true_iff] at hok2
            obtain ⟨o1, o2, o3, o4⟩ := hok2
            have hkk := of_decide_eq_true o1
            by_cases cb : mBad ((mLoad s S).a 0) n (n + m) = -1
            · rw [if_neg (fun w => w cb)]
              have hfr : (¬ nCell dt.2.1 dt.2.2.1 0 x = 4 ∧ dFree dt.2.1 dt.2.2.1 (bS s.toNat) (zS s.toNat) bT zT x n = false) ↔ mFree x n (mLoad s S) = false := by
                rw [lk_c ha (by decide) e]
                by_cases e4 : TF 0 x.toNat = 4
                · have : mFree x n (mLoad s S) = true := by unfold mFree; rw [lk_kind hC hl.2.1 e, if_pos e4]
                  rw [this]
                  exact ⟨fun w => absurd e4 w.1, fun w => by cases w⟩
                · rw [free_eq hC ha hl.2.1 hA hT e ⟨hn.1, by omega⟩ e4]
                  exact ⟨fun w => w.2, fun w => ⟨e4, w⟩⟩
              unfold dInsA
              by_cases cf : mFree x n (mLoad s S) = false
              · rw [if_pos (Or.inl cf), if_pos (hfr.mpr cf), if_pos (by decide)]
                exact ⟨rfl, fun _ => Inv_tape0 hIl, fun w => absurd w (by decide)⟩
              · rw [if_neg (show ¬ (mFree x n (mLoad s S) = false ∨ 0 ≤ mBad ((mLoad s S).a 0) n (n + m)) from fun w => by rcases w with w | w; exact cf w; omega), if_neg (fun w => cf (hfr.mp w)), lk_c ha (by decide) e]
                by_cases cd : (k = 3 ∨ k = 4) ∧ TF 2 x.toNat = 16
                · have : kHold k = true := kHold_iff.mpr cd.1
                  have hb1 : bI true = 1 := rfl
                  rw [if_pos cd, this, if_pos (show 16 < TF 2 x.toNat + bI true by omega), if_pos (by decide)]
                  exact ⟨rfl, fun _ => Inv_tape0 hIl, fun w => absurd w (by decide)⟩
                · have hdd : ¬ 16 < TF 2 x.toNat + bI (kHold k) := by
                    cases hkd : kHold k
                    · have : bI false = 0 := rfl
                      omega
                    · have : bI true = 1 := rfl
                      have := kHold_iff.mp hkd
                      omega
                  rw [if_neg cd, if_neg hdd, if_neg (show ¬ (0 : Int) < 0 by decide)]
                  have hHv := mHead_v (x := x) (k := k) (n := n) (S := mLoad s S) (by omega)
                  have hdn := dNl_eq (n := n) hC ha hl.2.1 e
                  have hH0 : (mHead x k n (mLoad s S)).a 0 = (mLoad s S).a 0 := hHv.1.1 0 (by decide)
                  have hfv := fresh_v (H := mHead x k n (mLoad s S)) (bF := bF) (by rw [hH0]; exact hT) o1 o2 ⟨hn.1, hn.2.1, by omega, by omega⟩ o4 (by rw [hHv.2.1, hdn.1]; have := bDigits_r (nCell dt.2.1 dt.2.2.1 6 x); unfold dNl; split <;> omega) (by rw [hH0]; exact cb) hF
                  obtain ⟨g1, g2, g3, g4, g5, g6, g7⟩ := hfv
                  have hr0 : ∀ y, 0 ≤ (mLoad s S).a 0 y ∧ (mLoad s S).a 0 y ≤ 255 := fun y => by rw [hlk.1 0 (by decide)]; exact hR.2.2 0 y (by decide)
                  have hr13 : r13 (mAddV k v n m (mHead x k n (mLoad s S))) := r13_addV (fun w => by rw [w] at o2; exact of_decide_eq_true o2) (by rw [hH0]; exact hr0) (r13_head (by omega) hr0 (fun y => by rw [hlk.1 13 (by decide)]; exact hR.2.2 13 y (by decide)))
                  generalize hUe : mAddV k v n m (mHead x k n (mLoad s S)) = U at *
                  have hkpU : mKp (mLoad s S) U := mKp_t hHv.1 g1
                  generalize dFresh k v n m bF bT = fr at *
                  rw [hHv.2.1, hdn.1] at g2 g3 g4
                  have hU2 : U.f 2 = zS s.toNat := by rw [hkpU.2 2 (by decide)]; exact hW2
                  unfold mIns
                  rw [hU2, g2]
                  by_cases cz : 2000 < (zS s.toNat : Int) + (2 + dNl dt.2.1 dt.2.2.1 x n + fr.1)
                  · rw [if_pos cz, if_pos (by omega)]
                    exact ⟨rfl, fun _ => Inv_tape0 (Inv_kp hIl hkpU), fun w => absurd w (by decide)⟩
                  · rw [if_neg cz, if_neg (show ¬ 2000 < (zS s.toNat : Int) + (2 + dNl dt.2.1 dt.2.2.1 x n + (fr.1 : Int)) by omega)]
                    have hnew := new_right (U := U) (bF := fr.2) (zF := fr.1) (k := k) (rg_255 (fun y => hR.2.1 s.toNat y (by omega))) hr13 hC ha hl.2.1 hA hT e hkx ⟨hn.1, by omega, by omega⟩ (zee cf) o1 (fun i hi => by rw [hdn.1] at hi; exact g3 i (by omega)) (fun j j1 j2 => by rw [hdn.1]; exact g4 j j1 j2) g5 (by omega) (fun w => by
                      have := kHold_iff.mp w
                      omega)
                    obtain ⟨fi, f1, f2, f3, f4⟩ := nBeh_s ha (x := x.toNat) (by omega)
                    rw [show ((x.toNat : Nat) : Int) = x by omega] at f1
                    have hxx : ((x.toNat : Nat) : Int) = x := by omega
                    have hcert : ∃ T1 c1, Cert (zUp TF (dNl dt.2.1 dt.2.2.1 x n + 2 + fr.1) 1000 x (h0 (bS s.toNat) (tE TF x.toNat - 1) 0 (U.a 13) (dNl dt.2.1 dt.2.2.1 x n + 2 + fr.1))) false (zS s.toNat + (dNl dt.2.1 dt.2.2.1 x n + 2 + fr.1)) T1 c1 := by
                      have hnl0 : 0 ≤ dNl dt.2.1 dt.2.2.1 x n := by
                        unfold dNl
                        have := bDigits_r (nCell dt.2.1 dt.2.2.1 6 x)
                        split <;> omega
                      have hE := PC_E hC x.toNat (by dsimp only; omega)
                      dsimp only at hE
                      have hEE : tE TF x.toNat = TF 4 x.toNat + TF 5 x.toNat := rfl
                      have hx5 := (Cert_zw hC).2.2.1 x.toNat (by omega) hkx
                      cases hkd : kHold k
                      · obtain ⟨T1, w⟩ := hnew.2 fi 1 (nApp TF fi k x.toNat (tE TF x.toNat) (tE TF x.toNat - 1 + dNl dt.2.1 dt.2.2.1 x n + 2) fr.1) f1 (by rw [nA_1]; exact hxx) (fun k1 a b => by omega) (by decide) (fun h _ _ => run_leaf (by omega) hkd)
                        exact ⟨T1, _, w⟩
                      · obtain ⟨b1, b2⟩ := g7 hkd
                        rw [b1] at hnew g4 ⊢
                        obtain ⟨T1, w⟩ := hnew.2 fi 1 (nApp TF fi k x.toNat (tE TF x.toNat) (tE TF x.toNat - 1 + dNl dt.2.1 dt.2.2.1 x n + 2) 5) f1 (by rw [nA_1]; exact hxx) (fun k1 a b => by omega) (by decide) (fun h _ hel => run_box (by omega) (by omega) hkd (by
                          have := hel (dNl dt.2.1 dt.2.2.1 x n + 2 + 4) (by omega) (by omega)
                          rw [show tE TF x.toNat - 1 + dNl dt.2.1 dt.2.2.1 x n + 2 + 4 = dNl dt.2.1 dt.2.2.1 x n + 2 + 4 + (tE TF x.toNat - 1) by omega, this, show dNl dt.2.1 dt.2.2.1 x n + 2 + 4 = 2 + dNl dt.2.1 dt.2.2.1 x n + 4 by omega, g4 4 (by omega) (by omega)]
                          exact b2))
                        exact ⟨T1, _, w⟩
                    obtain ⟨p1, p2, p3, p4, p5⟩ := hnew.1
                    have hboth := ins_both (U := U) (k := k) (Inv_kp hIl hkpU) (fun y => hR.2.1 s.toNat y (by omega)) hR.1 hr13 hs hC ha (mLd_kp hl.2.1 hkpU) hU2 (bF := fr.2) (zF := fr.1) (n := n) g6 e hkx (by rw [g2]; omega) hn.1 (by omega) p1 p2 p3 p4 p5 hcert
                    refine ⟨hboth.1, fun w => ?_, fun _ => hboth.2⟩
                    have := nBeh_r dt.2.1 dt.2.2.1 x
                    omega
            · rw [if_pos cb, if_pos (Or.inr (show 0 ≤ mBad ((mLoad s S).a 0) n (n + m) by omega)), if_pos (by decide)]
              exact ⟨rfl, fun _ => Inv_tape0 hIl, fun w => absurd w (by decide)⟩
      · rw [decide_eq_false e, if_pos rfl, Bool.false_and]
        exact ⟨fun _ => ⟨rfl, hIl⟩, fun w => by cases w⟩
    · obtain ⟨_, q2⟩ := dTab_out (scn := scn) (T := T) (cnt := cnt) (d := d) (zS := zS) (bS := bS) hs
      rw [q2]
      unfold dMay
      dsimp only
      rw [(node_out (x := x) (S := S) (c := cnt) hs).1, (node_out (x := x) (S := S) hs).2, if_pos rfl, Bool.false_and]
      exact ⟨fun _ => ⟨rfl, hI⟩, fun w => by cases w⟩
  · have hbf : bHas zT n m = false := by cases h : bHas zT n m; rfl; exact absurd h hb
    have hno : ¬ (0 ≤ n ∧ 0 ≤ m ∧ n ≤ zT ∧ m ≤ zT - n) := of_decide_eq_false hbf
    have eA : mAdd s x k v n m S = (-1, S) := by unfold mAdd; rw [if_pos (by omega)]
    rw [eA]
    exact ⟨fun _ => ⟨rfl, hd⟩, fun _ w => absurd w hb⟩
