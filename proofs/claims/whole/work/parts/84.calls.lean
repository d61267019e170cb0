/-! PURE 25: find, feed, read -/
theorem nNam_fd {T : Nat → Nat → Int} {c : Nat} {b : Nat → Int} {sz : Nat} {nd : Int} {b2 : Nat → Int} {sz2 : Nat} {fr w : Int} {S : MS} {h : Nat → Int} {q : Int} : ∀ (N : Nat) (k : Int), (∀ j : Int, k ≤ j → j < k + N → (nHit T c b sz nd b2 sz2 fr w j = true ↔ mHit S nd h q w j = true)) → nNamN T c b sz nd b2 sz2 fr w N k = mFdN S nd h q w N k := by
  intro N
  induction N with
  | zero => intro k _; rfl
  | succ N ih =>
    intro k hk
    unfold nNamN mFdN
    have e := hk k (by omega) (by omega)
    by_cases e1 : mHit S nd h q w k = true
    · rw [if_pos e1, if_pos (e.mpr e1)]
    · rw [if_neg e1, if_neg (fun z => e1 (e.mp z))]
      exact ih (k + 1) (fun j a b => hk j (by omega) (by omega))
theorem mFdN_skip {S : MS} {nd : Int} {h : Nat → Int} {q w : Int} : ∀ (A B : Nat) (k : Int), (∀ j : Int, k ≤ j → j < k + A → ¬ mHit S nd h q w j = true) → mFdN S nd h q w (A + B) k = mFdN S nd h q w B (k + A) := by
  intro A
  induction A with
  | zero => intro B k _; rw [Nat.zero_add]; congr 1; omega
  | succ A ih =>
    intro B k hk
    rw [show A + 1 + B = (A + B) + 1 by omega]
    show (if mHit S nd h q w k = true then k else mFdN S nd h q w (A + B) (k + 1)) = _
    rw [if_neg (hk k (by omega) (by omega)), ih B (k + 1) (fun j a b => hk j (by omega) (by omega))]
    congr 1
    omega
theorem tAg_nm {f : Nat → Int} {ln : Bool} {n : Int} {T TF : Nat → Nat → Int} {cnt : Nat} (hC : Cert f ln n TF cnt) (ha : tAg T TF cnt) : nmR T cnt n := by
  have h := PC_nm hC
  have c1 := hC.1.1
  dsimp only at h c1
  refine ⟨by rw [ha 1 0 (by omega) (by decide)]; exact h.1, fun k a b => ?_⟩
  rw [ha 1 k b (by decide), ha 3 k b (by decide), ha 4 k b (by decide)]
  exact h.2 k a b
theorem mLd_rw {f : Nat → Int} {n : Int} {TF T : Nat → Nat → Int} {cnt : Nat} {S : MS} (hL : mLd f n TF cnt S) (ha : tAg T TF cnt) : mRw T cnt S := ⟨hL.1.1, fun k a b => by
  have := hL.2.1 k b
  rw [ha 1 k b (by decide), ha 3 k b (by decide), ha 4 k b (by decide)]
  exact ⟨this.1, this.2.2.1 a⟩⟩
/-- the program's search and the reference's, of a name on the tape -/
theorem find_eq {b : Nat → Int} {nn : Nat} {ln : Bool} {T TF : Nat → Nat → Int} {cnt : Nat} {S : MS} (hC : Cert b ln nn TF cnt) (ha : tAg T TF cnt) (hL : mLd b nn TF cnt S) (hA : pA b nn nn (S.a 3)) {bT h : Nat → Int} {zT : Nat} (hT : pA bT zT zT h) {x w : Int} (hx : 0 ≤ x ∧ x < cnt) (hw : 0 ≤ w ∧ w ≤ zT) : nNamed T cnt b nn x bT zT 0 w = mFd S x h 0 w 1 := by
  have hN := tAg_nm hC ha
  have hR := mLd_rw hL ha
  unfold nNamed nNamF mFd
  rw [hL.1.1, show ((cnt : Int) - 1).toNat = x.toNat + (cnt - (x + 1)).toNat by omega, mFdN_skip _ _ 1 (fun j a c z => ?_)]
  · rw [show (1 : Int) + (x.toNat : Nat) = x + 1 by omega]
    refine nNam_fd _ _ (fun j a c => ?_)
    have ej : j = ((j.toNat : Nat) : Int) := by omega
    rw [ej, nHit_s hA hT hN (by omega) hw.1 (by omega) (by omega) (by omega), mHit_s hR (by omega) (by omega)]
  · have ej : j = ((j.toNat : Nat) : Int) := by omega
    rw [ej] at z
    have := (mHit_s hR (by omega) (by omega)).mp z
    have := (hN.2 j.toNat (by omega) (by omega)).1
    omega
theorem find_no {b : Nat → Int} {nn : Nat} {ln : Bool} {T TF : Nat → Nat → Int} {cnt : Nat} (hC : Cert b ln nn TF cnt) (ha : tAg T TF cnt) {bT : Nat → Int} {zT : Nat} {x w : Int} (hx : 0 ≤ x ∧ x < cnt) (hk : ¬ kHold (TF 0 x.toNat) = true) : nNamed T cnt b nn x bT zT 0 w = -1 := by
  unfold nNamed nNamF
  rw [nNamN_m1 _ _ (by omega)]
  intro j a c z
  unfold nHit at z
  rw [Bool.and_eq_true, decide_eq_true_iff, lk_c ha (by decide) ⟨by omega, by omega⟩] at z
  refine noKids hC hk j.toNat (by omega) ?_
  rw [z.1]
  omega
theorem pA_tape {scn fpl : Int} {zT : Nat} {bT : Nat → Int} {T : Nat → Nat → Int} {cnt : Nat} {zS : Nat → Nat} {bS : Nat → Nat → Int} {S : MS} (hI : Inv scn fpl zT bT T cnt zS bS S) (hR : Rg bT bS S) : pA bT zT zT (S.a 0) := ⟨⟨Nat.le_refl _, hI.1.2.2⟩, hR.1, fun x => hR.2.2 0 x (by decide)⟩
theorem Inv_tape0 {scn fpl : Int} {zT : Nat} {bT : Nat → Int} {T : Nat → Nat → Int} {cnt : Nat} {zS : Nat → Nat} {bS : Nat → Nat → Int} {S : MS} (hI : Inv scn fpl zT bT T cnt zS bS S) : Inv scn fpl 0 bT T cnt zS bS (S.pf 0 0) := by
  obtain ⟨h1, h2, h3, h4, h5⟩ := hI
  exact ⟨⟨rfl, by omega, fun x hx => by omega⟩, h2, h3, h4, h5⟩
theorem r_find {scn fpl : Int} {zT : Nat} {bT : Nat → Int} {T : Nat → Nat → Int} {cnt d : Nat} {zS : Nat → Nat} {bS : Nat → Nat → Int} {S : MS} (hI : Inv scn fpl zT bT T cnt zS bS S) (hR : Rg bT bS S) (s x n : Int) :
    (bHas zT n 0 = false → mFind s x n S = (-1, S)) ∧ (bHas zT n 0 = true → dFind s x n (dTab scn s T cnt d zS bS).2.1 (dTab scn s T cnt d zS bS).2.2.1 zT bT zS bS = (mFind s x n S).1 ∧ Inv (dTab scn s T cnt d zS bS).1 fpl 0 bT (dTab scn s T cnt d zS bS).2.1 (dTab scn s T cnt d zS bS).2.2.1 zS bS (mFind s x n S).2) := by
  have hz := hI.1.1
  refine ⟨fun w => ?_, fun w => ?_⟩
  · unfold mFind
    have : ¬ (0 ≤ n ∧ (0 : Int) ≤ 0 ∧ n ≤ zT ∧ (0 : Int) ≤ zT - n) := of_decide_eq_false w
    rw [if_pos (by omega)]
  · have hn := bHas_iff.mp w
    have hd := (Inv_dTab (d := d) hI hR s).2
    unfold dFind mFind mFind0
    rw [if_neg (show ¬ (n < 0 ∨ S.f 0 < n) by omega)]
    dsimp only
    by_cases hs : 0 ≤ s ∧ s < 8
    · obtain ⟨q1, q2, TF, hC, ha⟩ := dTab_in (d := d) hI hR hs
      generalize dTab scn s T cnt d zS bS = dt at *
      have hl := mLoad_in hI hR hs hC
      have nd := node_in (x := x) hs hl.2.1.1.1
      have hIl := Inv_load hI s hd.2.2.2.1 hd.2.2.2.2
      have hA := (pA_ld hI hR hs hl.2.1).1
      rw [nd.1, nd.2]
      refine ⟨?_, Inv_tape0 hIl⟩
      by_cases e : 0 ≤ x ∧ x < dt.2.2.1
      · rw [decide_eq_true e, if_pos rfl]
        unfold mBox
        rw [lk_kind hC hl.2.1 e, mLoad_k.1 0 (by decide)]
        by_cases hk : TF 0 x.toNat = 3 ∨ TF 0 x.toNat = 4
        · rw [decide_eq_true hk, if_pos ⟨rfl, rfl⟩]
          exact find_eq hC ha hl.2.1 hA (pA_tape hI hR) e (by omega)
        · rw [decide_eq_false hk, if_neg (fun z => by cases z.2)]
          exact find_no hC ha e (fun z => hk (kH34.mp z))
      · rw [decide_eq_false e, if_neg (by decide), if_neg (fun z => by cases z.1)]
    · obtain ⟨_, q2⟩ := dTab_out (scn := scn) (T := T) (cnt := cnt) (d := d) (zS := zS) (bS := bS) hs
      rw [q2]
      dsimp only
      rw [(node_out (x := x) (S := S) (c := cnt) hs).1, (node_out (x := x) (S := S) hs).2, if_neg (by decide), if_neg (fun z => by cases z.1)]
      exact ⟨rfl, Inv_tape0 hI⟩
/-! feed -/
theorem mPutN_k {v : Int} : ∀ (N : Nat) (k : Int) (S : MS), (∀ q, q ≠ 0 → (mPutN v N k S).a q = S.a q) ∧ ∀ j, j ≠ 0 → (mPutN v N k S).f j = S.f j := by
  intro N
  induction N with
  | zero => intro k S; exact ⟨fun _ _ => rfl, fun _ _ => rfl⟩
  | succ N ih =>
    intro k S
    obtain ⟨a, b⟩ := ih (k + (-8)) ((S.st 0 (S.f 0).toNat (v / 2 ^ k.toNat % 256)).pf 0 (S.f 0 + 1))
    refine ⟨fun q hq => ?_, fun j hj => ?_⟩
    · show (mPutN v N _ _).a q = _
      rw [a q hq, pf_a, st_ne hq]
    · show (mPutN v N _ _).f j = _
      rw [b j hj, pf_f, if_neg hj]
      rfl
theorem bGap_0 {b : Nat → Int} {sz : Nat} {w : Int} : bGap b sz sz w = b := by
  unfold bGap
  funext x
  unfold va_cpy
  rw [show ((sz : Int) - sz).toNat = 0 by omega, if_neg (by omega)]
theorem put_eq {bT : Nat → Int} {zT : Nat} {S : MS} (v : Int) (h1 : (zT : Int) = S.f 0) (h2 : ∀ x : Nat, x < zT → bT x = S.a 0 x) : ((zT + 4 : Nat) : Int) = (mPut v S).f 0 ∧ ∀ x : Nat, x < zT + 4 → bAppHf bT zT v x = (mPut v S).a 0 x := by
  have e0 : (S.f 0).toNat = zT := by omega
  refine ⟨by rw [mPut_f]; omega, fun x hx => ?_⟩
  unfold bAppHf
  rw [bGap_0, bHf_step (by decide), bHf_step (by decide), bHf_step (by decide), bHf_step (by decide), bHf_end (by decide)]
  unfold mPut mPutN mPutN mPutN mPutN mPutN
  rw [bPut_in (by omega), bPut_in (by omega), bPut_in (by omega), bPut_in (by omega)]
  simp only [pf_a, pf_f, st_f, st_eq, if_true]
  unfold va_up
  have t1 : (S.f 0 + 1).toNat = zT + 1 := by omega
  have t2 : (S.f 0 + 1 + 1).toNat = zT + 2 := by omega
  have t3 : (S.f 0 + 1 + 1 + 1).toNat = zT + 3 := by omega
  rw [t1, t2, t3, e0, show ((zT : Int) + 0).toNat = zT by omega, show ((zT : Int) + (0 + 1)).toNat = zT + 1 by omega, show ((zT : Int) + (0 + 1 + 1)).toNat = zT + 2 by omega, show ((zT : Int) + (0 + 1 + 1 + 1)).toNat = zT + 3 by omega]
  by_cases x3 : x = zT + 3
  · rw [if_pos x3, if_pos x3]; rfl
  · rw [if_neg x3, if_neg x3]
    by_cases x2 : x = zT + 2
    · rw [if_pos x2, if_pos x2]; rfl
    · rw [if_neg x2, if_neg x2]
      by_cases x1 : x = zT + 1
      · rw [if_pos x1, if_pos x1]; rfl
      · rw [if_neg x1, if_neg x1]
        by_cases x0 : x = zT
        · rw [if_pos x0, if_pos x0]; rfl
        · rw [if_neg x0, if_neg x0]
          exact h2 x (by omega)
theorem r_feed {scn fpl : Int} {zT : Nat} {bT : Nat → Int} {T : Nat → Nat → Int} {cnt : Nat} {zS : Nat → Nat} {bS : Nat → Nat → Int} {S : MS} (hI : Inv scn fpl zT bT T cnt zS bS S) (a1 a2 a3 a4 a5 : Int) :
    (dFeed zT bT a1 a2 a3 a4 a5).1 = (mFeed a1 a2 a3 a4 a5 S).1 ∧ Inv scn fpl (dFeed zT bT a1 a2 a3 a4 a5).2.1 (dFeed zT bT a1 a2 a3 a4 a5).2.2 T cnt zS bS (mFeed a1 a2 a3 a4 a5 S).2 := by
  obtain ⟨h1, h2, h3, h4, h5⟩ := hI
  unfold dFeed mFeed
  by_cases c : 1980 < (zT : Int)
  · rw [if_pos c, if_pos (by omega)]
    exact ⟨rfl, h1, h2, h3, h4, h5⟩
  · rw [if_neg c, if_neg (by omega)]
    have p1 := put_eq a1 h1.1 h1.2.2
    have p2 := put_eq a2 p1.1 p1.2
    have p3 := put_eq a3 p2.1 p2.2
    have p4 := put_eq a4 p3.1 p3.2
    have p5 := put_eq a5 p4.1 p4.2
    have k1 := mPutN_k (v := a1) 4 24 S
    have k2 := mPutN_k (v := a2) 4 24 (mPut a1 S)
    have k3 := mPutN_k (v := a3) 4 24 (mPut a2 (mPut a1 S))
    have k4 := mPutN_k (v := a4) 4 24 (mPut a3 (mPut a2 (mPut a1 S)))
    have k5 := mPutN_k (v := a5) 4 24 (mPut a4 (mPut a3 (mPut a2 (mPut a1 S))))
    have ka : ∀ q, q ≠ 0 → (mPut a5 (mPut a4 (mPut a3 (mPut a2 (mPut a1 S))))).a q = S.a q := fun q hq => (k5.1 q hq).trans ((k4.1 q hq).trans ((k3.1 q hq).trans ((k2.1 q hq).trans (k1.1 q hq))))
    have kf : ∀ j, j ≠ 0 → (mPut a5 (mPut a4 (mPut a3 (mPut a2 (mPut a1 S))))).f j = S.f j := fun j hj => (k5.2 j hj).trans ((k4.2 j hj).trans ((k3.2 j hj).trans ((k2.2 j hj).trans (k1.2 j hj))))
    refine ⟨p5.1, ⟨p5.1, by dsimp only; omega, p5.2⟩, ⟨by rw [kf 1 (by decide)]; exact h2.1, by rw [kf 6 (by decide)]; exact h2.2⟩, fun k hk => ?_, h4, h5⟩
    rw [ka 1 (by decide), ka 2 (by decide)]
    exact h3 k hk
/-! read -/
theorem rStart_a {b f : Nat → Int} {sz nn : Nat} (hA : pA b sz nn f) (T : Nat → Nat → Int) : ((aF0 f nn).1 = 0 → rStart b sz nn T = ((aStart nn T).1, (aStart nn T).2.1, 0, -1, (aStart nn T).2.2.1, (aStart nn T).2.2.2)) ∧ (¬ (aF0 f nn).1 = 0 → rStart b sz nn T = (0, -1, (aF0 f nn).1, (aF0 f nn).2, T, 0)) := by
  unfold rStart rSize aF0
  by_cases c1 : (nn : Int) < 4
  · rw [if_pos c1, if_pos c1]
    exact ⟨fun w => (by cases w), fun _ => rfl⟩
  · rw [if_neg c1, if_neg c1, pNum4 hA (by omega) (by omega)]
    by_cases c2 : mLow f 0 4 < 5 ∨ mLow f 0 4 < nn
    · rw [if_pos c2, if_pos (show mLow f 0 4 < 5 ∨ (-1 : Int) = -1 ∧ mLow f 0 4 < nn by omega)]
      exact ⟨fun w => (by cases w), fun _ => rfl⟩
    · rw [if_neg c2, if_neg (show ¬ (mLow f 0 4 < 5 ∨ (-1 : Int) = -1 ∧ mLow f 0 4 < nn) by omega)]
      by_cases c3 : (nn : Int) < mLow f 0 4
      · rw [if_pos c3, if_pos c3]
        exact ⟨fun w => (by cases w), fun _ => rfl⟩
      · rw [if_neg c3, if_neg c3, nCell_out (by omega), if_neg (by decide)]
        refine ⟨fun _ => ?_, fun w => absurd rfl w⟩
        have e : mLow f 0 4 = nn := by omega
        rw [e]
        rfl
theorem rRun_a {b f : Nat → Int} {sz nn : Nat} (hA : pA b sz nn f) (hn : nn ≤ 2000) (T : Nat → Nat → Int) : rGood b sz 2000 (rStart b sz nn T) ∧ (rGo b sz 2000 (rStart b sz nn T)).2.2.1 = (aRun f false nn T).2.1 ∧ (rGo b sz 2000 (rStart b sz nn T)).2.2.2.1 = (if (aRun f false nn T).2.1 = 0 then -1 else (aRun f false nn T).2.2) := by
  have h := rStart_a hA T
  unfold aRun
  by_cases c : (aF0 f nn).1 = 0
  · rw [if_neg (fun w => w c), h.1 c]
    exact rGo_a hA 2000 _ _ _ _ (PC_start c (by omega))
  · rw [if_pos c, h.2 c]
    have hno : ¬ ((aF0 f nn).1 = 0 ∧ (0 : Int) ≤ -1) := fun w => c w.1
    have e : rGo b sz 2000 (0, -1, (aF0 f nn).1, (aF0 f nn).2, T, 0) = (0, -1, (aF0 f nn).1, (aF0 f nn).2, T, 0) := rGo_e hno
    have hr : 0 ≤ (aF0 f nn).1 ∧ (aF0 f nn).1 ≤ 8 := by
      unfold aF0
      repeat' (first | apply ite_r8 | (dsimp only; decide))
    rw [e]
    refine ⟨⟨⟨by dsimp only; omega, by dsimp only; omega⟩, fun w => absurd w hno⟩, rfl, ?_⟩
    dsimp only
    rw [if_neg c]
