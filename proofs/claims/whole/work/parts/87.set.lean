/-! PURE 28: the sizes upwards, and set -/
theorem opn_up {f : Nat → Int} {ln : Bool} {n : Int} {TF : Nat → Nat → Int} {cnt : Nat} (hC : Cert f ln n TF cnt) {x : Nat} (x1 : 1 ≤ x) (hx : x < cnt) {q : Nat} : opn TF (x + 1) x q ↔ q = x ∨ (q ≤ (TF 1 x).toNat ∧ opn TF ((TF 1 x).toNat + 1) ((TF 1 x).toNat : Int) q) := by
  have r := hC.2.1 x x1 hx
  dsimp only at r
  have rp := r.1.1.1
  constructor
  · rintro ⟨a, b⟩
    by_cases e : q = x
    · exact Or.inl e
    · have := b x (by omega) (by omega)
      exact Or.inr ⟨by omega, by omega, fun j c d => b j c (by omega)⟩
  · rintro (e | ⟨a, b⟩)
    · subst e; exact ⟨Int.le_refl _, fun j c d => by omega⟩
    · refine ⟨by omega, fun j c d => ?_⟩
      by_cases e1 : j ≤ (TF 1 x).toNat
      · exact b.2 j c (by omega)
      · by_cases e2 : j = x
        · subst e2; omega
        · have := r.2.2.2.2 j (by omega) (by omega); omega
theorem zUp_props {f : Nat → Int} (hf : ∀ x, 0 ≤ f x ∧ f x ≤ 255) {ln : Bool} {n ch : Int} {TF : Nat → Nat → Int} {cnt : Nat} (hC : Cert f ln n TF cnt) : ∀ (x : Nat), x < cnt → kHold (TF 0 x) = true → ∀ (N : Nat) (f0 : Nat → Int), TF 2 x ≤ N → (∀ q, q ≤ x → opn TF (x + 1) x q → mLow f0 (TF 4 q) 4 = TF 5 q ∧ 0 ≤ TF 5 q + ch ∧ TF 5 q + ch < 4294967296) →
    (∀ y : Nat, (∀ q, q ≤ x → opn TF (x + 1) x q → ¬ (TF 4 q ≤ y ∧ (y : Int) < TF 4 q + 4)) → zUp TF ch N x f0 y = f0 y) ∧ ∀ q, q ≤ x → opn TF (x + 1) x q → mLow (zUp TF ch N x f0) (TF 4 q) 4 = TF 5 q + ch := by
  intro x
  induction x using Nat.strongRecOn with
  | _ x ih =>
    intro hx hh N f0 hN hq
    have hdp := Cert_dep hC hx
    rw [hh] at hdp
    have hb1 : bI true = 1 := rfl
    obtain ⟨M, rfl⟩ : ∃ M, N = M + 1 := ⟨N - 1, by omega⟩
    have h4x := (PC_E hC x hx).2.1
    dsimp only at h4x
    have hself : opn TF (x + 1) x x := ⟨Int.le_refl _, fun j a b => by omega⟩
    obtain ⟨e1, e2, e3⟩ := hq x (Nat.le_refl x) hself
    have eU : zUp TF ch (M + 1) x f0 = zUp TF ch M (TF 1 x) (zP f0 (TF 4 x) (TF 5 x + ch) 4) := by
      show (if (x : Int) < 0 then f0 else zUp TF ch M (TF 1 ((x : Int)).toNat) (zP f0 (TF 4 ((x : Int)).toNat) (mLow f0 (TF 4 ((x : Int)).toNat) 4 + ch) 4)) = _
      rw [if_neg (by omega), show ((x : Int)).toNat = x by omega, e1]
    rw [eU]
    by_cases x0 : x = 0
    · subst x0
      have hp := hC.1.2.1.2.1
      dsimp only at hp
      rw [hp, zUp_neg (by decide)]
      refine ⟨fun y hy => ?_, fun q q1 q2 => ?_⟩
      · unfold zP
        rw [if_neg (hy 0 (Nat.le_refl 0) hself)]
      · have eq : q = 0 := by omega
        subst eq
        exact zP_low h4x ⟨e2, e3⟩
    · have r := hC.2.1 x (by omega) hx
      dsimp only at r
      have rp := r.1.1.1
      have hup := fun q => opn_up hC (x := x) (q := q) (by omega) hx
      have hpp : ((TF 1 x).toNat : Int) = TF 1 x := by omega
      have hdq : ∀ q, q ≤ (TF 1 x).toNat → opn TF ((TF 1 x).toNat + 1) ((TF 1 x).toNat : Int) q → TF 4 q + 4 ≤ TF 4 x ∧ 0 ≤ TF 4 q := by
        intro q q1 q2
        have hd2 := inBox_hd hf hC (q := q) (k := x) (by omega) hx
        have hqh : kHold (TF 0 q) = true := by
          by_cases e : q = (TF 1 x).toNat
          · rw [e]; exact r.1.1.2
          · have := q2.2 (q + 1) (by omega) (by omega)
            have rr := (hC.2.1 (q + 1) (by omega) (by dsimp only; omega)).1.1
            dsimp only at rr
            rw [show (TF 1 (q + 1)).toNat = q by omega] at rr
            exact rr.2
        unfold hd at hd2
        rw [hqh, if_pos rfl] at hd2
        have := r.1.2.2.1
        have := (PC_E hC q (by dsimp only; omega)).2.1
        dsimp only at this
        omega
      have r6 := r.1.2.2.2.2.2.1
      rw [hh] at r6
      have hi := ih (TF 1 x).toNat (by omega) (by omega) r.1.1.2 M (zP f0 (TF 4 x) (TF 5 x + ch) 4) (by omega) (fun q q1 q2 => by
        have w := hq q (by omega) ((hup q).mpr (Or.inr ⟨q1, q2⟩))
        refine ⟨?_, w.2⟩
        rw [← w.1]
        have hz := hdq q q1 q2
        have e := mLow_sh (f := f0) (h := zP f0 (TF 4 x) (TF 5 x + ch) 4) (a := TF 4 q) (d := 0) (w := 4) (by decide) (fun y y1 y2 => by
          rw [Int.add_zero]
          unfold zP
          rw [if_neg (by omega)])
        rw [Int.add_zero] at e
        exact e)
      rw [hpp] at hi
      refine ⟨fun y hy => ?_, fun q q1 q2 => ?_⟩
      · rw [hi.1 y (fun q q1 q2 => hy q (by omega) ((hup q).mpr (Or.inr ⟨q1, by rw [hpp]; exact q2⟩)))]
        unfold zP
        rw [if_neg (hy x (Nat.le_refl x) hself)]
      · rcases (hup q).mp q2 with e | ⟨w1, w2⟩
        · subst e
          have e := mLow_sh (f := zP f0 (TF 4 q) (TF 5 q + ch) 4) (h := zUp TF ch M (TF 1 q) (zP f0 (TF 4 q) (TF 5 q + ch) 4)) (a := TF 4 q) (d := 0) (w := 4) (by decide) (fun y y1 y2 => by
            rw [Int.add_zero]
            refine hi.1 y.toNat (fun p p1 p2 => ?_)
            have := hdq p p1 (by rw [hpp]; exact p2)
            omega)
          rw [Int.add_zero] at e
          rw [e]
          exact zP_low h4x ⟨e2, e3⟩
        · exact hi.2 q w1 (by rw [hpp] at w2; exact w2)
theorem kW_iff {k : Int} : ¬ kWidth k = 0 ↔ k = 16 ∨ k = 18 ∨ k = 8 := by
  unfold kWidth
  by_cases e8 : k = 8
  · rw [if_pos e8]; omega
  · rw [if_neg e8]
    by_cases e16 : k = 16
    · rw [if_pos e16]; omega
    · rw [if_neg e16]
      by_cases e18 : k = 18
      · rw [if_pos e18]; omega
      · rw [if_neg e18]; omega
theorem mCan_set {k v : Int} {S : MS} (hk : k = 16 ∨ k = 18 ∨ k = 8) : mCan 0 k v 0 0 S = kAllows k v := by
  unfold mCan kAllows
  have hki : kIs k = true := decide_eq_true (by omega)
  rw [hki, if_neg (by simp)]
  rcases hk with rfl | rfl | rfl
  · rw [if_pos rfl, if_neg (by decide), if_pos rfl]
    by_cases e : -2147483648 ≤ v ∧ v < 2147483648
    · rw [decide_eq_true e, decide_eq_true (by omega)]
    · rw [decide_eq_false e, decide_eq_false (by omega)]
  · rw [if_neg (by decide), if_neg (by decide), if_neg (by decide), if_neg (by decide), if_pos rfl, decide_eq_true (Or.inl rfl)]
  · rw [if_neg (by decide), if_pos rfl, if_pos rfl]
theorem r_set {scn fpl : Int} {zT : Nat} {bT : Nat → Int} {T : Nat → Nat → Int} {cnt d : Nat} {zS : Nat → Nat} {bS : Nat → Nat → Int} {S : MS} (hI : Inv scn fpl zT bT T cnt zS bS S) (hR : Rg bT bS S) (s x v : Int) :
    dSetOK s x v (dTab scn s T cnt d zS bS).2.1 (dTab scn s T cnt d zS bS).2.2.1 = (mSet s x v S).1
    ∧ (dSetOK s x v (dTab scn s T cnt d zS bS).2.1 (dTab scn s T cnt d zS bS).2.2.1 = false → Inv (dTab scn s T cnt d zS bS).1 fpl zT bT (dTab scn s T cnt d zS bS).2.1 (dTab scn s T cnt d zS bS).2.2.1 zS bS (mSet s x v S).2)
    ∧ (dSetOK s x v (dTab scn s T cnt d zS bS).2.1 (dTab scn s T cnt d zS bS).2.2.1 = true → Inv (dTab scn s T cnt d zS bS).1 fpl zT bT (dTab scn s T cnt d zS bS).2.1 (dTab scn s T cnt d zS bS).2.2.1 (va_up zS s.toNat (zS s.toNat)) (va_up bS s.toNat (bPn (zS s.toNat) (nCell (dTab scn s T cnt d zS bS).2.1 (dTab scn s T cnt d zS bS).2.2.1 4 x) v (kWidth (nCell (dTab scn s T cnt d zS bS).2.1 (dTab scn s T cnt d zS bS).2.2.1 0 x)) 0 (bS s.toNat))) (mSet s x v S).2) := by
  have hd := (Inv_dTab (d := d) hI hR s).2
  by_cases hs : 0 ≤ s ∧ s < 8
  · obtain ⟨q1, q2, TF, hC, ha⟩ := dTab_in (d := d) hI hR hs
    generalize dTab scn s T cnt d zS bS = dt at *
    have hl := mLoad_in hI hR hs hC
    have nd := node_in (x := x) hs hl.2.1.1.1
    have hIl := Inv_load hI s hd.2.2.2.1 hd.2.2.2.2
    have hA := (pA_ld hI hR hs hl.2.1).1
    unfold dSetOK mSet
    rw [nd.1, nd.2]
    by_cases e : 0 ≤ x ∧ x < dt.2.2.1
    · rw [decide_eq_true e, if_neg (show ¬ true = false by decide), Bool.true_and, lk_c ha (by decide) e, lk_c ha (by decide) e, lk_kind hC hl.2.1 e, lk_val hC hl.2.1 e]
      by_cases hk : TF 0 x.toNat = 16 ∨ TF 0 x.toNat = 18 ∨ TF 0 x.toNat = 8
      · rw [decide_eq_true (kW_iff.mpr hk), Bool.true_and, mCan_set hk]
        cases hv : kAllows (TF 0 x.toNat) v
        · rw [if_pos (Or.inr rfl)]
          exact ⟨rfl, fun _ => hIl, fun w => by cases w⟩
        · rw [if_neg (show ¬ (¬ (TF 0 x.toNat = 16 ∨ TF 0 x.toNat = 18 ∨ TF 0 x.toNat = 8) ∨ true = false) from fun w => by rcases w with w | w; exact w hk; cases w)]
          refine ⟨rfl, fun w => (by cases w), fun _ => ?_⟩
          have x0 : x.toNat ≠ 0 := by
            intro z
            have := hC.1.2.1.1
            dsimp only at this
            rw [z, this] at hk
            omega
          have hwd : mWid (TF 0 x.toNat) = kWidth (TF 0 x.toNat) := by
            unfold mWid kWidth
            rcases hk with z | z | z <;> rw [z] <;> rfl
          have vk := (hC.2.1 x.toNat (by omega) (by dsimp only; omega)).2.1.1
          dsimp only at vk
          rw [aVl_n (fun z => by have := kH34.mp z; omega) (by omega)] at vk
          have hE := PC_E hC x.toNat (by dsimp only; omega)
          dsimp only at hE
          have hEE : tE TF x.toNat = TF 4 x.toNat + TF 5 x.toNat := rfl
          have kr := kWidth_r (TF 0 x.toNat)
          have hp := mPl_v (a := TF 4 x.toNat) (v := v) (w := kWidth (TF 0 x.toNat)) (S := mLoad s S) (by omega) kr.1
          dsimp only
          rw [hwd, Int.sub_zero]
          obtain ⟨z1, z2, _⟩ := hI.2.2.1 s.toNat (by omega)
          have hlk := mLoad_k (s := s) (S := S)
          obtain ⟨TF1, w1, w2⟩ := set_right (h := zP (bS s.toNat) (TF 4 x.toNat) v (kWidth (TF 0 x.toNat))) (rg_255 (fun y => hR.2.1 s.toNat y (by omega))) (zP_r (rg_255 (fun y => hR.2.1 s.toNat y (by omega))) _ _ _) hC (k := x.toNat) (by omega) (by omega) (by have := kW_iff.mpr hk; omega) (fun y y1 y2 => by
            unfold zP
            rw [if_neg (by omega)]) (fun w8 => by
            unfold zP
            have : kWidth (TF 0 x.toNat) = 1 := by rw [w8]; rfl
            rw [if_pos (by omega), show (8 * (((TF 4 x.toNat).toNat : Int) - TF 4 x.toNat)).toNat = 0 by omega]
            have hvv : v = 0 ∨ v = 1 := by
              rw [w8] at hv
              exact of_decide_eq_true hv
            rcases hvv with rfl | rfl <;> decide)
          rw [bPn_v (by omega) kr.1 (by omega)]
          generalize mPlN (TF 4 x.toNat) v (kWidth (TF 0 x.toNat)).toNat 0 (mLoad s S) = S1 at *
          have hst := mStore_k (s := s) (S := S1) hs
          have h0 := Inv_store (S := mLoad s S) (S1 := S1) (z1 := zS s.toNat) (b1 := zP (bS s.toNat) (TF 4 x.toNat) v (kWidth (TF 0 x.toNat))) (fpl1 := fpl) (zT1 := zT) (T1 := dt.2.1) (c1 := dt.2.2.1) hIl hs (by rw [hp.2.1]; exact hIl.1.1) hIl.1.2.1 (fun y hy => by rw [hp.1 0 (by decide)]; exact hIl.1.2.2 y hy) (by rw [hp.2.1]; exact hIl.2.1.1) (by rw [hp.2.1]; exact hIl.2.1.2) (hp.1 1 (by decide)) (hp.1 2 (by decide)) (by rw [hp.2.1, hlk.2.2, z1]) (fun y hy => by
            rw [hp.2.2]
            unfold zP
            rw [hA.1.2 y hy]) ⟨TF1, _, w1⟩
          refine ⟨h0.1, h0.2.1, h0.2.2.1, hd.2.2.2.1, fun _ => ⟨TF1, ?_, ?_⟩⟩
          · rw [q2, va_up_self, va_up_self]; exact w1
          · intro co k hk2 hco
            rw [w2 co k hk2 hco]
            exact ha co k hk2 hco
      · rw [decide_eq_false (fun w => hk (kW_iff.mp w)), Bool.false_and, if_pos (Or.inl hk)]
        exact ⟨rfl, fun _ => hIl, fun w => by cases w⟩
    · rw [decide_eq_false e, if_pos rfl, Bool.false_and]
      exact ⟨rfl, fun _ => hIl, fun w => by cases w⟩
  · obtain ⟨_, q2⟩ := dTab_out (scn := scn) (T := T) (cnt := cnt) (d := d) (zS := zS) (bS := bS) hs
    rw [q2]
    unfold dSetOK mSet
    dsimp only
    rw [(node_out (x := x) (S := S) (c := cnt) hs).1, (node_out (x := x) (S := S) hs).2, if_pos rfl, Bool.false_and]
    exact ⟨rfl, fun _ => hI, fun w => by cases w⟩
