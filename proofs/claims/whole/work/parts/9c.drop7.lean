/-! PURE 43: drop -/
theorem rz_zUp2 {T TF : Nat → Nat → Int} {cnt sz c0 : Nat} {ch : Int} (ha : tAg T TF cnt) (hc0 : c0 ≤ cnt) (hw : ∀ k : Nat, k < c0 → (-1 ≤ TF 1 k ∧ TF 1 k < k) ∧ 0 ≤ TF 4 k) : ∀ (N : Nat) (ar : Int) (b f : Nat → Int), (0 ≤ ar → ar < c0 ∧ TF 4 ar.toNat + 4 ≤ sz) → (∀ k : Nat, k < c0 → 0 ≤ TF 1 k → TF 4 (TF 1 k).toNat + 4 ≤ sz) → (∀ x, 0 ≤ b x ∧ b x < 256) → (∀ x : Nat, x < sz → b x = f x) → (∀ x : Nat, x < sz → rzN T cnt sz ch N ar b x = zUp TF ch N ar f x) ∧ ∀ x, 0 ≤ rzN T cnt sz ch N ar b x ∧ rzN T cnt sz ch N ar b x < 256 := by
  intro N
  induction N with
  | zero => intro ar b f _ _ h1 h2; exact ⟨h2, h1⟩
  | succ N ih =>
    intro ar b f har hpar h1 h2
    unfold rzN zUp
    by_cases e : 0 ≤ ar
    · have q := har e
      have w := hw ar.toNat (by omega)
      rw [if_pos e, if_neg (by omega), lk_c ha (by decide) ⟨e, by omega⟩, lk_c ha (by decide) ⟨e, by omega⟩, bPn_v (by omega) (by omega) (by omega), bEx h1 h2 w.2 q.2]
      refine ih _ _ _ (fun u => ⟨by omega, hpar ar.toNat (by omega) u⟩) hpar (fun x => ?_) (fun x hx => ?_)
      · have := zP_r (rg_255 h1) (TF 4 ar.toNat) (mLow f (TF 4 ar.toNat) 4 + ch) 4 x
        omega
      · unfold zP
        rw [h2 x hx]
    · rw [if_neg e, if_pos (by omega)]
      exact ⟨h2, h1⟩
theorem after_x {b : Nat → Int} (hb : ∀ x, 0 ≤ b x ∧ b x ≤ 255) {ln : Bool} {z : Int} {TF : Nat → Nat → Int} {cnt : Nat} (hC : Cert b ln z TF cnt) {x ce : Nat} (hx : x < cnt) (hce : x < ce ∧ ce ≤ cnt) (hf1 : ∀ j : Nat, x < j → j < ce → x ≤ TF 1 j) (hf2 : ce < cnt → TF 1 ce < x) : ∀ q, ce ≤ q → q < cnt → tE TF x ≤ TF 3 q - 1 := by
  intro q q1 q2
  have hEk : tE TF x = TF 4 x + TF 5 x := rfl
  by_cases hxh : kHold (TF 0 x) = true
  · have b1 := (begin_fi hb hC hx hxh hce hf1 hf2).1 (by omega)
    by_cases e : q = ce
    · rw [e]; exact b1
    · have := inBox_hd hb hC (q := ce) (k := q) (by omega) q2
      unfold hd at this
      have h5 := (PC_nm hC).2 ce (by omega) (by dsimp only; omega)
      have h6 := (PC_E hC ce (by dsimp only; omega)).2.2.1
      dsimp only at h5 h6
      split at this <;> omega
  · have := inBox_hd hb hC (q := x) (k := q) (by omega) q2
    unfold hd at this
    rw [if_neg hxh] at this
    omega
theorem bk_low {C : Nat → Bool} {pos le va : Nat → Int} {lo : Nat} {y : Nat} : ∀ (m : Nat) (f : Nat → Int), (∀ i, i < m → C (lo + i) = true → (y : Int) < pos (lo + i)) → bk C pos le va lo m f y = f y := by
  intro m
  induction m with
  | zero => intro f _; rfl
  | succ m ih =>
    intro f h
    unfold bk
    rw [ih _ (fun i hi => h i (by omega))]
    cases hc : C (lo + m)
    · rw [if_neg (by decide)]
    · rw [if_pos rfl]
      unfold h0
      rw [if_pos (h m (by omega) hc)]
/-- the program's bytes at the end of drop -/
theorem drop_fin {b B b1 e : Nat → Int} (hb : ∀ x, 0 ≤ b x ∧ b x ≤ 255) (he : ∀ x, 0 ≤ e x ∧ e x ≤ 255) {z : Nat} {T TF : Nat → Nat → Int} {cnt : Nat} (hC : Cert b false z TF cnt) (ha : tAg T TF cnt) {x r : Nat} (x1 : 1 ≤ x) (hx : x < cnt) (hr : TF 1 x = r) {ch : Int} (hch : ch = TF 3 x - 1 - tE TF x) {z1 : Nat} (hz1 : tE TF x ≤ z1) (hzz : (z1 : Int) ≤ z) (hb1 : ∀ y, 0 ≤ b1 y ∧ b1 y < 256) (hB : ∀ y : Nat, y < z1 → b1 y = B y) (hBr : ∀ y, 0 ≤ B y ∧ B y ≤ 255) (hBl : ∀ y : Nat, (y : Int) < TF 3 x - 1 → B y = b y) (hlow : ∀ p, p ≤ r → opn TF (r + 1) r p → tE TF x ≤ tE TF p - 1 + (z1 - z)) :
    (dDs T cnt x = TF 3 x - 1 ∧ dDl T cnt x = -ch) ∧ (∀ y, 0 ≤ dDropB T cnt x z z1 b1 y ∧ dDropB T cnt x z z1 b1 y < 256) ∧ (∀ y : Nat, (y : Int) < z1 + ch → dDropB T cnt x z z1 b1 y = zUp TF (z1 + ch - z) 1000 r (h0 B (TF 3 x - 1) (-ch) e 0) y)
    ∧ (∀ y : Nat, ¬ Fl TF r y → zUp TF (z1 + ch - z) 1000 r (h0 B (TF 3 x - 1) (-ch) e 0) y = h0 B (TF 3 x - 1) (-ch) e 0 y) ∧ ∀ q, q ≤ r → opn TF (r + 1) r q → mLow (zUp TF (z1 + ch - z) 1000 r (h0 B (TF 3 x - 1) (-ch) e 0)) (TF 4 q) 4 = TF 5 q + (z1 + ch - z) := by
  have hxi : (0 : Int) ≤ x ∧ (x : Int) < cnt := ⟨by omega, by omega⟩
  have et : ((x : Int)).toNat = x := by omega
  have c3 := lk_c ha (co := 3) (by decide) hxi
  have c4 := lk_c ha (co := 4) (by decide) hxi
  have c5 := lk_c ha (co := 5) (by decide) hxi
  have cp := lk_c ha (co := 1) (by decide) hxi
  rw [et] at c3 c4 c5 cp
  have hEk : tE TF x = TF 4 x + TF 5 x := rfl
  have hds : dDs T cnt x = TF 3 x - 1 := by unfold dDs; rw [c3]
  have hdl : dDl T cnt x = -ch := by unfold dDl nLast; rw [hds, c4, c5]; omega
  have rx := (hC.2.1 x x1 hx).1
  dsimp only at rx
  have rp := rx.1
  have r3 := rx.2.2.1
  obtain ⟨zw1, zw2, zw3, zw4⟩ := Cert_zw hC
  have hp4 : ∀ q : Nat, q < x → kHold (TF 0 q) = true → TF 4 q + 4 ≤ TF 3 x - 1 := by
    intro q q1 q2
    have := inBox_hd hb hC (q := q) (k := x) q1 hx
    unfold hd at this
    rw [q2, if_pos rfl] at this
    exact this
  rw [hr, show ((r : Int)).toNat = r by omega] at rp
  have hrx : r < x := by omega
  have hr4 := hp4 r hrx rp.2
  have han := anc_ahead hb hC x1 hx hr
  have hd16 := (PC_E hC r (by dsimp only; omega)).2.2.2
  dsimp only at hd16
  have hszc : ((z1 - (-ch).toNat : Nat) : Int) = z1 + ch := by omega
  have q := rz_zUp2 (T := T) (TF := TF) (cnt := cnt) (sz := z1 - (-ch).toNat) (c0 := r + 1) (ch := ((z1 - (-ch).toNat : Nat) : Int) - z) ha (by omega) (fun k hk => ⟨zw1 k (by omega), zw2 k (by omega)⟩) 16 r (bCut b1 z1 (TF 3 x - 1) (-ch)) (h0 B (TF 3 x - 1) (-ch) e 0) (fun _ => ⟨by omega, by rw [show ((r : Int)).toNat = r by omega]; omega⟩) (fun k hk w => by
    have := zw1 k (by omega)
    have := hp4 (TF 1 k).toNat (by omega) (zw4 k (by omega) w)
    omega) (bCut_r hb1 _ _ _) (fun y hy => by
    rw [bCut_v (e := e) (by omega) (by omega) (by omega) y (by omega)]
    exact h0_ag (by omega) (by omega) (by omega) (m := z1) (by omega) (fun y hy => hB y (by omega)) y (by omega))
  have eD : dDropB T cnt x z z1 b1 = rzN T cnt (z1 - (-ch).toNat) (((z1 - (-ch).toNat : Nat) : Int) - z) 16 r (bCut b1 z1 (TF 3 x - 1) (-ch)) := by
    unfold dDropB rzF
    rw [hds, hdl, cp, hr]
    rfl
  have hU := zUp_props hb (ch := z1 + ch - z) hC r (by omega) rp.2 1000 (h0 B (TF 3 x - 1) (-ch) e 0) (by omega) (fun p p1 p2 => by
    obtain ⟨a1, a2, a3, a4, a5, a6⟩ := han p p1 p2
    have hEq : tE TF p = TF 4 p + TF 5 p := rfl
    have hn0 := hC.1.2.2.1
    have hpz := (PC_E hC p (by dsimp only; omega)).1
    dsimp only at hpz
    refine ⟨?_, ?_, by omega⟩
    · have e2 := mLow_sh (f := b) (h := h0 B (TF 3 x - 1) (-ch) e 0) (a := TF 4 p) (d := 0) (w := 4) (by decide) (fun y y1 y2 => by rw [Int.add_zero]; unfold h0; rw [if_pos (by omega)]; exact hBl _ (by omega))
      rw [Int.add_zero] at e2
      rw [e2]
      exact a4
    · have := hlow p p1 p2
      omega)
  refine ⟨⟨hds, hdl⟩, fun y => by rw [eD]; exact q.2 y, fun y hy => ?_, fun y hy => hU.1 y (fun p p1 p2 w => hy ⟨p, p1, p2, w⟩), hU.2⟩
  rw [eD, q.1 y (by omega), hszc]
  rw [zUp_fuel hC 16 1000 r _ (fun _ => ⟨by omega, by rw [show ((r : Int)).toNat = r by omega]; exact rp.2, by rw [show ((r : Int)).toNat = r by omega]; omega, by rw [show ((r : Int)).toNat = r by omega]; omega⟩)]
theorem anc_E {f : Nat → Int} {ln : Bool} {n : Int} {TF : Nat → Nat → Int} {cnt : Nat} (hC : Cert f ln n TF cnt) {r : Nat} (hr : r < cnt) {q : Nat} (q1 : q ≤ r) (q2 : opn TF (r + 1) r q) : tE TF r ≤ tE TF q := by
  have key : ∀ m : Nat, m ≤ r → q ≤ m → tE TF m ≤ tE TF q := by
    intro m
    induction m using Nat.strongRecOn with
    | _ m ihm =>
      intro m1 m2
      by_cases e : m = q
      · subst e; exact Int.le_refl _
      · have rm := hC.2.1 m (by omega) (by dsimp only; omega)
        dsimp only at rm
        have qm : (q : Int) ≤ TF 1 m := q2.2 m (by omega) (by omega)
        have rp := rm.1.1.1
        have := ihm (TF 1 m).toNat (by omega) (by omega) (by omega)
        have := rm.1.2.2.1.2.2.2
        omega
  exact key r (Nat.le_refl r) q1
/-- the program's renumbering in drop, as one -/
theorem drop_rn {b : Nat → Int} (hb : ∀ x, 0 ≤ b x ∧ b x < 256) {z : Nat} {T TF : Nat → Nat → Int} {cnt : Nat} (hC : Cert b false z TF cnt) (ha : tAg T TF cnt) (hc7 : cnt ≤ 700) {x r ce : Nat} (x1 : 1 ≤ x) (hx : x < cnt) (hr : TF 1 x = r) (h4 : TF 0 r = 4) (hce : x < ce ∧ ce ≤ cnt) (hf1 : ∀ j : Nat, x < j → j < ce → x ≤ TF 1 j) (hf2 : ce < cnt → TF 1 ce < x) :
    rnG T cnt r x (nBeh T cnt r - 1) (nCell T cnt 6 r - 1) z ∧ ∃ z1 b1, rnF T cnt r x (nBeh T cnt r - 1) (nCell T cnt 6 r - 1) z b = (z1, b1) ∧ ((z1 : Nat) : Int) = z + bz (fun k => decide (TF 1 k = r)) (dLe TF) (fun k => cC TF r k - 1) ce (cnt - ce) ∧ (∀ y : Nat, y < z1 → b1 y = bk (fun k => decide (TF 1 k = r)) (TF 3) (dLe TF) (fun k => cC TF r k - 1) ce (cnt - ce) b y) ∧ (∀ y, 0 ≤ b1 y ∧ b1 y < 256) ∧ tE TF x ≤ z1 ∧ (z1 : Int) ≤ z ∧ ∀ p, p ≤ r → opn TF (r + 1) r p → tE TF x ≤ tE TF p - 1 + (z1 - z) := by
  have hb5 := rg_255 hb
  have hrc : r < cnt := by have := (hC.2.1 x x1 hx).1.1.1; dsimp only at this; omega
  have hrx : r < x := by have := (hC.2.1 x x1 hx).1.1.1; dsimp only at this; omega
  obtain ⟨fi, f1, f2, f3, f4⟩ := nBeh_s ha hrc
  have hpar : ∀ j : Nat, 1 ≤ j → j < cnt → 0 ≤ TF 1 j ∧ TF 1 j < j := fun j a c => by have := (hC.2.1 j a c).1.1.1; dsimp only at this; exact this
  have hxf : x < fi := by
    by_cases e : x < fi
    · exact e
    · exfalso
      have h1 := f4 (by omega)
      by_cases e2 : fi = x
      · rw [e2] at h1; omega
      · have := (hC.2.1 x x1 hx).2.2.2.2 fi
        dsimp only at this
        have := this (by omega) (by omega)
        omega
  have hcf : ce ≤ fi := by
    by_cases e : ce ≤ fi
    · exact e
    · exfalso
      have := hf1 fi (by omega) (by omega)
      have := f4 (by omega)
      omega
  have hno := noLater hC f2.1 f4
  have hord : ∀ a c : Nat, a < c → c < cnt → TF 4 a ≤ TF 3 c - 1 := by
    intro a c hac hc
    have := inBox_hd hb5 hC hac hc
    unfold hd at this
    have h5 := (PC_E hC a (by dsimp only; omega)).2.2.1
    dsimp only at h5
    split at this <;> omega
  have hri : (0 : Int) ≤ r ∧ (r : Int) < cnt := ⟨by omega, by omega⟩
  have c6 : nCell T cnt 6 r = cC TF r cnt := by
    rw [lk_c ha (by decide) hri, show ((r : Int)).toNat = r by omega]
    exact hC.2.2.2.2.2.1 r hrc
  have hcall : cC TF r cnt = cC TF r fi := by
    have := cC_all (TF := TF) (k := (r : Int)) (fi := fi) (cnt - fi) (fun j a c => by have := hno j a (by omega); omega)
    rw [show fi + (cnt - fi) = cnt by omega] at this
    exact this
  have hbase := rn_bk (T := T) (TF := TF) (cnt := cnt) ha (row := (r : Int)) (x := x) (fi - 1 - x) (nCell T cnt 6 r - 1) z b b (by omega) (by rw [c6, hcall, show x + (fi - 1 - x) + 1 = fi by omega]) (fun k k1 k2 => by
    have hN := (PC_nm hC).2 k (by omega) (by dsimp only; omega)
    dsimp only at hN
    refine ⟨⟨by omega, by omega⟩, fun w => ?_⟩
    have hl := numLen hC (k := k) (by omega) (by omega) w h4
    have := cC_pos (T := TF) (k := (r : Int)) (N := k) (q := x) k1 hr
    have := bDig_mono (a := cC TF r k)
    omega) (fun k k1 k2 => hord k (k + 1) (by omega) (by omega)) (by
    have hN := (PC_nm hC).2 (x + (fi - 1 - x)) (by omega) (by dsimp only; omega)
    dsimp only at hN
    exact Or.inr (by omega)) hc7 hb (fun y hy => rfl)
  have ekN : ((x + (fi - 1 - x) : Nat) : Int) = nBeh T cnt r - 1 := by rw [f1]; omega
  have hs := bk_skip (C := fun k => decide (TF 1 k = r)) (pos := TF 3) (le := dLe TF) (va := fun k => cC TF r k - 1) (ce - (x + 1)) (x + 1) (fi - ce) b (fun i hi => decide_eq_false (fun w => by have := hf1 (x + 1 + i) (by omega) (by omega); omega))
  rw [show ce - (x + 1) + (fi - ce) = fi - 1 - x by omega, show x + 1 + (ce - (x + 1)) = ce by omega] at hs
  have ht := bk_tail (C := fun k => decide (TF 1 k = r)) (pos := TF 3) (le := dLe TF) (va := fun k => cC TF r k - 1) (lo := ce) (m := fi - ce) (f := b) (cnt - fi) (fun i u v => decide_eq_false (fun w => by have := hno (ce + i) (by omega) (by omega); omega))
  rw [show fi - ce + (cnt - fi) = cnt - ce by omega] at ht
  have hNN : (nBeh T cnt r - 1 - (x : Int)).toNat = fi - 1 - x := by omega
  unfold rnG rnF
  rw [hNN, ← ekN]
  refine ⟨hbase.1, _, _, rfl, ?_, ?_, hbase.2.2.2, ?_⟩
  · rw [hbase.2.1, ht.2, ← hs.2]
    rfl
  · intro y hy
    rw [hbase.2.2.1 y hy, ht.1, ← hs.1]
    rfl
  · have hz1 : ((rnN T cnt r (fi - 1 - x) (x + (fi - 1 - x) : Nat) (nCell T cnt 6 r - 1) z b).1 : Int) = z + bz (fun k => decide (TF 1 k = r)) (dLe TF) (fun k => cC TF r k - 1) ce (fi - ce) := by
      rw [hbase.2.1, ← hs.2]
      rfl
    rw [hz1]
    have hneg : ∀ m, ce + m ≤ fi → bz (fun k => decide (TF 1 k = r)) (dLe TF) (fun k => cC TF r k - 1) ce m ≤ 0 := by
      intro m
      induction m with
      | zero => intro _; exact Int.le_refl 0
      | succ m ih =>
        intro hm
        have i := ih (by omega)
        show bz _ _ _ ce m + (if decide (TF 1 (ce + m) = r) = true then bDigits (cC TF r (ce + m) - 1) - dLe TF (ce + m) else 0) ≤ 0
        by_cases w : TF 1 (ce + m) = r
        · rw [decide_eq_true w, if_pos rfl]
          have hl := numLen hC (k := ce + m) (by omega) (by omega) w h4
          have := bDig_mono (a := cC TF r (ce + m))
          have : dLe TF (ce + m) = TF 4 (ce + m) - 1 - TF 3 (ce + m) := rfl
          omega
        · rw [decide_eq_false w, if_neg (by decide)]; omega
    have hn0 := hneg (fi - ce) (by omega)
    have hax := after_x hb5 hC hx hce hf1 hf2
    have hxE := PC_E hC x hx
    dsimp only at hxE
    have rx := (hC.2.1 x x1 hx).1.2.2.1
    dsimp only at rx
    rw [hr, show ((r : Int)).toNat = r by omega] at rx
    have hsub : ∀ m : Nat, r < m → m < fi → tE TF m ≤ tE TF r - 1 := by
      intro m
      induction m using Nat.strongRecOn with
      | _ m ih =>
        intro m1 m2
        have rm := (hC.2.1 m (by omega) (by dsimp only; omega)).1
        dsimp only at rm
        have rp := f3 m m1 m2
        have r1 := rm.1.1
        have r3 := rm.2.2.1
        by_cases e : TF 1 m = r
        · rw [e, show ((r : Int)).toNat = r by omega] at r3
          exact r3.2.2.2
        · have := ih (TF 1 m).toNat (by omega) (by omega) (by omega)
          omega
    have hM : ∀ M : Int, tE TF r - 1 ≤ M → tE TF x ≤ M + bz (fun k => decide (TF 1 k = r)) (dLe TF) (fun k => cC TF r k - 1) ce (fi - ce) := by
      intro M hM
      by_cases e0 : fi = ce
      · rw [show fi - ce = 0 by omega]
        show tE TF x ≤ M + 0
        omega
      · have q := bz_lb (C := fun k => decide (TF 1 k = r)) (T := TF) (va := fun k => cC TF r k - 1) (lo := ce) (M := M) (fi - ce - 1) (fi - ce) (by omega) (fun i hi => by
          have h1 := hsub (ce + i) (by omega) (by omega)
          have h2 := (PC_nm hC).2 (ce + i) (by omega) (by dsimp only; omega)
          have h3 := (PC_E hC (ce + i) (by dsimp only; omega)).2.2.1
          have h4' : tE TF (ce + i) = TF 4 (ce + i) + TF 5 (ce + i) := rfl
          dsimp only at h2 h3
          omega) (fun i hi => hord (ce + i) (ce + (i + 1)) (by omega) (by omega)) 0 (by omega)
        have e2 : bz (fun k => decide (TF 1 k = r)) (dLe TF) (fun k => cC TF r k - 1) ce (fi - ce) = bz (fun k => decide (TF 1 k = r)) (fun k => TF 4 k - 1 - TF 3 k) (fun k => cC TF r k - 1) ce (fi - ce) := rfl
        have h5 := hax ce (Nat.le_refl ce) (by omega)
        have h6 := (PC_nm hC).2 ce (by omega) (by dsimp only; omega)
        dsimp only at h6
        have hdg := bDigits_r (cC TF r ce - 1)
        rw [e2]
        rw [Nat.add_zero] at q
        by_cases w : TF 1 ce = r
        · have e1 : bz (fun k => decide (TF 1 k = r)) (fun k => TF 4 k - 1 - TF 3 k) (fun k => cC TF r k - 1) ce (0 + 1) = 0 + (bDigits (cC TF r ce - 1) - (TF 4 ce - 1 - TF 3 ce)) := by
            show 0 + (if decide (TF 1 (ce + 0) = r) = true then bDigits (cC TF r (ce + 0) - 1) - (TF 4 (ce + 0) - 1 - TF 3 (ce + 0)) else 0) = _
            rw [Nat.add_zero, decide_eq_true w, if_pos rfl]
          rw [e1] at q
          omega
        · have e1 : bz (fun k => decide (TF 1 k = r)) (fun k => TF 4 k - 1 - TF 3 k) (fun k => cC TF r k - 1) ce (0 + 1) = 0 := by
            show 0 + (if decide (TF 1 (ce + 0) = r) = true then bDigits (cC TF r (ce + 0) - 1) - (TF 4 (ce + 0) - 1 - TF 3 (ce + 0)) else 0) = _
            rw [Nat.add_zero, decide_eq_false w, if_neg (by decide)]
            rfl
          rw [e1] at q
          omega
    have hrE := (PC_E hC r (by dsimp only; omega)).1
    dsimp only at hrE
    refine ⟨hM z (by omega), by omega, fun p p1 p2 => ?_⟩
    have := anc_E hC hrc p1 p2
    have := hM (tE TF p - 1) (by omega)
    omega
