/-! PURE 37: drop: the element goes -/
theorem bCut_v {b e : Nat → Int} {sz : Nat} {a n : Int} (ha : 0 ≤ a) (hn : 0 ≤ n) (h : a + n ≤ sz) : ∀ y : Nat, (y : Int) < sz - n → bCut b sz a n y = h0 b a n e 0 y := by
  intro y hy
  unfold bCut va_cpy h0
  by_cases c1 : (y : Int) < a
  · rw [if_neg (by omega), if_pos c1]
  · rw [if_pos (by omega), if_neg c1, if_neg (by omega)]
    congr 1
    omega
theorem bCut_r {b : Nat → Int} (hb : ∀ x, 0 ≤ b x ∧ b x < 256) (sz : Nat) (a n : Int) : ∀ y, 0 ≤ bCut b sz a n y ∧ bCut b sz a n y < 256 := cpy_r hb hb _ _ _
/-- the sizes of what stands open lie ahead of row x -/
theorem anc_ahead {f : Nat → Int} (hf : ∀ x, 0 ≤ f x ∧ f x ≤ 255) {ln : Bool} {n : Int} {TF : Nat → Nat → Int} {cnt : Nat} (hC : Cert f ln n TF cnt) {x r : Nat} (x1 : 1 ≤ x) (hx : x < cnt) (hr : TF 1 x = r) : ∀ q, q ≤ r → opn TF (r + 1) r q → kHold (TF 0 q) = true ∧ 0 ≤ TF 4 q ∧ TF 4 q + 4 ≤ TF 3 x - 1 ∧ mLow f (TF 4 q) 4 = TF 5 q ∧ tE TF x ≤ tE TF q - 1 ∧ TF 5 q ≤ n := by
  intro q q1 q2
  have r1 := (hC.2.1 x x1 hx).1
  dsimp only at r1
  have rp := r1.1
  rw [hr, show ((r : Int)).toNat = r by omega] at rp
  have hqh : kHold (TF 0 q) = true := by
    by_cases e : q = r
    · rw [e]; exact rp.2
    · have := q2.2 (q + 1) (by omega) (by omega)
      have rr := (hC.2.1 (q + 1) (by omega) (by dsimp only; omega)).1.1
      dsimp only at rr
      rw [show (TF 1 (q + 1)).toNat = q by omega] at rr
      exact rr.2
  have hd1 := inBox_hd hf hC (q := q) (k := x) (by omega) hx
  unfold hd at hd1
  rw [hqh, if_pos rfl] at hd1
  obtain ⟨zw1, zw2, zw3, zw4⟩ := Cert_zw hC
  have w := zw3 q (by omega) hqh
  refine ⟨hqh, zw2 q (by omega), hd1, w.2.2.2, ?_, w.2.1⟩
  have key : ∀ m : Nat, m ≤ r → q ≤ m → tE TF m ≤ tE TF q := by
    intro m
    induction m using Nat.strongRecOn with
    | _ m ihm =>
      intro m1 m2
      by_cases e : m = q
      · subst e; exact Int.le_refl _
      · have rm := hC.2.1 m (by omega) (by dsimp only; omega)
        dsimp only at rm
        have qm : (q : Int) ≤ TF 1 m := q2.2 m (by omega) (by omega)
        have rp := rm.1.1.1
        have := ihm (TF 1 m).toNat (by omega) (by omega) (by omega)
        have := rm.1.2.2.1.2.2.2
        omega
  have := key r (Nat.le_refl r) q1
  have r3 := r1.2.2.1
  rw [hr, show ((r : Int)).toNat = r by omega] at r3
  omega
/-- element x cut out of bytes b, and the sizes: right (in ln), and where the rows are then -/
theorem cut_zUp {b e : Nat → Int} (hb : ∀ x, 0 ≤ b x ∧ b x ≤ 255) (he : ∀ x, 0 ≤ e x ∧ e x ≤ 255) {ln : Bool} {z : Int} {TF : Nat → Nat → Int} {cnt : Nat} (hC : Cert b ln z TF cnt) {x r ce : Nat} (x1 : 1 ≤ x) (hx : x < cnt) (hr : TF 1 x = r) (hce : x < ce ∧ ce ≤ cnt) (hf1 : ∀ j : Nat, x < j → j < ce → x ≤ TF 1 j) (hf2 : ce < cnt → TF 1 ce < x) (hln : TF 0 r = 4 → ln = true) {ch : Int} (hch : ch = TF 3 x - 1 - tE TF x) :
    (∀ y : Nat, (∀ q, q ≤ r → opn TF (r + 1) r q → ¬ (TF 4 q ≤ y ∧ (y : Int) < TF 4 q + 4)) → zUp TF ch 1000 r (h0 b (TF 3 x - 1) (-ch) e 0) y = h0 b (TF 3 x - 1) (-ch) e 0 y) ∧ (∀ q, q ≤ r → opn TF (r + 1) r q → mLow (zUp TF ch 1000 r (h0 b (TF 3 x - 1) (-ch) e 0)) (TF 4 q) 4 = TF 5 q + ch)
    ∧ ∃ T1, Cert (zUp TF ch 1000 r (h0 b (TF 3 x - 1) (-ch) e 0)) ln (z + ch) T1 (cnt + 0 - (ce - x)) ∧ sim3 (tE TF x) ch x (ce - x) 0 r (0 - 1) (opn TF (r + 1) r) TF (z, -1, TF, cnt) (z + ch, -1, T1, cnt + 0 - (ce - x)) := by
  have han := anc_ahead hb hC x1 hx hr
  have rx := (hC.2.1 x x1 hx).1
  dsimp only at rx
  have rp := rx.1
  rw [hr, show ((r : Int)).toNat = r by omega] at rp
  have r3 := rx.2.2.1
  have hEE : tE TF x = TF 4 x + TF 5 x := rfl
  have hn0 := hC.1.2.2.1
  have hd16 := (PC_E hC r (by dsimp only; omega)).2.2.2
  dsimp only at hd16
  have hpre0 : ∀ y : Int, 0 ≤ y → y < TF 3 x - 1 → h0 b (TF 3 x - 1) (-ch) e 0 y.toNat = b y.toNat := fun y y1 y2 => by unfold h0; rw [if_pos (by omega)]
  have hU := zUp_props hb (ch := ch) hC r (by omega) rp.2 1000 (h0 b (TF 3 x - 1) (-ch) e 0) (by omega) (fun q q1 q2 => by
    obtain ⟨a1, a2, a3, a4, a5, a6⟩ := han q q1 q2
    have hEq : tE TF q = TF 4 q + TF 5 q := rfl
    refine ⟨?_, by omega, by omega⟩
    have e2 := mLow_sh (f := b) (h := h0 b (TF 3 x - 1) (-ch) e 0) (a := TF 4 q) (d := 0) (w := 4) (by decide) (fun y y1 y2 => by rw [Int.add_zero]; exact hpre0 y (by omega) (by omega))
    rw [Int.add_zero] at e2
    rw [e2]
    exact a4)
  have hUr := zUp_r (TF := TF) (ch := ch) 1000 r _ (h0_r hb he (TF 3 x - 1) (-ch) 0)
  refine ⟨hU.1, hU.2, ?_⟩
  generalize zUp TF ch 1000 r (h0 b (TF 3 x - 1) (-ch) e 0) = h at *
  refine cut_right hb hUr hC x1 hx hr hce hf1 hf2 hch hln (fun y y1 y2 y3 => ?_) hU.2 (fun y y1 y2 => ?_)
  · rw [hU.1 y.toNat (fun q q1 q2 w => y3 q q1 q2 (by omega))]
    exact hpre0 y y1 y2
  · rw [hU.1 (y + ch).toNat (fun q q1 q2 w => by have := (han q q1 q2).2.2.1; omega)]
    unfold h0
    rw [if_neg (by omega), if_neg (by omega)]
    congr 1
    omega
/-- the reference's first step of drop -/
theorem dr0_v {b : Nat → Int} (hb : ∀ x, 0 ≤ b x ∧ b x ≤ 255) {ln : Bool} {z : Int} {TF : Nat → Nat → Int} {cnt : Nat} {W : MS} (hC : Cert b ln z TF cnt) (hL : mLd b z TF cnt W) (h2 : W.f 2 = z) {x r : Nat} (x1 : 1 ≤ x) (hx : x < cnt) (hr : TF 1 x = r) {ch : Int} (hch : ch = TF 3 x - 1 - tE TF x) :
    (∀ y : Nat, (y : Int) < z + ch → (mSplice (W.a 5 x) (W.a 7 x - W.a 5 x) (W.a 4 x) (W.pf 7 0)).a 3 y = zUp TF ch 1000 r (h0 b (TF 3 x - 1) (-ch) (W.a 13) 0) y) ∧ (∀ q, q ≠ 3 → (mSplice (W.a 5 x) (W.a 7 x - W.a 5 x) (W.a 4 x) (W.pf 7 0)).a q = W.a q) ∧ (∀ j, j ≠ 2 → j ≠ 7 → (mSplice (W.a 5 x) (W.a 7 x - W.a 5 x) (W.a 4 x) (W.pf 7 0)).f j = W.f j) ∧ (mSplice (W.a 5 x) (W.a 7 x - W.a 5 x) (W.a 4 x) (W.pf 7 0)).f 2 = z + ch := by
  obtain ⟨zw1, zw2, zw3, zw4⟩ := Cert_zw hC
  obtain ⟨m4, m8, m56, m0, m7⟩ := hL.2.1 x hx
  obtain ⟨m5, m6⟩ := m56 x1
  have rx := (hC.2.1 x x1 hx).1
  dsimp only at rx
  have rp := rx.1
  rw [hr, show ((r : Int)).toNat = r by omega] at rp
  have r3 := rx.2.2.1
  have hEE : tE TF x = TF 4 x + TF 5 x := rfl
  have hE := PC_E hC x hx
  dsimp only at hE
  have hrU : ∀ k : Nat, k < cnt → (W.pf 7 0).a 4 k = TF 1 k ∧ mVal k (W.pf 7 0) = TF 4 k := by
    intro k hk
    refine ⟨(hL.2.1 k hk).1, ?_⟩
    have := lk_val hC hL (x := (k : Int)) ⟨by omega, by omega⟩
    rw [show ((k : Int)).toNat = k by omega] at this
    exact this
  rw [m5, m7, m4, hr, show tE TF x - (TF 3 x - 1) = -ch by omega]
  have hsp := mSplice_v (S := W.pf 7 0) (a := TF 3 x - 1) (gone := -ch) (x := r) (f := b) (n := z) (by omega) (by omega) (by show (0 : Int) ≤ 0; omega) (by show TF 3 x - 1 + -ch ≤ W.f 2; omega) (by omega) zw1 zw2 hrU
  have hs1 := mSp1_v (S := W.pf 7 0) (a := TF 3 x - 1) (gone := -ch) (by omega) (by omega) (by show (0 : Int) ≤ 0; omega) (by show TF 3 x - 1 + -ch ≤ W.f 2; omega)
  have hf7 : (W.pf 7 0).f 7 = 0 := rfl
  have hf2 : (W.pf 7 0).f 2 = z := h2
  rw [hf7, show (0 : Int) - -ch = ch by omega] at hsp hs1
  rw [hf2] at hsp hs1
  refine ⟨fun y hy => ?_, hsp.2.1, fun j j1 j2 => ?_, hsp.2.2.2⟩
  · rw [hsp.1]
    have hp4 : ∀ q : Nat, q < x → kHold (TF 0 q) = true → TF 4 q + 4 ≤ TF 3 x - 1 := by
      intro q q1 q2
      have := inBox_hd hb hC (q := q) (k := x) q1 hx
      unfold hd at this
      rw [q2, if_pos rfl] at this
      exact this
    have hr4 := hp4 r (by omega) rp.2
    refine zUp_ext (cnt := r + 1) (m := z + ch) (fun k hk => zw1 k (by omega)) (fun k hk => zw2 k (by omega)) (fun k hk w => ?_) 1000 r _ _ (fun _ => ⟨by omega, by rw [show ((r : Int)).toNat = r by omega]; omega⟩) (fun y hy => ?_) y hy
    · have := zw1 k (by omega)
      have := hp4 (TF 1 k).toNat (by omega) (zw4 k (by omega) w)
      omega
    · rw [hs1.1 y hy]
      unfold h0
      show (if (y : Int) < TF 3 x - 1 then W.a 3 y else if (y : Int) < TF 3 x - 1 + 0 then W.a 13 (y - (TF 3 x - 1).toNat) else W.a 3 ((y : Int) - 0 + -ch).toNat) = _
      by_cases c1 : (y : Int) < TF 3 x - 1
      · rw [if_pos c1, if_pos c1]; exact hL.1.2.2 y (by omega)
      · rw [if_neg c1, if_neg c1, if_neg (by omega), if_neg (by omega)]; exact hL.1.2.2 _ (by omega)
  · rw [hsp.2.2.1 j j1, pf_f, if_neg j2]
