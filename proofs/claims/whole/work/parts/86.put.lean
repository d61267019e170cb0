/-! PURE 27: numbers put into bytes; sizes upwards -/
def zP (f : Nat → Int) (a v w : Int) : Nat → Int := fun x => if a ≤ x ∧ (x : Int) < a + w then v / 2 ^ (8 * ((x : Int) - a)).toNat % 256 else f x
theorem bPnN_v {sz : Nat} {a v : Int} (h0 : 0 ≤ a) : ∀ (N : Nat) (k : Int) (b : Nat → Int), 0 ≤ k → a + k + N ≤ sz → ∀ x : Nat, bPnN sz a v N k b x = if a + k ≤ x ∧ (x : Int) < a + k + N then v / 2 ^ (8 * ((x : Int) - a)).toNat % 256 else b x := by
  intro N
  induction N with
  | zero => intro k b _ _ x; rw [if_neg (by omega)]; rfl
  | succ N ih =>
    intro k b hk h x
    show bPnN sz a v N (k + 1) (bPut b sz (a + k) (v / 2 ^ (8 * k).toNat)) x = _
    rw [ih (k + 1) _ (by omega) (by omega) x, bPut_in (by omega)]
    unfold va_up
    by_cases e : (x : Int) = a + k
    · rw [if_neg (by omega), if_pos (show x = (a + k).toNat by omega), if_pos (by omega), show (x : Int) - a = k by omega]
    · rw [if_neg (show ¬ x = (a + k).toNat by omega)]
      by_cases e2 : a + (k + 1) ≤ x ∧ (x : Int) < a + (k + 1) + N
      · rw [if_pos e2, if_pos (by omega)]
      · rw [if_neg e2, if_neg (by omega)]
theorem bPn_v {sz : Nat} {a v w : Int} {b : Nat → Int} (h0 : 0 ≤ a) (hw : 0 ≤ w) (h : a + w ≤ sz) : bPn sz a v w 0 b = zP b a v w := by
  funext x
  unfold bPn zP
  rw [bPnN_v h0 _ _ _ (by omega) (by omega)]
  by_cases e : a ≤ x ∧ (x : Int) < a + w
  · rw [if_pos (by omega), if_pos e]
  · rw [if_neg (by omega), if_neg e]
theorem mPlN_v {a v : Int} (h0 : 0 ≤ a) : ∀ (N : Nat) (k : Int) (S : MS), 0 ≤ k → (∀ q, q ≠ 3 → (mPlN a v N k S).a q = S.a q) ∧ (mPlN a v N k S).f = S.f ∧ ∀ x : Nat, (mPlN a v N k S).a 3 x = if a + k ≤ x ∧ (x : Int) < a + k + N then v / 2 ^ (8 * ((x : Int) - a)).toNat % 256 else S.a 3 x := by
  intro N
  induction N with
  | zero => intro k S _; exact ⟨fun _ _ => rfl, rfl, fun x => by rw [if_neg (by omega)]; rfl⟩
  | succ N ih =>
    intro k S hk
    obtain ⟨i1, i2, i3⟩ := ih (k + 1) (S.st 3 (a + k).toNat (v / 2 ^ (8 * k).toNat % 256)) (by omega)
    refine ⟨fun q hq => ?_, ?_, fun x => ?_⟩
    · show (mPlN a v N (k + 1) _).a q = _
      rw [i1 q hq, st_ne hq]
    · exact i2
    · show (mPlN a v N (k + 1) _).a 3 x = _
      rw [i3 x, st_eq]
      by_cases e : (x : Int) = a + k
      · rw [if_neg (by omega), if_pos (show x = (a + k).toNat by omega), if_pos (by omega), show (x : Int) - a = k by omega]
      · rw [if_neg (show ¬ x = (a + k).toNat by omega)]
        by_cases e2 : a + (k + 1) ≤ x ∧ (x : Int) < a + (k + 1) + N
        · rw [if_pos e2, if_pos (by omega)]
        · rw [if_neg e2, if_neg (by omega)]
theorem mPl_v {a v w : Int} {S : MS} (h0 : 0 ≤ a) (hw : 0 ≤ w) : (∀ q, q ≠ 3 → (mPlN a v w.toNat 0 S).a q = S.a q) ∧ (mPlN a v w.toNat 0 S).f = S.f ∧ (mPlN a v w.toNat 0 S).a 3 = zP (S.a 3) a v w := by
  obtain ⟨a1, a2, a3⟩ := mPlN_v (v := v) h0 w.toNat 0 S (by omega)
  refine ⟨a1, a2, funext fun x => ?_⟩
  rw [a3 x]
  unfold zP
  by_cases e : a ≤ x ∧ (x : Int) < a + w
  · rw [if_pos (by omega), if_pos e]
  · rw [if_neg (by omega), if_neg e]
theorem zP_r {f : Nat → Int} (hf : ∀ x, 0 ≤ f x ∧ f x ≤ 255) (a v w : Int) : ∀ x, 0 ≤ zP f a v w x ∧ zP f a v w x ≤ 255 := by
  intro x
  unfold zP
  split
  · omega
  · exact hf x
/-- four bytes are the number -/
theorem zP_low {f : Nat → Int} {a v : Int} (h0 : 0 ≤ a) (hv : 0 ≤ v ∧ v < 4294967296) : mLow (zP f a v 4) a 4 = v := by
  rw [mLow4]
  unfold zP
  have t0 : ((a + 0).toNat : Int) = a := by omega
  have t1 : ((a + 1).toNat : Int) = a + 1 := by omega
  have t2 : ((a + 2).toNat : Int) = a + 2 := by omega
  have t3 : ((a + 3).toNat : Int) = a + 3 := by omega
  rw [t0, t1, t2, t3, if_pos (by omega), if_pos (by omega), if_pos (by omega), if_pos (by omega), show (8 * (a - a)).toNat = 0 by omega, show (8 * (a + 1 - a)).toNat = 8 by omega, show (8 * (a + 2 - a)).toNat = 16 by omega, show (8 * (a + 3 - a)).toNat = 24 by omega]
  have p0 : (2 : Int) ^ 0 = 1 := rfl
  have p8 : (2 : Int) ^ 8 = 256 := rfl
  have p16 : (2 : Int) ^ 16 = 65536 := rfl
  have p24 : (2 : Int) ^ 24 = 16777216 := rfl
  rw [p0, p8, p16, p24]
  omega
/-- the sizes of a box and of all that it stands in, ch more -/
def zUp (TF : Nat → Nat → Int) (ch : Int) : Nat → Int → (Nat → Int) → Nat → Int
  | 0, _, f => f
  | N + 1, ar, f => if ar < 0 then f else zUp TF ch N (TF 1 ar.toNat) (zP f (TF 4 ar.toNat) (mLow f (TF 4 ar.toNat) 4 + ch) 4)
theorem zUp_r {TF : Nat → Nat → Int} {ch : Int} : ∀ (N : Nat) (ar : Int) (f : Nat → Int), (∀ x, 0 ≤ f x ∧ f x ≤ 255) → ∀ x, 0 ≤ zUp TF ch N ar f x ∧ zUp TF ch N ar f x ≤ 255 := by
  intro N
  induction N with
  | zero => intro ar f h; exact h
  | succ N ih =>
    intro ar f h
    unfold zUp
    split
    · exact h
    · exact ih _ _ (zP_r h _ _ _)
/-- rows enough for the way up -/
def zW (TF : Nat → Nat → Int) (cnt : Nat) (n : Int) : Prop := (∀ k : Nat, k < cnt → -1 ≤ TF 1 k ∧ TF 1 k < k) ∧ ∀ k : Nat, k < cnt → 0 ≤ TF 4 k ∧ (kHold (TF 0 k) = true → TF 4 k + 4 ≤ n)
theorem bEx {b f : Nat → Int} {sz : Nat} {a : Int} (hb : ∀ x, 0 ≤ b x ∧ b x < 256) (h : ∀ x : Nat, x < sz → b x = f x) (h0 : 0 ≤ a) (h4 : a + 4 ≤ sz) : bNum b sz a 3 0 = mLow f a 4 := by
  rw [bNum4, mLow4, bGet_in (by omega) (by omega), bGet_in (by omega) (by omega), bGet_in (by omega) (by omega), bGet_in (by omega) (by omega), h _ (by omega), h _ (by omega), h _ (by omega), h _ (by omega)]
  have r3 := hb (a + 3).toNat
  have r2 := hb (a + 2).toNat
  have r1 := hb (a + 1).toNat
  have r0 := hb (a + 0).toNat
  rw [h _ (by omega)] at r3 r2 r1 r0
  rw [Int.emod_eq_of_lt r3.1 r3.2, Int.emod_eq_of_lt r2.1 r2.2, Int.emod_eq_of_lt r1.1 r1.2, Int.emod_eq_of_lt r0.1 r0.2]
theorem rz_zUp {T TF : Nat → Nat → Int} {cnt sz : Nat} {ch : Int} (ha : tAg T TF cnt) (hw : zW TF cnt sz) : ∀ (N : Nat) (ar : Int) (b f : Nat → Int), (0 ≤ ar → ar < cnt ∧ kHold (TF 0 ar.toNat) = true) → (∀ k : Nat, k < cnt → 0 ≤ TF 1 k → kHold (TF 0 (TF 1 k).toNat) = true) → (∀ x, 0 ≤ b x ∧ b x < 256) → (∀ x : Nat, x < sz → b x = f x) → (∀ x : Nat, x < sz → rzN T cnt sz ch N ar b x = zUp TF ch N ar f x) ∧ ∀ x, 0 ≤ rzN T cnt sz ch N ar b x ∧ rzN T cnt sz ch N ar b x < 256 := by
  intro N
  induction N with
  | zero => intro ar b f _ _ h1 h2; exact ⟨h2, h1⟩
  | succ N ih =>
    intro ar b f har hpar h1 h2
    unfold rzN zUp
    by_cases e : 0 ≤ ar
    · have q := har e
      have w4 := hw.2 ar.toNat (by omega)
      have w1 := hw.1 ar.toNat (by omega)
      have w5 := w4.2 q.2
      rw [if_pos e, if_neg (by omega), lk_c ha (by decide) ⟨e, q.1⟩, lk_c ha (by decide) ⟨e, q.1⟩, bPn_v (by omega) (by omega) (by omega), bEx h1 h2 w4.1 w5]
      refine ih _ _ _ (fun w => ⟨by omega, hpar ar.toNat (by omega) w⟩) hpar (fun x => ?_) (fun x hx => ?_)
      · have := zP_r (rg_255 h1) (TF 4 ar.toNat) (mLow f (TF 4 ar.toNat) 4 + ch) 4 x
        omega
      · unfold zP
        rw [h2 x hx]
    · rw [if_neg e, if_pos (by omega)]
      exact ⟨h2, h1⟩
theorem mUp_zUp {TF : Nat → Nat → Int} {cnt : Nat} {ch : Int} (hw : ∀ k : Nat, k < cnt → -1 ≤ TF 1 k ∧ TF 1 k < k) (hw4 : ∀ k : Nat, k < cnt → 0 ≤ TF 4 k) : ∀ (N : Nat) (ar : Int) (S : MS), (0 ≤ ar → ar < cnt) → (∀ k : Nat, k < cnt → S.a 4 k = TF 1 k ∧ mVal k S = TF 4 k) → (mUpN ch N ar S).a 3 = zUp TF ch N ar (S.a 3) ∧ (∀ q, q ≠ 3 → (mUpN ch N ar S).a q = S.a q) ∧ (mUpN ch N ar S).f = S.f := by
  intro N
  induction N with
  | zero => intro ar S _ _; exact ⟨rfl, fun _ _ => rfl, rfl⟩
  | succ N ih =>
    intro ar S har hr
    unfold mUpN zUp
    by_cases e : ar < 0
    · rw [if_pos e, if_pos e]
      exact ⟨rfl, fun _ _ => rfl, rfl⟩
    · rw [if_neg e, if_neg e]
      have q := har (by omega)
      obtain ⟨r1, r2⟩ := hr ar.toNat (by omega)
      rw [show ((ar.toNat : Nat) : Int) = ar by omega] at r2
      rw [r2]
      have hp := mPl_v (a := TF 4 ar.toNat) (v := mLow (S.a 3) (TF 4 ar.toNat) 4 + ch) (w := 4) (S := S) (hw4 ar.toNat (by omega)) (by decide)
      have hpe : mPl (TF 4 ar.toNat) (mLow (S.a 3) (TF 4 ar.toNat) 4 + ch) S = mPlN (TF 4 ar.toNat) (mLow (S.a 3) (TF 4 ar.toNat) 4 + ch) (4 : Int).toNat 0 S := rfl
      rw [hpe]
      generalize mPlN (TF 4 ar.toNat) (mLow (S.a 3) (TF 4 ar.toNat) 4 + ch) (4 : Int).toNat 0 S = S1 at *
      rw [hp.1 4 (by decide), r1]
      have w1 := hw ar.toNat (by omega)
      obtain ⟨i1, i2, i3⟩ := ih (TF 1 ar.toNat) S1 (fun w => by omega) (fun k hk => by
        refine ⟨by rw [hp.1 4 (by decide)]; exact (hr k hk).1, ?_⟩
        have := (hr k hk).2
        unfold mVal at this ⊢
        rw [hp.1 6 (by decide)]
        exact this)
      refine ⟨by rw [i1, hp.2.2], fun q hq => by rw [i2 q hq, hp.1 q hq], by rw [i3, hp.2.1]⟩
theorem zUp_neg {TF : Nat → Nat → Int} {ch : Int} {N : Nat} {ar : Int} {f : Nat → Int} (h : ar < 0) : zUp TF ch N ar f = f := by
  cases N with
  | zero => rfl
  | succ N => exact if_pos h
theorem Cert_dep {f : Nat → Int} {ln : Bool} {n : Int} {TF : Nat → Nat → Int} {cnt : Nat} (hC : Cert f ln n TF cnt) : ∀ {k : Nat}, k < cnt → bI (kHold (TF 0 k)) ≤ TF 2 k := by
  intro k
  induction k using Nat.strongRecOn with
  | _ k ih =>
    intro hk
    by_cases e : k = 0
    · subst e
      have z := hC.1.2.1
      dsimp only at z
      have := bI_r (kHold (TF 0 0))
      omega
    · have r := (hC.2.1 k (by omega) hk).1
      dsimp only at r
      have r1 := r.1.1
      have := ih (TF 1 k).toNat (by omega) (by omega)
      have := bI_r (kHold (TF 0 (TF 1 k).toNat))
      have := r.2.2.2.2.2.1
      omega
/-- the way up is as long as the box is deep -/
theorem zUp_fuel {f0 : Nat → Int} {ln : Bool} {n : Int} {TF : Nat → Nat → Int} {cnt : Nat} {ch : Int} (hC : Cert f0 ln n TF cnt) : ∀ (N M : Nat) (ar : Int) (f : Nat → Int), (0 ≤ ar → ar < cnt ∧ kHold (TF 0 ar.toNat) = true ∧ TF 2 ar.toNat ≤ N ∧ TF 2 ar.toNat ≤ M) → zUp TF ch N ar f = zUp TF ch M ar f := by
  intro N
  induction N with
  | zero =>
    intro M ar f h
    by_cases e : ar < 0
    · rw [zUp_neg e, zUp_neg e]
    · obtain ⟨h1, h2, h3, h4⟩ := h (by omega)
      have hd := Cert_dep hC (k := ar.toNat) (by omega)
      rw [h2] at hd
      have : bI true = 1 := rfl
      omega
  | succ N ih =>
    intro M ar f h
    by_cases e : ar < 0
    · rw [zUp_neg e, zUp_neg e]
    · obtain ⟨h1, h2, h3, h4⟩ := h (by omega)
      have hd := Cert_dep hC (k := ar.toNat) (by omega)
      rw [h2] at hd
      have hb : bI true = 1 := rfl
      obtain ⟨M1, rfl⟩ : ∃ M1, M = M1 + 1 := ⟨M - 1, by omega⟩
      unfold zUp
      rw [if_neg e, if_neg e]
      refine ih M1 _ _ (fun w => ?_)
      by_cases e0 : ar.toNat = 0
      · rw [e0] at w
        have := hC.1.2.1.2.1
        dsimp only at this
        omega
      · have r := (hC.2.1 ar.toNat (by omega) (by dsimp only; omega)).1
        dsimp only at r
        have r6 := r.2.2.2.2.2.1
        rw [h2] at r6
        exact ⟨by have := r.1.1; omega, r.1.2, by omega, by omega⟩
