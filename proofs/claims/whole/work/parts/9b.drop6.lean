/-! PURE 42: the start of that loop -/
theorem bk_tail {C : Nat → Bool} {pos le va : Nat → Int} {lo m : Nat} {f : Nat → Int} : ∀ (a : Nat), (∀ i, m ≤ i → i < m + a → C (lo + i) = false) → bk C pos le va lo (m + a) f = bk C pos le va lo m f ∧ bz C le va lo (m + a) = bz C le va lo m := by
  intro a
  induction a with
  | zero => intro _; exact ⟨rfl, rfl⟩
  | succ a ih =>
    intro h
    have h1 := h (m + a) (by omega) (by omega)
    obtain ⟨i1, i2⟩ := ih (fun i u v => h i u (by omega))
    refine ⟨?_, ?_⟩
    · show bk C pos le va lo (m + a) (if C (lo + (m + a)) = true then _ else f) = _
      rw [h1, if_neg (by decide)]
      exact i1
    · show bz C le va lo (m + a) + (if C (lo + (m + a)) = true then _ else 0) = _
      rw [h1, if_neg (by decide), Int.add_zero]
      exact i2
theorem bDig_mono {a : Int} : bDigits (a - 1) ≤ bDigits a := by
  unfold bDigits
  split <;> split <;> (try split) <;> (try split) <;> (try split) <;> (try split) <;> omega
/-- children of a row: their numbers' digits are their names -/
theorem numLen {f : Nat → Int} {n : Int} {TF : Nat → Nat → Int} {cnt : Nat} (hC : Cert f false n TF cnt) {k r : Nat} (k1 : 1 ≤ k) (hk : k < cnt) (hr : TF 1 k = r) (h4 : TF 0 r = 4) : TF 4 k - 1 - TF 3 k = bDigits (cC TF r k) ∧ mNum f (TF 3 k) (TF 4 k - 1) (cC TF r k) = true := by
  have m := (hC.2.1 k k1 hk).2.2.2.1
  dsimp only at m
  unfold pcM at m
  rw [hr, show ((r : Int)).toNat = r by omega] at m
  rcases m h4 with w | w
  · cases w
  · refine ⟨?_, w⟩
    unfold mNum at w
    by_cases e : TF 4 k - 1 - TF 3 k = bDigits (cC TF r k)
    · exact e
    · rw [if_pos e] at w; cases w
/-- counting over a cut -/
theorem cC_cut {TF T0 : Nat → Nat → Int} {x ce r : Nat} {p p0 : Int} (hlo : ∀ k, k < x → (T0 1 k = p0 ↔ TF 1 k = p)) (hx : TF 1 x = r) (hce : x < ce) (hmid : ∀ j, x < j → j < ce → ¬ TF 1 j = p) {c : Nat} (hhi : ∀ k, ce ≤ k → k < c → (T0 1 (k - (ce - x)) = p0 ↔ TF 1 k = p)) : ∀ (m : Nat), ce + m ≤ c → cC T0 p0 (x + m) = cC TF p (ce + m) - (if p = r then 1 else 0) := by
  have hA : ∀ k, k ≤ x → cC T0 p0 k = cC TF p k := by
    intro k
    induction k with
    | zero => intro _; rfl
    | succ k ih =>
      intro hk
      show cC T0 p0 k + (if T0 1 k = p0 then 1 else 0) = cC TF p k + (if TF 1 k = p then 1 else 0)
      rw [ih (by omega)]
      by_cases e : TF 1 k = p
      · rw [if_pos e, if_pos ((hlo k (by omega)).mpr e)]
      · rw [if_neg e, if_neg (fun w => e ((hlo k (by omega)).mp w))]
  intro m
  induction m with
  | zero =>
    intro _
    rw [Nat.add_zero, Nat.add_zero, hA x (Nat.le_refl x)]
    have e1 := cC_seg (T := TF) (k := p) (a := x + 1) (m := ce - (x + 1)) (fun j u v => hmid j (by omega) (by omega))
    rw [show x + 1 + (ce - (x + 1)) = ce by omega] at e1
    have e2 : cC TF p (x + 1) = cC TF p x + (if TF 1 x = p then 1 else 0) := rfl
    rw [e1, e2, hx]
    by_cases e : p = r
    · rw [if_pos e, if_pos e.symm]; omega
    · rw [if_neg e, if_neg (fun w => e w.symm)]; omega
  | succ m ih =>
    intro hm
    show cC T0 p0 (x + m) + (if T0 1 (x + m) = p0 then 1 else 0) = cC TF p (ce + m) + (if TF 1 (ce + m) = p then 1 else 0) - _
    rw [ih (by omega)]
    have q := hhi (ce + m) (by omega) (by omega)
    rw [show ce + m - (ce - x) = x + m by omega] at q
    by_cases e : TF 1 (ce + m) = p
    · rw [if_pos e, if_pos (q.mpr e)]; omega
    · rw [if_neg e, if_neg (fun w => e (q.mp w))]; omega
theorem ds_start {b e f0 : Nat → Int} (hb : ∀ x, 0 ≤ b x ∧ b x ≤ 255) (he : ∀ x, 0 ≤ e x ∧ e x ≤ 255) (hf0 : ∀ x, 0 ≤ f0 x ∧ f0 x ≤ 255) {z : Int} {TF : Nat → Nat → Int} {cnt : Nat} (hC : Cert b false z TF cnt) {x r ce : Nat} (x1 : 1 ≤ x) (hx : x < cnt) (hr : TF 1 x = r) (h4 : TF 0 r = 4) (hce : x < ce ∧ ce ≤ cnt) (hf1 : ∀ j : Nat, x < j → j < ce → x ≤ TF 1 j) (hf2 : ce < cnt → TF 1 ce < x) {ch : Int} (hch : ch = TF 3 x - 1 - tE TF x)
    (h0e : ∀ y : Nat, (y : Int) < z + ch → f0 y = zUp TF ch 1000 r (h0 b (TF 3 x - 1) (-ch) e 0) y) :
    ∃ Tc, DS TF r (TF 3 x - 1) z (z + ch + bz (fun k => decide (TF 1 k = r)) (dLe TF) (fun k => cC TF r k - 1) ce (cnt - ce)) (h0 (bk (fun k => decide (TF 1 k = r)) (TF 3) (dLe TF) (fun k => cC TF r k - 1) ce (cnt - ce) b) (TF 3 x - 1) (-ch) e 0) (cnt + 0 - (ce - x)) (cC TF r x) f0 (z + ch) Tc := by
  have hCt := Cert_ln hC
  obtain ⟨hU1, hU2, T1, w1, w2⟩ := cut_zUp hb he hCt x1 hx hr hce hf1 hf2 (fun _ => rfl) hch
  have han := anc_ahead hb hC x1 hx hr
  have hUr := zUp_r (TF := TF) (ch := ch) 1000 r _ (h0_r hb he (TF 3 x - 1) (-ch) 0)
  generalize zUp TF ch 1000 r (h0 b (TF 3 x - 1) (-ch) e 0) = h at *
  obtain ⟨T0, x1c, x2c⟩ := Cert_ext hUr hf0 w1 h0e
  obtain ⟨_, wA, wB, _⟩ := w2
  dsimp only at wA wB
  have rx := (hC.2.1 x x1 hx).1
  dsimp only at rx
  have rp := rx.1.1
  have r3 := rx.2.2.1
  have hEk : tE TF x = TF 4 x + TF 5 x := rfl
  have hEn := PC_E hC x hx
  dsimp only at hEn
  have hrx : r < x := by omega
  have hpar : ∀ j : Nat, 1 ≤ j → j < cnt → 0 ≤ TF 1 j ∧ TF 1 j < j := fun j a c => by have := (hC.2.1 j a c).1.1.1; dsimp only at this; exact this
  have h10 : TF 1 0 = -1 := hC.1.2.1.2.1
  have tabA : ∀ q, q < x → T0 0 q = TF 0 q ∧ T0 1 q = TF 1 q ∧ T0 3 q = TF 3 q ∧ T0 4 q = TF 4 q := by
    intro q hq
    have a := (wA q hq).1
    rw [x2c 0 q (by omega) (by decide), x2c 1 q (by omega) (by decide), x2c 3 q (by omega) (by decide), x2c 4 q (by omega) (by decide), a 0 (by decide), a 1 (by decide), a 3 (by decide), a 4 (by decide)]
    exact ⟨rfl, rfl, rfl, rfl⟩
  have tabB : ∀ q, ce ≤ q → q < cnt → T0 0 (q - (ce - x)) = TF 0 q ∧ T0 1 (q - (ce - x)) = rho x (ce - x) 0 (TF 1 q) ∧ T0 3 (q - (ce - x)) = TF 3 q + ch ∧ T0 4 (q - (ce - x)) = TF 4 q + ch ∧ (TF 1 q < x ∨ ce ≤ TF 1 q) := by
    intro q q1 q2
    obtain ⟨⟨b0, _⟩, b1, ⟨b3, b4⟩, _, b8, _⟩ := wB q (by omega) q2
    rw [Nat.add_zero] at b0 b1 b3 b4
    rw [x2c 0 _ (by omega) (by decide), x2c 1 _ (by omega) (by decide), x2c 3 _ (by omega) (by decide), x2c 4 _ (by omega) (by decide)]
    exact ⟨b0, b1, b3, b4, by omega⟩
  have hrho : ∀ p : Int, (p < x ∨ ce ≤ p) → (p < x → rho x (ce - x) 0 p = p) ∧ (ce ≤ p → rho x (ce - x) 0 p = p - (ce - x)) := by
    intro p hp
    unfold rho
    refine ⟨fun w => by rw [if_pos w], fun w => by rw [if_neg (by omega)]; omega⟩
  have hcnt : ∀ p : Int, (p < x ∨ ce ≤ p) → ∀ m, ce + m ≤ cnt → cC T0 (rho x (ce - x) 0 p) (x + m) = cC TF p (ce + m) - (if p = r then 1 else 0) := by
    intro p hp
    refine cC_cut (c := cnt) (fun k hk => ?_) hr hce.1 (fun j j1 j2 w => ?_) (fun k k1 k2 => ?_)
    · rw [(tabA k hk).2.1]
      have hk1 : TF 1 k < x := by
        by_cases e : k = 0
        · subst e; omega
        · have := hpar k (by omega) (by omega); omega
      rcases hp with w | w
      · rw [(hrho p (Or.inl w)).1 w]
      · rw [(hrho p (Or.inr w)).2 w]; omega
    · have := hf1 j j1 j2
      have := hpar j (by omega) (by omega)
      omega
    · obtain ⟨_, t1, _, _, t8⟩ := tabB k k1 k2
      rw [t1]
      refine ⟨fun w => rho_inj (by omega) (by omega) w, fun w => by rw [w]⟩
  have hcr : ∀ m, ce + m ≤ cnt → cC T0 r (x + m) = cC TF r (ce + m) - 1 := by
    intro m hm
    have := hcnt r (Or.inl (by omega)) m hm
    rw [(hrho r (Or.inl (by omega))).1 (by omega), if_pos rfl] at this
    exact this
  have hcA : ∀ (p : Int) (k : Nat), k ≤ x → cC T0 p k = cC TF p k := fun p k hk => cC_ext (fun y hy => (tabA y (by omega)).2.1)
  have hbeg : ∀ q, ce ≤ q → q < cnt → tE TF x ≤ TF 3 q - 1 := by
    intro q q1 q2
    by_cases hxh : kHold (TF 0 x) = true
    · have b1 := (begin_fi hb hC hx hxh hce hf1 hf2).1 (by omega)
      by_cases e : q = ce
      · rw [e]; exact b1
      · have := inBox_hd hb hC (q := ce) (k := q) (by omega) q2
        unfold hd at this
        have h5 := (PC_nm hC).2 ce (by omega) (by dsimp only; omega)
        have h6 := (PC_E hC ce (by dsimp only; omega)).2.2.1
        dsimp only at h5 h6
        split at this <;> omega
    · have := inBox_hd hb hC (q := x) (k := q) (by omega) q2
      unfold hd at this
      rw [if_neg hxh] at this
      omega
  have hnm : ∀ q, 1 ≤ q → q < cnt → ∀ y : Int, TF 3 q ≤ y → y < TF 4 q - 1 → ∀ p, p ≤ r → opn TF (r + 1) r p → ¬ (TF 4 p ≤ y ∧ y < TF 4 p + 4) := by
    intro q q1 q2 y y1 y2 p p1 p2 w
    obtain ⟨a1, _⟩ := han p p1 p2
    by_cases e1 : p < q
    · have := inBox_hd hb hC e1 q2
      unfold hd at this
      rw [a1, if_pos rfl] at this
      omega
    · by_cases e2 : p = q
      · subst e2; omega
      · have := inBox_hd hb hC (q := q) (k := p) (by omega) (by omega)
        unfold hd at this
        have h6 := (PC_E hC q (by dsimp only; omega)).2.2.1
        have h7 := (PC_nm hC).2 p (by omega) (by dsimp only; omega)
        dsimp only at h6 h7
        split at this <;> omega
  refine ⟨T0, x1c, ⟨by omega, by rw [(tabA r hrx).1]; exact h4, fun q hq => ⟨(tabA q (by omega)).2.1, (tabA q (by omega)).2.2.2⟩⟩, fun q q1 q2 => ⟨?_, (han q q1 q2).2.2.1⟩, fun k k2 k3 k4 => ?_, fun k k1 k2 k3 k4 => ?_, ?_⟩
  · rw [x2c 5 q (by omega) (by decide), (wA q (by omega)).2.1 q2]
    omega
  · have hkx : x ≤ k := by
      by_cases e : x ≤ k
      · exact e
      · exfalso
        rw [hcA r k (by omega)] at k4
        rw [(tabA k (by omega)).2.1] at k3
        have m := cC_mono (T := TF) (k := (r : Int)) (a := k + 1) (x - (k + 1))
        rw [show k + 1 + (x - (k + 1)) = x by omega] at m
        have e1 : cC TF r (k + 1) = cC TF r k + (if TF 1 k = r then 1 else 0) := rfl
        rw [if_pos k3] at e1
        omega
    obtain ⟨t0, t1, t3, t4, t8⟩ := tabB (k + (ce - x)) (by omega) (by omega)
    rw [show k + (ce - x) - (ce - x) = k by omega] at t0 t1 t3 t4
    have hp : TF 1 (k + (ce - x)) = r := by
      rw [t1] at k3
      refine rho_inj (fi := x) (mo := ce - x) (mn := 0) (by omega) (by omega) ?_
      rw [k3, (hrho r (Or.inl (by omega))).1 (by omega)]
    have hl := numLen hC (k := k + (ce - x)) (by omega) (by omega) hp h4
    have hck := hcr (k - x) (by omega)
    rw [show x + (k - x) = k by omega, show ce + (k - x) = k + (ce - x) by omega] at hck
    have := hbeg (k + (ce - x)) (by omega) (by omega)
    have hmm := bDig_mono (a := cC TF r (k + (ce - x)))
    rw [t3, t4, hck]
    exact ⟨by omega, by omega⟩
  · by_cases hkx : k < x
    · obtain ⟨t0, t1, t3, t4⟩ := tabA k hkx
      have hpk := hpar k k1 (by omega)
      rw [t1] at k3 ⊢
      rw [(tabA (TF 1 k).toNat (by omega)).1] at k3
      rw [t3, t4, hcA _ k (by omega)]
      have hl := numLen hC (k := k) (r := (TF 1 k).toNat) k1 (by omega) (by omega) k3
      rw [show (((TF 1 k).toNat : Nat) : Int) = TF 1 k by omega] at hl
      have hNq := (PC_nm hC).2 k k1 (by dsimp only; omega)
      dsimp only at hNq
      have hlt := inBox_hd hb hC (q := k) (k := x) hkx hx
      unfold hd at hlt
      have h5 := (PC_E hC k (by dsimp only; omega)).2.2.1
      dsimp only at h5
      have hlt2 : TF 4 k ≤ TF 3 x - 1 := by split at hlt <;> omega
      have es := mNum_sh (f := b) (h := f0) (a := TF 3 k) (to := TF 4 k - 1) (d := 0) (v := cC TF (TF 1 k) k) (fun y y1 y2 => by
        rw [Int.add_zero, h0e _ (by omega), hU1 y.toNat (fun p p1 p2 w => hnm k k1 (by omega) y y1 y2 p p1 p2 (by omega))]
        unfold h0
        rw [if_pos (by omega)])
      rw [Int.add_zero, Int.add_zero] at es
      rw [es]
      exact hl.2
    · obtain ⟨t0, t1, t3, t4, t8⟩ := tabB (k + (ce - x)) (by omega) (by omega)
      rw [show k + (ce - x) - (ce - x) = k by omega] at t0 t1 t3 t4
      have hq := hpar (k + (ce - x)) (by omega) (by omega)
      have hnr : ¬ TF 1 (k + (ce - x)) = r := by
        intro w
        have hk3 : T0 1 k = r := by rw [t1, w]; exact (hrho r (Or.inl (by omega))).1 (by omega)
        have := k4 hk3
        have hck := hcr (k - x) (by omega)
        rw [show x + (k - x) = k by omega, show ce + (k - x) = k + (ce - x) by omega] at hck
        have m := cC_mono (T := TF) (k := (r : Int)) (a := x + 1) (k + (ce - x) - (x + 1))
        rw [show x + 1 + (k + (ce - x) - (x + 1)) = k + (ce - x) by omega] at m
        have e1 : cC TF r (x + 1) = cC TF r x + (if TF 1 x = r then 1 else 0) := rfl
        rw [if_pos hr] at e1
        omega
      have hkd : T0 0 (T0 1 k).toNat = TF 0 (TF 1 (k + (ce - x))).toNat := by
        rw [t1]
        by_cases w : TF 1 (k + (ce - x)) < x
        · rw [(hrho _ t8).1 w]
          exact (tabA _ (by omega)).1
        · rw [(hrho _ t8).2 (by omega)]
          have := (tabB (TF 1 (k + (ce - x))).toNat (by omega) (by omega)).1
          rw [show (TF 1 (k + (ce - x))).toNat - (ce - x) = (TF 1 (k + (ce - x)) - ((ce : Int) - x)).toNat by omega] at this
          rw [show TF 1 (k + (ce - x)) - (ce - x : Int) = TF 1 (k + (ce - x)) - ((ce : Int) - x) by omega]
          exact this
      rw [hkd] at k3
      have hl := numLen hC (k := k + (ce - x)) (r := (TF 1 (k + (ce - x))).toNat) (by omega) (by omega) (by omega) k3
      rw [show (((TF 1 (k + (ce - x))).toNat : Nat) : Int) = TF 1 (k + (ce - x)) by omega] at hl
      have hck := hcnt (TF 1 (k + (ce - x))) t8 (k - x) (by omega)
      rw [if_neg hnr, Int.sub_zero, show x + (k - x) = k by omega, show ce + (k - x) = k + (ce - x) by omega, ← t1] at hck
      have hNq := (PC_nm hC).2 (k + (ce - x)) (by omega) (by dsimp only; omega)
      dsimp only at hNq
      have hbq := hbeg (k + (ce - x)) (by omega) (by omega)
      rw [t3, t4, hck]
      have es := mNum_sh (f := b) (h := f0) (a := TF 3 (k + (ce - x))) (to := TF 4 (k + (ce - x)) - 1) (d := ch) (v := cC TF (TF 1 (k + (ce - x))) (k + (ce - x))) (fun y y1 y2 => by
        rw [h0e _ (by omega), hU1 (y + ch).toNat (fun p p1 p2 w => by have := (han p p1 p2).2.2.1; omega)]
        unfold h0
        rw [if_neg (by omega), if_neg (by omega)]
        congr 1
        omega)
      rw [show TF 4 (k + (ce - x)) + ch - 1 = TF 4 (k + (ce - x)) - 1 + ch by omega, es]
      exact hl.2
  · have hCx : ∀ i, i < x → dC T0 r (cC TF r x) (0 + i) = false := by
      intro i hi
      rw [Nat.zero_add]
      refine decide_eq_false (fun w => ?_)
      rw [hcA r i (by omega), (tabA i hi).2.1] at w
      have m := cC_mono (T := TF) (k := (r : Int)) (a := i + 1) (x - (i + 1))
      rw [show i + 1 + (x - (i + 1)) = x by omega] at m
      have e1 : cC TF r (i + 1) = cC TF r i + (if TF 1 i = r then 1 else 0) := rfl
      rw [if_pos w.1] at e1
      omega
    have s1 := bk_skip (C := dC T0 r (cC TF r x)) (pos := T0 3) (le := dLe T0) (va := fun k => cC T0 r k) x 0 (cnt - ce) f0 hCx
    rw [show x + (cnt - ce) = cnt + 0 - (ce - x) by omega, Nat.zero_add] at s1
    have hfn := bk_fn (C := fun k => decide (TF 1 k = r)) (C2 := dC T0 r (cC TF r x)) (pos := fun k => TF 3 k + 0 - -ch) (pos2 := T0 3) (le := dLe TF) (le2 := dLe T0) (va := fun k => cC TF r k - 1) (va2 := fun k => cC T0 r k) (lo := ce) (lo2 := x) (cnt - ce) (h0 b (TF 3 x - 1) (-ch) e 0) (fun i hi => by
      obtain ⟨t0, t1, t3, t4, t8⟩ := tabB (ce + i) (by omega) (by omega)
      rw [show ce + i - (ce - x) = x + i by omega] at t0 t1 t3 t4
      have hck := hcr i (by omega)
      refine ⟨?_, fun _ => ⟨by rw [t3]; omega, by unfold dLe; rw [t3, t4]; omega, by rw [hck]⟩⟩
      unfold dC
      by_cases w : TF 1 (ce + i) = r
      · have m := cC_mono (T := TF) (k := (r : Int)) (a := x + 1) (ce + i - (x + 1))
        rw [show x + 1 + (ce + i - (x + 1)) = ce + i by omega] at m
        have e1 : cC TF r (x + 1) = cC TF r x + (if TF 1 x = r then 1 else 0) := rfl
        rw [if_pos hr] at e1
        rw [decide_eq_true w, decide_eq_true ⟨by rw [t1, w]; exact (hrho r (Or.inl (by omega))).1 (by omega), by omega⟩]
      · rw [decide_eq_false w, decide_eq_false (fun q => w (by
          refine rho_inj (fi := x) (mo := ce - x) (mn := 0) (by omega) (by omega) ?_
          rw [← t1, q.1, (hrho r (Or.inl (by omega))).1 (by omega)]))])
    have hcomm := bk_comm (C := fun k => decide (TF 1 k = r)) (pos := TF 3) (le := dLe TF) (va := fun k => cC TF r k - 1) (lo := ce) (e := e) (p := TF 3 x - 1) (L := -ch) (N := 0) (by omega) (by omega) (by omega) (cnt - ce) b (fun i hi w => by
      have a := hbeg (ce + i) (by omega) (by omega)
      have c := (PC_nm hC).2 (ce + i) (by omega) (by dsimp only; omega)
      dsimp only at c
      have : dLe TF (ce + i) = TF 4 (ce + i) - 1 - TF 3 (ce + i) := rfl
      omega)
    refine ⟨by rw [s1.2, ← hfn.2], fun y y1 y2 => ?_⟩
    rw [s1.1, hcomm, hfn.1]
    have hn0 := PC_nm x1c
    dsimp only at hn0
    refine bk_out (Fl := Fl TF r) (P := TF 3 x - 1) (by omega) (fun y w => by obtain ⟨q, q1, q2, q3, q4⟩ := w; have := (han q q1 q2).2.2.1; omega) (cnt - ce) (z + ch) _ _ (fun i hi w => ?_) (fun i hi w => ?_) (fun y y1 y2 => ?_) y y1 (by rw [← hfn.2]; omega)
    · obtain ⟨t0, t1, t3, t4, t8⟩ := tabB (ce + i) (by omega) (by omega)
      rw [show ce + i - (ce - x) = x + i by omega] at t3 t4
      have a := hbeg (ce + i) (by omega) (by omega)
      have c := hn0.2 (x + i) (by omega) (by omega)
      have : dLe T0 (x + i) = T0 4 (x + i) - 1 - T0 3 (x + i) := rfl
      omega
    · have bb := bz_lb (C := dC T0 r (cC TF r x)) (T := T0) (va := fun k => cC T0 r k) (lo := x) (M := z + ch) (cnt - ce - i - 1) (cnt - ce) (by omega) (fun i hi => by have := hn0.2 (x + i) (by omega) (by omega); omega) (fun i hi => by
        obtain ⟨_, _, _, t4, _⟩ := tabB (ce + i) (by omega) (by omega)
        obtain ⟨_, _, t3, _, _⟩ := tabB (ce + (i + 1)) (by omega) (by omega)
        rw [show ce + i - (ce - x) = x + i by omega] at t4
        rw [show ce + (i + 1) - (ce - x) = x + (i + 1) by omega] at t3
        have := inBox_hd hb hC (q := ce + i) (k := ce + (i + 1)) (by omega) (by omega)
        unfold hd at this
        have h6 := (PC_E hC (ce + i) (by dsimp only; omega)).2.2.1
        dsimp only at h6
        rw [t3, t4]
        split at this <;> omega) i (by omega)
      have : dLe T0 (x + i) = T0 4 (x + i) - 1 - T0 3 (x + i) := rfl
      have e3 : bz (dC T0 r (cC TF r x)) (dLe T0) (fun k => cC T0 r k) x = bz (dC T0 r (cC TF r x)) (fun k => T0 4 k - 1 - T0 3 k) (fun k => cC T0 r k) x := rfl
      rw [e3]
      omega
    · rw [h0e y y2]
      exact hU1 y (fun q q1 q2 w => y1 ⟨q, q1, q2, w⟩)
