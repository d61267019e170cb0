/-! PURE 40: the reference's drop, a name a time -/
theorem bk_skip {C : Nat → Bool} {pos le va : Nat → Int} : ∀ (a lo m : Nat) (f : Nat → Int), (∀ i, i < a → C (lo + i) = false) → bk C pos le va lo (a + m) f = bk C pos le va (lo + a) m f ∧ bz C le va lo (a + m) = bz C le va (lo + a) m := by
  intro a
  induction a with
  | zero => intro lo m f _; rw [Nat.zero_add]; exact ⟨rfl, rfl⟩
  | succ a ih =>
    intro lo m f h
    have q := bk_front (C := C) (pos := pos) (le := le) (va := va) (lo := lo) (a + m) f
    have h0' := h 0 (by omega)
    rw [Nat.add_zero] at h0'
    rw [h0', if_neg (by decide), if_neg (by decide), Int.add_zero] at q
    have i := ih (lo + 1) m f (fun i hi => by rw [show lo + 1 + i = lo + (i + 1) by omega]; exact h (i + 1) (by omega))
    rw [show a + 1 + m = a + m + 1 by omega, q.1, q.2, i.1, i.2, show lo + 1 + a = lo + (a + 1) by omega]
    exact ⟨rfl, rfl⟩
theorem bz_lb {C : Nat → Bool} {T : Nat → Nat → Int} {va : Nat → Int} {lo : Nat} {M : Int} : ∀ (j m : Nat), j ≤ m → (∀ i, i < m → T 3 (lo + i) ≤ T 4 (lo + i) - 1 ∧ T 4 (lo + i) ≤ M) → (∀ i, i + 1 < m → T 4 (lo + i) ≤ T 3 (lo + (i + 1)) - 1) → ∀ i, i + j + 1 = m → T 4 (lo + i) ≤ M + (bz C (fun k => T 4 k - 1 - T 3 k) va lo m - bz C (fun k => T 4 k - 1 - T 3 k) va lo (i + 1)) := by
  intro j
  induction j with
  | zero =>
    intro m _ h1 _ i hi
    have e : i + 1 = m := by omega
    rw [e]
    have := (h1 i (by omega)).2
    omega
  | succ j ih =>
    intro m hm h1 h2 i hi
    have q := ih m (by omega) h1 h2 (i + 1) (by omega)
    have q1 := h1 (i + 1) (by omega)
    have q2 := h2 i (by omega)
    have e : bz C (fun k => T 4 k - 1 - T 3 k) va lo (i + 1 + 1) = bz C (fun k => T 4 k - 1 - T 3 k) va lo (i + 1) + (if C (lo + (i + 1)) = true then bDigits (va (lo + (i + 1))) - (T 4 (lo + (i + 1)) - 1 - T 3 (lo + (i + 1))) else 0) := rfl
    have hd := bDigits_r (va (lo + (i + 1)))
    split at e <;> omega
def Fl (TF : Nat → Nat → Int) (r : Nat) (y : Nat) : Prop := ∃ q, q ≤ r ∧ opn TF (r + 1) r q ∧ TF 4 q ≤ y ∧ (y : Int) < TF 4 q + 4
def dC (T : Nat → Nat → Int) (r : Nat) (nu : Int) : Nat → Bool := fun k => decide (T 1 k = r ∧ nu ≤ cC T r k)
def dLe (T : Nat → Nat → Int) : Nat → Int := fun k => T 4 k - 1 - T 3 k
/-- between two of its steps: children of r from number nu on still have their old names -/
def DS (TF : Nat → Nat → Int) (r : Nat) (P z nF : Int) (G : Nat → Int) (c : Nat) (nu : Int) (f : Nat → Int) (n : Int) (Tc : Nat → Nat → Int) : Prop :=
  Cert f true n Tc c ∧ (r < c ∧ Tc 0 r = 4 ∧ ∀ q, q ≤ r → Tc 1 q = TF 1 q ∧ Tc 4 q = TF 4 q) ∧ (∀ q, q ≤ r → opn TF (r + 1) r q → Tc 5 q = TF 5 q + (n - z) ∧ TF 4 q + 4 ≤ P)
  ∧ (∀ k, k < c → Tc 1 k = r → nu ≤ cC Tc r k → P < Tc 3 k ∧ bDigits (cC Tc r k) ≤ Tc 4 k - 1 - Tc 3 k)
  ∧ (∀ k : Nat, 1 ≤ k → k < c → Tc 0 (Tc 1 k).toNat = 4 → (Tc 1 k = r → cC Tc r k < nu) → mNum f (Tc 3 k) (Tc 4 k - 1) (cC Tc (Tc 1 k) k) = true)
  ∧ n + bz (dC Tc r nu) (dLe Tc) (fun k => cC Tc r k) 0 c = nF ∧ ∀ y : Nat, ¬ Fl TF r y → (y : Int) < nF → bk (dC Tc r nu) (Tc 3) (dLe Tc) (fun k => cC Tc r k) 0 c f y = G y
theorem ds_step {TF : Nat → Nat → Int} {r : Nat} {P z nF : Int} {G : Nat → Int} {c : Nat} {nu : Int} {f f2 e : Nat → Int} {n : Int} {Tc : Nat → Nat → Int} (hf : ∀ x, 0 ≤ f x ∧ f x ≤ 255) (hf2 : ∀ x, 0 ≤ f2 x ∧ f2 x ≤ 255) (he : ∀ x, 0 ≤ e x ∧ e x ≤ 255) (hP : 0 ≤ P) (D : DS TF r P z nF G c nu f n Tc) {k : Nat} (k1 : 1 ≤ k) (hk : k < c) (hkr : Tc 1 k = r) (hkn : cC Tc r k = nu) (hE : ∀ j : Int, 0 ≤ j → j < bDigits nu → e j.toNat = mDigit nu j)
    (h2 : ∀ y : Nat, (y : Int) < n + (bDigits nu - dLe Tc k) → f2 y = zUp Tc (bDigits nu - dLe Tc k) 1000 r (h0 f (Tc 3 k) (dLe Tc k) e (bDigits nu)) y) : ∃ T2, DS TF r P z nF G c (nu + 1) f2 (n + (bDigits nu - dLe Tc k)) T2 ∧ bDigits nu ≤ dLe Tc k ∧ P < Tc 3 k := by
  obtain ⟨hC, ⟨hrc, hr4, hrow⟩, hanc, hlen, hnum, hsz, hX⟩ := D
  obtain ⟨hPk, hLk⟩ := hlen k hk hkr (by omega)
  have hdl : dLe Tc k = Tc 4 k - 1 - Tc 3 k := rfl
  rw [hkn] at hLk
  have hdg := bDigits_r nu
  have rk := (hC.2.1 k k1 hk).1
  dsimp only at rk
  have rp := rk.1.1
  have r3 := rk.2.2.1
  have hEk : tE Tc k = Tc 4 k + Tc 5 k := rfl
  have hEn := PC_E hC k hk
  dsimp only at hEn
  have han := anc_ahead hf hC k1 hk hkr
  obtain ⟨dl, hdelta⟩ : ∃ dl, dl = bDigits nu - dLe Tc k := ⟨_, rfl⟩
  rw [← hdelta] at h2 ⊢
  have hopn : ∀ q, q ≤ r → (opn Tc (r + 1) r q ↔ opn TF (r + 1) r q) := by
    intro q hq
    constructor
    · rintro ⟨a, b⟩; exact ⟨a, fun j u v => by rw [← (hrow j (by omega)).1]; exact b j u v⟩
    · rintro ⟨a, b⟩; exact ⟨a, fun j u v => by rw [(hrow j (by omega)).1]; exact b j u v⟩
  have hd16 := (PC_E hC r (by dsimp only; omega)).2.2.2
  dsimp only at hd16
  have hn0 := hC.1.2.2.1
  have hU := zUp_props hf (ch := dl) hC r hrc (by rw [hr4]; rfl) 1000 (h0 f (Tc 3 k) (dLe Tc k) e (bDigits nu)) (by omega) (fun q q1 q2 => by
    obtain ⟨a1, a2, a3, a4, a5, a6⟩ := han q q1 q2
    have hEq : tE Tc q = Tc 4 q + Tc 5 q := rfl
    refine ⟨?_, by omega, by omega⟩
    have e2 := mLow_sh (f := f) (h := h0 f (Tc 3 k) (dLe Tc k) e (bDigits nu)) (a := Tc 4 q) (d := 0) (w := 4) (by decide) (fun y y1 y2 => by rw [Int.add_zero]; unfold h0; rw [if_pos (by omega)])
    rw [Int.add_zero] at e2
    rw [e2]
    exact a4)
  have hUr := zUp_r (TF := Tc) (ch := dl) 1000 r _ (h0_r hf he (Tc 3 k) (dLe Tc k) (bDigits nu))
  have hnof : ∀ y : Nat, Tc 3 k - 1 ≤ y → ∀ q, q ≤ r → opn Tc (r + 1) r q → ¬ (Tc 4 q ≤ y ∧ (y : Int) < Tc 4 q + 4) := fun y hy q q1 q2 w => by have := (han q q1 q2).2.2.1; omega
  generalize zUp Tc dl 1000 r (h0 f (Tc 3 k) (dLe Tc k) e (bDigits nu)) = h at *
  obtain ⟨ce, c1, c2, c3, c4⟩ := nBeh_s (T := Tc) (TF := Tc) (cnt := c) (fun _ _ _ _ => rfl) hk
  have hdig : ∀ y : Int, Tc 3 k ≤ y → y < Tc 3 k + bDigits nu → h y.toNat = mDigit nu (y - Tc 3 k) := by
    intro y y1 y2
    rw [hU.1 y.toNat (hnof y.toNat (by omega))]
    unfold h0
    rw [if_neg (by omega), if_pos (by omega), ← hE (y - Tc 3 k) (by omega) (by omega)]
    congr 1
    omega
  have hsuf : ∀ y : Int, Tc 4 k - 1 ≤ y → y < n → h (y + dl).toNat = f y.toNat := by
    intro y y1 y2
    rw [hU.1 (y + dl).toNat (hnof _ (by omega))]
    unfold h0
    rw [if_neg (by omega), if_neg (by omega)]
    congr 1
    omega
  have hpre : ∀ y : Int, 0 ≤ y → y < Tc 3 k → (∀ q, q ≤ r → opn Tc (r + 1) r q → ¬ (Tc 4 q ≤ y ∧ y < Tc 4 q + 4)) → h y.toNat = f y.toNat := by
    intro y y1 y2 y3
    rw [hU.1 y.toNat (fun q q1 q2 w => y3 q q1 q2 (by omega))]
    unfold h0
    rw [if_pos (by omega)]
  obtain ⟨T1, w1, w2⟩ := name_right (ch := dl) hf hUr hC k1 hk hkr c2 c3 c4 hr4 (by omega) hpre hU.2 hsuf (by omega) (fun y y1 y2 => by rw [hdig y y1 (by omega)]; have := mDigit_r nu (y - Tc 3 k); omega) (mBad_ascii _ _ (fun y y1 y2 => by rw [hdig y y1 (by omega)]; have := mDigit_r nu (y - Tc 3 k); omega))
  obtain ⟨_, wA, wB, wN⟩ := w2
  dsimp only at wA wB wN
  obtain ⟨T2, x1, x2⟩ := Cert_ext hUr hf2 w1 (fun y hy => h2 y hy)
  have tab : ∀ q, q < c → T2 0 q = Tc 0 q ∧ T2 1 q = Tc 1 q ∧ T2 3 q = Tc 3 q + (if k < q then dl else 0) ∧ T2 4 q = Tc 4 q + (if k ≤ q then dl else 0) := by
    intro q hq
    rw [x2 0 q hq (by decide), x2 1 q hq (by decide), x2 3 q hq (by decide), x2 4 q hq (by decide)]
    by_cases e1 : q < k
    · have a := (wA q e1).1
      rw [a 0 (by decide), a 1 (by decide), a 3 (by decide), a 4 (by decide), if_neg (by omega), if_neg (by omega)]
      exact ⟨rfl, rfl, by omega, by omega⟩
    · by_cases e2 : q < ce
      · have a := wN q (by omega) (by omega)
        rw [a 0 (by decide), a 1 (by decide), a 3 (by decide), a 4 (by decide), if_pos (show k ≤ q by omega)]
        exact ⟨rfl, rfl, rfl, rfl⟩
      · obtain ⟨⟨b0, _⟩, b1, ⟨b3, b4⟩, _⟩ := wB q (by omega) hq
        rw [show q + (ce - k) - (ce - k) = q by omega] at b0 b1 b3 b4
        rw [b0, b1, b3, b4, if_pos (by omega), if_pos (by omega)]
        refine ⟨rfl, ?_, rfl, rfl⟩
        unfold rho
        split <;> omega
  have hcc : ∀ (a : Int) (q : Nat), q ≤ c → cC T2 a q = cC Tc a q := fun a q hq => cC_ext (fun y hy => (tab y (by omega)).2.1)
  have hgt : ∀ q, q < c → Tc 1 q = r → nu + 1 ≤ cC Tc r q → k < q := by
    intro q hq q1 q2
    by_cases e : k < q
    · exact e
    · exfalso
      have := cC_mono (T := Tc) (k := (r : Int)) (a := q) (k - q)
      rw [show q + (k - q) = k by omega] at this
      omega
  have hord : ∀ a b : Nat, a < b → b < c → Tc 4 a ≤ Tc 3 b - 1 := by
    intro a b hab hb
    have := inBox_hd hf hC hab hb
    unfold hd at this
    have h5 := (PC_E hC a (by dsimp only; omega)).2.2.1
    dsimp only at h5
    split at this <;> omega
  have hnm : ∀ q, 1 ≤ q → q < c → ∀ y : Int, Tc 3 q ≤ y → y < Tc 4 q - 1 → ∀ p, p ≤ r → opn Tc (r + 1) r p → ¬ (Tc 4 p ≤ y ∧ y < Tc 4 p + 4) := by
    intro q q1 q2 y y1 y2 p p1 p2 w
    obtain ⟨a1, _⟩ := han p p1 p2
    by_cases e1 : p < q
    · have := inBox_hd hf hC e1 q2
      unfold hd at this
      rw [a1, if_pos rfl] at this
      omega
    · by_cases e2 : p = q
      · subst e2; omega
      · have := hord q p (by omega) (by omega)
        have := (PC_nm hC).2 p (by omega) (by dsimp only; omega)
        dsimp only at this
        omega
  refine ⟨T2, ⟨x1, ⟨hrc, by rw [(tab r hrc).1]; exact hr4, fun q hq => ?_⟩, fun q q1 q2 => ?_, fun q q1 q2 q3 => ?_, fun q q1 q2 q3 q4 => ?_, ?_⟩, hLk, hPk⟩
  · obtain ⟨_, t1, _, t4⟩ := tab q (by omega)
    rw [t1, t4, if_neg (by omega), Int.add_zero]
    exact hrow q hq
  · refine ⟨?_, (hanc q q1 q2).2⟩
    rw [x2 5 q (by omega) (by decide), (wA q (by omega)).2.1 ((hopn q q1).mpr q2), (hanc q q1 q2).1]
    omega
  · obtain ⟨_, t1, t3, t4⟩ := tab q q1
    rw [t1] at q2
    rw [hcc r q (by omega)] at q3 ⊢
    have hkq := hgt q q1 q2 q3
    obtain ⟨l1, l2⟩ := hlen q q1 q2 (by omega)
    have := hord k q hkq q1
    rw [t3, t4, if_pos hkq, if_pos (by omega)]
    exact ⟨by omega, by omega⟩
  · obtain ⟨t0, t1, t3, t4⟩ := tab q q2
    have rq := (hC.2.1 q q1 q2).1.1.1
    dsimp only at rq
    rw [t1] at q3 q4 ⊢
    rw [(tab (Tc 1 q).toNat (by omega)).1] at q3
    rw [hcc _ q (by omega), t3, t4]
    rw [hcc r q (by omega)] at q4
    have hNq := (PC_nm hC).2 q q1 q2
    dsimp only at hNq
    by_cases e : q = k
    · subst e
      rw [if_neg (by omega), if_pos (Nat.le_refl q), Int.add_zero, hkr, hkn]
      unfold mNum
      rw [if_neg (by omega)]
      refine mNumN_all _ 0 (fun j j1 j2 => ?_)
      rw [h2 _ (by omega), hdig (Tc 3 q + j) (by omega) (by omega)]
      congr 1
      omega
    · have hold := hnum q q1 q2 q3 (fun w => by
        have := q4 w
        by_cases e2 : cC Tc r q = nu
        · exact absurd (cC_inj w hkr (by rw [e2, hkn])) e
        · omega)
      by_cases e1 : q < k
      · rw [if_neg (by omega), if_neg (by omega), Int.add_zero, Int.add_zero]
        have hlt := hord q k e1 hk
        have es := mNum_sh (f := f) (h := f2) (a := Tc 3 q) (to := Tc 4 q - 1) (d := 0) (v := cC Tc (Tc 1 q) q) (fun y y1 y2 => by
          rw [Int.add_zero, h2 _ (by omega)]
          exact hpre y (by omega) (by omega) (hnm q q1 q2 y y1 y2))
        rw [Int.add_zero, Int.add_zero] at es
        rw [es]
        exact hold
      · rw [if_pos (by omega), if_pos (by omega)]
        have hlt := hord k q (by omega) q2
        have es := mNum_sh (f := f) (h := f2) (a := Tc 3 q) (to := Tc 4 q - 1) (d := dl) (v := cC Tc (Tc 1 q) q) (fun y y1 y2 => by
          rw [h2 _ (by omega)]
          exact hsuf y (by omega) (by omega))
        rw [show Tc 4 q + dl - 1 = Tc 4 q - 1 + dl by omega, es]
        exact hold
  · have hC0 : ∀ i, i < k → dC Tc r nu i = false := by
      intro i hi
      refine decide_eq_false (fun w => ?_)
      have := cC_mono (T := Tc) (k := (r : Int)) (a := i + 1) (k - (i + 1))
      rw [show i + 1 + (k - (i + 1)) = k by omega] at this
      have e1 : cC Tc r (i + 1) = cC Tc r i + (if Tc 1 i = r then 1 else 0) := rfl
      rw [if_pos w.1] at e1
      omega
    have hCk : dC Tc r nu k = true := decide_eq_true ⟨hkr, by omega⟩
    have hC1 : ∀ i, i < k + 1 → dC T2 r (nu + 1) i = false := by
      intro i hi
      refine decide_eq_false (fun w => ?_)
      obtain ⟨_, t1, _, _⟩ := tab i (by omega)
      rw [t1, hcc r i (by omega)] at w
      have := hgt i (by omega) w.1 w.2
      omega
    have s1 := bk_skip (C := dC Tc r nu) (pos := Tc 3) (le := dLe Tc) (va := fun k => cC Tc r k) k 0 (c - k) f (fun i hi => by rw [Nat.zero_add]; exact hC0 i hi)
    rw [show k + (c - k) = c by omega, Nat.zero_add] at s1
    have s2 := bk_front (C := dC Tc r nu) (pos := Tc 3) (le := dLe Tc) (va := fun k => cC Tc r k) (lo := k) (c - k - 1) f
    rw [show c - k - 1 + 1 = c - k by omega, hCk, if_pos rfl, if_pos rfl] at s2
    have s3 := bk_skip (C := dC T2 r (nu + 1)) (pos := T2 3) (le := dLe T2) (va := fun k => cC T2 r k) (k + 1) 0 (c - k - 1) f2 (fun i hi => by rw [Nat.zero_add]; exact hC1 i hi)
    rw [show k + 1 + (c - k - 1) = c by omega, Nat.zero_add] at s3
    have hCC : ∀ i, i < c - k - 1 → dC Tc r nu (k + 1 + i) = dC T2 r (nu + 1) (k + 1 + i) := by
      intro i hi
      obtain ⟨_, t1, _, _⟩ := tab (k + 1 + i) (by omega)
      unfold dC
      rw [t1, hcc r _ (by omega)]
      by_cases w : Tc 1 (k + 1 + i) = r
      · have hmono : nu + 1 ≤ cC Tc r (k + 1 + i) := by
          have := cC_mono (T := Tc) (k := (r : Int)) (a := k + 1) i
          have e1 : cC Tc r (k + 1) = cC Tc r k + (if Tc 1 k = r then 1 else 0) := rfl
          rw [if_pos hkr] at e1
          omega
        rw [decide_eq_true ⟨w, by omega⟩, decide_eq_true ⟨w, hmono⟩]
      · rw [decide_eq_false (fun z => w z.1), decide_eq_false (fun z => w z.1)]
    have hfn := bk_fn (C := dC Tc r nu) (C2 := dC T2 r (nu + 1)) (pos := fun q => Tc 3 q + bDigits nu - dLe Tc k) (pos2 := T2 3) (le := dLe Tc) (le2 := dLe T2) (va := fun k => cC Tc r k) (va2 := fun k => cC T2 r k) (lo := k + 1) (lo2 := k + 1) (c - k - 1) (h0 f (Tc 3 k) (dLe Tc k) (eD nu) (bDigits nu)) (fun i hi => ⟨hCC i hi, fun _ => by
      obtain ⟨_, t1, t3, t4⟩ := tab (k + 1 + i) (by omega)
      refine ⟨?_, ?_, (hcc r _ (by omega)).symm⟩
      · rw [t3, if_pos (by omega)]; omega
      · unfold dLe; rw [t3, t4, if_pos (by omega), if_pos (by omega)]; omega⟩)
    have hcomm := bk_comm (C := dC Tc r nu) (pos := Tc 3) (le := dLe Tc) (va := fun k => cC Tc r k) (lo := k + 1) (e := eD nu) (p := Tc 3 k) (L := dLe Tc k) (N := bDigits nu) (by omega) (by omega) (by omega) (c - k - 1) f (fun i hi w => by
      have a := hord k (k + 1 + i) (by omega) (by omega)
      have b := (PC_nm hC).2 (k + 1 + i) (by omega) (by dsimp only; omega)
      dsimp only at b
      have : dLe Tc (k + 1 + i) = Tc 4 (k + 1 + i) - 1 - Tc 3 (k + 1 + i) := rfl
      omega)
    have hz2 : bz (dC Tc r nu) (dLe Tc) (fun k => cC Tc r k) 0 c = bz (dC T2 r (nu + 1)) (dLe T2) (fun k => cC T2 r k) 0 c + dl := by
      rw [s1.2, s2.2, s3.2, hfn.2, hkn]
      omega
    refine ⟨by omega, fun y y1 y2 => ?_⟩
    rw [← hX y y1 y2, s1.1, s2.1]
    show bk (dC T2 r (nu + 1)) (T2 3) (dLe T2) (fun k => cC T2 r k) 0 c f2 y = h0 (bk (dC Tc r nu) (Tc 3) (dLe Tc) (fun k => cC Tc r k) (k + 1) (c - k - 1) f) (Tc 3 k) (dLe Tc k) (eD (cC Tc r k)) (bDigits (cC Tc r k)) y
    rw [hkn, hcomm, hfn.1, s3.1]
    have hn2 := PC_nm x1
    dsimp only at hn2
    refine bk_out (Fl := Fl TF r) (P := P) hP (fun y w => by obtain ⟨q, q1, q2, q3, q4⟩ := w; have := (hanc q q1 q2).2; omega) (c - k - 1) (n + dl) _ _ (fun i hi w => ?_) (fun i hi w => ?_) (fun y y1 y2 => ?_) y y1 (by rw [← s3.2]; omega)
    · obtain ⟨_, t1, t3, t4⟩ := tab (k + 1 + i) (by omega)
      have a := hord k (k + 1 + i) (by omega) (by omega)
      have b := hn2.2 (k + 1 + i) (by omega) (by omega)
      have : dLe T2 (k + 1 + i) = T2 4 (k + 1 + i) - 1 - T2 3 (k + 1 + i) := rfl
      rw [t3, if_pos (by omega)] at b ⊢
      omega
    · have b := bz_lb (C := dC T2 r (nu + 1)) (T := T2) (va := fun k => cC T2 r k) (lo := k + 1) (M := n + dl) (c - k - 1 - i - 1) (c - k - 1) (by omega) (fun i hi => by have := hn2.2 (k + 1 + i) (by omega) (by omega); omega) (fun i hi => by
        obtain ⟨_, _, _, t4⟩ := tab (k + 1 + i) (by omega)
        obtain ⟨_, _, t3, _⟩ := tab (k + 1 + (i + 1)) (by omega)
        have := hord (k + 1 + i) (k + 1 + (i + 1)) (by omega) (by omega)
        rw [t3, t4, if_pos (by omega), if_pos (by omega)]
        omega) i (by omega)
      have : dLe T2 (k + 1 + i) = T2 4 (k + 1 + i) - 1 - T2 3 (k + 1 + i) := rfl
      have e3 : bz (dC T2 r (nu + 1)) (dLe T2) (fun k => cC T2 r k) (k + 1) = bz (dC T2 r (nu + 1)) (fun k => T2 4 k - 1 - T2 3 k) (fun k => cC T2 r k) (k + 1) := rfl
      rw [e3]
      omega
    · rw [h2 y y2, hU.1 y (fun q q1 q2 w => y1 ⟨q, q1, (hopn q q1).mp q2, by rw [← (hrow q q1).2]; exact w⟩)]
      unfold h0
      by_cases d1 : (y : Int) < Tc 3 k
      · rw [if_pos d1, if_pos d1]
      · rw [if_neg d1, if_neg d1]
        by_cases d2 : (y : Int) < Tc 3 k + bDigits nu
        · rw [if_pos d2, if_pos d2]
          have := hE ((y : Int) - Tc 3 k) (by omega) (by omega)
          rw [show y - (Tc 3 k).toNat = ((y : Int) - Tc 3 k).toNat by omega, this]
          unfold eD
          congr 1
          omega
        · rw [if_neg d2, if_neg d2]
