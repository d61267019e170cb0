/-! PURE 20: an element cut out; a name changed; a number changed -/
theorem inBox_hd {f : Nat → Int} (hf : ∀ x, 0 ≤ f x ∧ f x ≤ 255) {ln : Bool} {n : Int} {TF : Nat → Nat → Int} {cnt : Nat} (hC : Cert f ln n TF cnt) {q k : Nat} (hq : q < k) (hk : k < cnt) : hd TF q ≤ TF 3 k - 1 := by
  have h0 : (aF0 f n).1 = 0 := by rw [Cert_0 hC]
  have hn := hC.1.2.2.1
  have P0 : PC f ln n (aStart n TF) := PC_start h0 hn.2
  obtain ⟨N, TK, q1, q2, q3⟩ := reach hf hC hk 2000 _ P0 (CR_start (T0 := TF) hC) (by show n - 4 < _; omega) (by show 1 ≤ k; omega)
  have := (pcH_st hf P0 pcH_start q1).1 q hq
  dsimp only at this
  rw [hd_ext (T := TF) (fun co hco => q2.2.1.1 co q hq hco)] at this
  exact this
theorem leaf_ce {f : Nat → Int} {ln : Bool} {n : Int} {TF : Nat → Nat → Int} {cnt : Nat} (hC : Cert f ln n TF cnt) {k ce : Nat} (hce : k < ce ∧ ce ≤ cnt) (hf1 : ∀ j : Nat, k < j → j < ce → k ≤ TF 1 j) (hk : kHold (TF 0 k) = false) : ce = k + 1 := by
  by_cases e : ce = k + 1
  · exact e
  · exfalso
    have r := (hC.2.1 (k + 1) (by omega) (by dsimp only; omega)).1.1
    dsimp only at r
    have := hf1 (k + 1) (by omega) (by omega)
    rw [show (TF 1 (k + 1)).toNat = k by omega, hk] at r
    cases r.2
theorem cut_right {f h : Nat → Int} (hf : ∀ x, 0 ≤ f x ∧ f x ≤ 255) (hh : ∀ x, 0 ≤ h x ∧ h x ≤ 255) {ln : Bool} {n ch : Int} {TF : Nat → Nat → Int} {cnt : Nat} (hC : Cert f ln n TF cnt) {k ce x : Nat} (k1 : 1 ≤ k) (hk : k < cnt) (hx : TF 1 k = x) (hce : k < ce ∧ ce ≤ cnt) (hf1 : ∀ j : Nat, k < j → j < ce → k ≤ TF 1 j) (hf2 : ce < cnt → TF 1 ce < k) (hch : ch = TF 3 k - 1 - tE TF k) (hln : TF 0 x = 4 → ln = true)
    (hpre : ∀ y : Int, 0 ≤ y → y < TF 3 k - 1 → (∀ q, q ≤ x → opn TF (x + 1) x q → ¬ (TF 4 q ≤ y ∧ y < TF 4 q + 4)) → h y.toNat = f y.toNat)
    (hsz : ∀ q, q ≤ x → opn TF (x + 1) x q → mLow h (TF 4 q) 4 = TF 5 q + ch)
    (hsuf : ∀ y : Int, tE TF k ≤ y → y < n → h (y + ch).toNat = f y.toNat) :
    ∃ T1, Cert h ln (n + ch) T1 (cnt + 0 - (ce - k)) ∧ sim3 (tE TF k) ch k (ce - k) 0 x (0 - 1) (opn TF (x + 1) x) TF (n, -1, TF, cnt) (n + ch, -1, T1, cnt + 0 - (ce - k)) := by
  have rk := (hC.2.1 k k1 hk).1.2.2.1
  dsimp only at rk
  have hn0 := hC.1.2.2.1
  have : tE TF k = TF 4 k + TF 5 k := rfl
  refine row_core (TN := TF) (mn := 0) hf hh hC k1 hk hx hce hf1 hf2 (by omega) (by omega) hpre hsz hsuf ⟨fun w => by omega, fun q a b => by omega⟩ (fun T1 _ _ _ _ => ⟨0, T1, ?_, fun q a b => by omega⟩) (fun q a b w => ⟨fun e => Or.inl (hln e), fun _ w2 => by omega⟩)
  rw [show tE TF k + ch = TF 3 k - 1 by omega]
  rfl
/-- the rows of an element under another name -/
def nRow (TF : Nat → Nat → Int) (k : Nat) (ch : Int) : Nat → Nat → Int := fun co q => if co = 3 then TF 3 q + (if k < q then ch else 0) else if co = 4 then TF 4 q + ch else TF co q
theorem name_right {f h : Nat → Int} (hf : ∀ x, 0 ≤ f x ∧ f x ≤ 255) (hh : ∀ x, 0 ≤ h x ∧ h x ≤ 255) {n ch : Int} {TF : Nat → Nat → Int} {cnt : Nat} (hC : Cert f true n TF cnt) {k ce x : Nat} (k1 : 1 ≤ k) (hk : k < cnt) (hx : TF 1 k = x) (hce : k < ce ∧ ce ≤ cnt) (hf1 : ∀ j : Nat, k < j → j < ce → k ≤ TF 1 j) (hf2 : ce < cnt → TF 1 ce < k) (hx4 : TF 0 x = 4) (hn : n + ch ≤ 2000)
    (hpre : ∀ y : Int, 0 ≤ y → y < TF 3 k → (∀ q, q ≤ x → opn TF (x + 1) x q → ¬ (TF 4 q ≤ y ∧ y < TF 4 q + 4)) → h y.toNat = f y.toNat)
    (hsz : ∀ q, q ≤ x → opn TF (x + 1) x q → mLow h (TF 4 q) 4 = TF 5 q + ch)
    (hsuf : ∀ y : Int, TF 4 k - 1 ≤ y → y < n → h (y + ch).toNat = f y.toNat)
    (h1 : TF 3 k ≤ TF 4 k + ch - 1) (hnz : ∀ y : Int, TF 3 k ≤ y → y < TF 4 k + ch - 1 → ¬ h y.toNat = 0) (hbad : mBad h (TF 3 k) (TF 4 k + ch - 1) = -1) :
    ∃ T1, Cert h true (n + ch) T1 cnt ∧ sim3 (tE TF k) ch k (ce - k) (ce - k) x 0 (opn TF (x + 1) x) (nRow TF k ch) (n, -1, TF, cnt) (n + ch, -1, T1, cnt) := by
  have rk := hC.2.1 k k1 hk
  dsimp only at rk
  obtain ⟨⟨⟨r1, r1h⟩, ⟨r2, r2f⟩, ⟨r3, r3b, r3c, r3d⟩, r4, ⟨r5, r5b⟩, r6, r6b⟩, ⟨v1, v2, v3, v4⟩, _⟩ := rk
  rw [hx, show ((x : Int)).toNat = x by omega] at r1h r3d r6
  have hEk : tE TF k = TF 4 k + TF 5 k := rfl
  have hEn : tE TF k ≤ n := (PC_E hC k hk).1
  have hEn2 : tE TF x ≤ n := (PC_E hC x (by dsimp only; omega)).1
  have hxk : x < k := by omega
  have hp0 : h (TF 3 k - 1).toNat = TF 0 k := by
    rw [hpre (TF 3 k - 1) (by omega) (by omega) (fun q q1 q2 => ?_)]
    · exact r2f
    · have : TF 4 q + 4 ≤ TF 3 k - 1 := by
        have := inBox_hd hf hC (q := q) (k := k) (by omega) hk
        unfold hd at this
        have hq : kHold (TF 0 q) = true := by
          by_cases e : q = x
          · rw [e, hx4]; rfl
          · have := q2.2 (q + 1) (by omega) (by omega)
            have rr := (hC.2.1 (q + 1) (by omega) (by dsimp only; omega)).1.1
            dsimp only at rr
            rw [show (TF 1 (q + 1)).toNat = q by omega] at rr
            exact rr.2
        rw [hq, if_pos rfl] at this
        exact this
      omega
  have hsl : ∀ y : Int, TF 4 k ≤ y → y < tE TF k → h (y + ch).toNat = f y.toNat := fun y y1 y2 => hsuf y (by omega) (by omega)
  have hV : aVl h (TF 0 k) (TF 4 k + ch) = TF 5 k := by
    cases hh2 : kHold (TF 0 k)
    · by_cases h2 : TF 0 k = 2
      · have a := v2 h2
        rw [aVl_2 h2] at v1 ⊢
        rw [mLow_sh (f := f) (by decide) (fun y y1 y2 => hsl y y1 (by omega))]
        exact v1
      · rw [aVl_n (by rw [hh2]; decide) h2] at v1 ⊢
        exact v1
    · have a := v4 hh2
      rw [aVl_h hh2] at v1 ⊢
      rw [mLow_sh (f := f) (by decide) (fun y y1 y2 => hsl y y1 (by omega))]
      exact v1
  have core := row_core (TN := nRow TF k ch) (mn := ce - k) hf hh hC k1 hk hx hce hf1 hf2 hn (by omega) (fun y y1 y2 y3 => hpre y y1 (by omega) y3) hsz (fun y y1 y2 => hsuf y (by omega) y2)
    ⟨fun _ => by unfold nRow; rw [if_neg (by decide), if_neg (by decide)]; exact hx, fun q a b => by
      unfold nRow
      rw [if_neg (by decide), if_neg (by decide)]
      have := (hC.2.1 q (by omega) (by dsimp only; omega)).1.1.1
      dsimp only at this
      exact ⟨hf1 q a (by omega), this.2⟩⟩
    (fun T1 e1 e3 hN p1 => by
      have hE2 := elem_ok (h := h) (ln := true) (t := TF 3 k - 1) (i1 := (x : Int)) (T1 := T1) (c1 := k) (v := TF 4 k + ch) (k := TF 0 k) (l1 := TF 5 k) hp0 r2 (by omega) (fun y y1 y2 => hnz y (by omega) y2) (by rw [show TF 4 k + ch - 1 = TF 4 k - 1 + ch by omega, hsuf _ (by omega) (by omega)]; exact r5) (by rw [show TF 3 k - 1 + 1 = TF 3 k by omega]; exact hbad) (by
          unfold aNm
          rw [show ((x : Int)).toNat = x by omega, e1.1, if_pos hx4, Bool.true_or]) hV r3c (by rw [e1.2.2.2]; unfold aLast; rw [show ((x : Int)).toNat = x by omega]; omega) (fun w => by
          rw [show ((x : Int)).toNat = x by omega, e1.2.1]
          rw [w] at r6
          have : bI true = 1 := rfl
          exact ⟨v4 w, by omega⟩) (fun w => by
          have a := v2 w
          refine ⟨a.1, ?_, ?_⟩
          · rw [show TF 4 k + ch + TF 5 k - 1 = tE TF k - 1 + ch by omega, hsl _ (by omega) (by omega)]; exact a.2.1
          · rw [show TF 4 k + ch + TF 5 k - 1 = tE TF k - 1 + ch by omega, show TF 4 k + ch + 4 = TF 4 k + 4 + ch by omega]
            exact (mBad_sh (f := f) (fun y y1 y2 => hsl y (by omega) (by omega)) (by omega) (by omega)).mpr a.2.2) (fun w => by
          have e8 : TF 5 k = 1 := by rw [← v1, w]; rfl
          rw [hsl _ (by omega) (by omega)]; exact v3 w)
      rw [show TF 3 k - 1 + 1 = TF 3 k by omega] at hE2
      have st1 := aSt_1 (f := h) (ln := true) (s := (TF 3 k - 1, (x : Int), T1, k)) (by dsimp only; omega) hE2.1
      rw [hE2.2] at st1
      have p2 := PC_st hh p1 st1
      have ip : (0 : Int) ≤ x ∧ (x : Int) < k := ⟨by omega, by omega⟩
      cases hk0 : kHold (TF 0 k)
      · have hc1 := leaf_ce hC hce hf1 hk0
        rw [hk0, if_neg (by decide), if_neg (by decide)] at st1
        refine ⟨1, nApp T1 k (TF 0 k) x (TF 3 k) (TF 4 k + ch) (TF 5 k), ?_, fun q a b co hco => ?_⟩
        · have := st1
          rw [show tE TF k + ch = TF 4 k + ch + TF 5 k by omega, show k + (ce - k) = k + 1 by omega]
          exact this
        · have e : q = k := by omega
          subst e
          unfold nRow
          rcases (show co = 0 ∨ co = 1 ∨ co = 2 ∨ co = 3 ∨ co = 4 ∨ co = 5 by omega) with rfl | rfl | rfl | rfl | rfl | rfl
          · rw [nA_0, if_neg (by decide), if_neg (by decide)]
          · rw [nA_1, if_neg (by decide), if_neg (by decide), hx]
          · rw [nA_2 ip, if_neg (by decide), if_neg (by decide), show ((x : Int)).toNat = x by omega, e1.2.1, r6]; omega
          · rw [nA_3, if_pos rfl, if_neg (by omega), Int.add_zero]
          · rw [nA_4, if_neg (by decide), if_pos rfl]
          · rw [nA_5, if_neg (by decide), if_neg (by decide)]
      · rw [hk0] at r6
        have hb1 : bI true = 1 := rfl
        obtain ⟨M, T2, t1, t2⟩ := run_graft (g := f) (h := h) (ln := true) (n1 := n + ch) (TF := TF) (TS := TF) (x := x) (fi := k) (y := k) (ce := ce) (k := TF 0 k) (v := TF 4 k + ch) (l1 := TF 5 k) (a := TF 3 k) (d := ch) (dd := 0) hf hh hC hxk (by omega) hk hk0 rfl hce hf1 hf2 rfl rfl (by omega) (fun z z1 z2 => hsl z (by omega) z2) (fun q q1 q2 => by
          have := (PC_E hC q (by dsimp only; omega)).2.2.2.2
          dsimp only at this
          omega) T1 e1.2.1 (fun q hq => by
          rw [(e3 q hq).1]
          by_cases e : q = 0
          · subst e; have := hC.1.2.1.2.1; dsimp only at this; omega
          · have := (hC.2.1 q (by omega) (by dsimp only; omega)).1.1.1
            dsimp only at this
            omega) p2
        refine ⟨1 + M, T2, ?_, fun q a b co hco => ?_⟩
        · have := aSt_t st1 t1
          rw [show tE TF k + ch = TF 4 k + ch + TF 5 k by omega]
          exact this
        · rw [t2 q a b co hco]
          unfold gRow nRow
          by_cases e : q = k
          · subst e
            rw [if_pos rfl]
            rcases (show co = 0 ∨ co = 1 ∨ co = 2 ∨ co = 3 ∨ co = 4 ∨ co = 5 by omega) with rfl | rfl | rfl | rfl | rfl | rfl
            · rw [nA_0, if_neg (by decide), if_neg (by decide)]
            · rw [nA_1, if_neg (by decide), if_neg (by decide), hx]
            · rw [nA_2 ip, if_neg (by decide), if_neg (by decide), show ((x : Int)).toNat = x by omega, hk0]; omega
            · rw [nA_3, if_pos rfl, if_neg (by omega), Int.add_zero]
            · rw [nA_4, if_neg (by decide), if_pos rfl]
            · rw [nA_5, if_neg (by decide), if_neg (by decide)]
          · rw [if_neg e, show q - k + k = q by omega]
            rcases (show co = 0 ∨ co = 1 ∨ co = 2 ∨ co = 3 ∨ co = 4 ∨ co = 5 by omega) with rfl | rfl | rfl | rfl | rfl | rfl
            · rfl
            · rw [if_pos rfl, if_neg (by decide), if_neg (by decide)]; omega
            · rw [if_neg (by decide), if_pos rfl, if_neg (by decide), if_neg (by decide)]; omega
            · rw [if_neg (by decide), if_neg (by decide), if_pos rfl, if_pos rfl, if_pos (by omega)]
            · rfl
            · rfl)
    (fun q a b w => ⟨fun _ => Or.inl rfl, fun e => absurd hx4 e⟩)
  rw [if_neg (show ¬ ce - k = 0 by omega), show cnt + (ce - k) - (ce - k) = cnt by omega] at core
  exact core
