/-! PURE 21: a number changed; row numbers right again -/
theorem set_right {f h : Nat → Int} (hf : ∀ x, 0 ≤ f x ∧ f x ≤ 255) (hh : ∀ x, 0 ≤ h x ∧ h x ≤ 255) {n : Int} {TF : Nat → Nat → Int} {cnt : Nat} (hC : Cert f false n TF cnt) {k : Nat} (k1 : 1 ≤ k) (hk : k < cnt) (hkw : 0 < kWidth (TF 0 k)) (hb : ∀ y : Nat, y < n → ¬ (TF 4 k ≤ y ∧ (y : Int) < tE TF k) → h y = f y) (h8 : TF 0 k = 8 → h (TF 4 k).toNat ≤ 1) :
    ∃ T1, Cert h false n T1 cnt ∧ tAg T1 TF cnt := by
  have rk := hC.2.1 k k1 hk
  dsimp only at rk
  obtain ⟨⟨⟨r1, r1h⟩, ⟨r2, r2f⟩, ⟨r3, r3b, r3c, r3d⟩, r4, ⟨r5, r5b⟩, r6, r6b⟩, ⟨v1, v2, v3, v4⟩, rN, rM, rO⟩ := rk
  obtain ⟨x, hx⟩ : ∃ x : Nat, TF 1 k = x := ⟨(TF 1 k).toNat, by omega⟩
  have hEk : tE TF k = TF 4 k + TF 5 k := rfl
  have hEn : tE TF k ≤ n := (PC_E hC k hk).1
  have hxk : x < k := by omega
  have hkk : TF 0 k = 16 ∨ TF 0 k = 18 ∨ TF 0 k = 8 := by
    have := of_decide_eq_true r2
    unfold kWidth at hkw
    by_cases e8 : TF 0 k = 8
    · omega
    · rw [if_neg e8] at hkw
      by_cases e16 : TF 0 k = 16
      · omega
      · rw [if_neg e16] at hkw
        by_cases e18 : TF 0 k = 18
        · omega
        · rw [if_neg e18] at hkw; omega
  have hnh : kHold (TF 0 k) = false := kHold_ff.mpr (by omega)
  have hn2 : ¬ TF 0 k = 2 := by omega
  have hnh2 : ¬ kHold (TF 0 k) = true := by rw [hnh]; decide
  rw [aVl_n hnh2 hn2] at v1
  obtain ⟨ce, hce, hf1, hf2⟩ : ∃ ce, (k < ce ∧ ce ≤ cnt) ∧ (∀ j : Nat, k < j → j < ce → k ≤ TF 1 j) ∧ (ce < cnt → TF 1 ce < k) := by
    refine ⟨k + 1, ⟨by omega, by omega⟩, fun j a b => by omega, fun w => ?_⟩
    have r := (hC.2.1 (k + 1) (by omega) w).1.1
    dsimp only at r
    by_cases e : TF 1 (k + 1) = k
    · rw [e, show ((k : Int)).toNat = k by omega, hnh] at r
      cases r.2
    · omega
  have hc1 := leaf_ce hC hce hf1 hnh
  have hpref : ∀ y : Int, 0 ≤ y → y < TF 4 k → h y.toNat = f y.toNat := fun y y1 y2 => hb y.toNat (by omega) (by omega)
  have ip : (0 : Int) ≤ x ∧ (x : Int) < k := ⟨by omega, by omega⟩
  have hnames : ∀ q : Nat, k ≤ q → q < cnt → ∀ j : Int, 0 ≤ j → j < TF 4 q - 1 - TF 3 q → h (TF 3 q + j).toNat = f (TF 3 q + j).toNat := by
    intro q a b j j1 j2
    have rq := (PC_nm hC).2 q (by omega) b
    dsimp only at rq
    by_cases e : q = k
    · subst e; exact hpref _ (by omega) (by omega)
    · have := inBox_hd hf hC (q := k) (k := q) (by omega) b
      unfold hd at this
      rw [hnh, if_neg (by decide)] at this
      exact hb _ (by omega) (by omega)
  have core := row_core (ch := 0) (TN := nApp TF k (TF 0 k) x (TF 3 k) (TF 4 k) (TF 5 k)) (mn := 1) hf hh hC k1 hk hx hce hf1 hf2 (by have := hC.1.2.2.1; omega) (by omega) (fun y y1 y2 _ => hpref y y1 (by omega)) (fun q q1 q2 => ?_) (fun y y1 y2 => by rw [Int.add_zero]; exact hb y.toNat (by omega) (by omega)) ⟨fun _ => nA_1, fun q a b => by omega⟩ (fun T1 e1 e3 hN p1 => ?_) (fun q a b w => ⟨fun _ => Or.inr (by decide), fun e4 _ e5 e6 => ?_⟩)
  · rw [Int.add_zero, show cnt + 1 - (ce - k) = cnt by omega] at core
    obtain ⟨T1, w1, w2⟩ := core
    rw [show ce - k = 1 by omega] at w2
    obtain ⟨_, wA, wB, wN⟩ := w2
    dsimp only at wA wB wN
    have ag : ∀ co q, q < cnt → co < 6 → T1 co q = TF co q := by
      intro co q hq hco
      by_cases e1 : q < k
      · obtain ⟨a1, a2, a3, _⟩ := wA q e1
        by_cases e5 : co = 5
        · subst e5
          by_cases ea : opn TF (x + 1) x q
          · rw [a2 ea, Int.add_zero]
          · exact a3 ea
        · exact a1 co (by omega)
      · by_cases e2 : q = k
        · subst e2
          rw [wN q (Nat.le_refl q) (by omega) co hco]
          rcases (show co = 0 ∨ co = 1 ∨ co = 2 ∨ co = 3 ∨ co = 4 ∨ co = 5 by omega) with rfl | rfl | rfl | rfl | rfl | rfl
          · rw [nA_0]
          · rw [nA_1, hx]
          · rw [nA_2 ip, r6, hx]; omega
          · rw [nA_3]
          · rw [nA_4]
          · rw [nA_5]
        · obtain ⟨⟨b0, b2, b5, _⟩, b1, ⟨b3, b4⟩, _⟩ := wB q (by omega) hq
          rw [show q + 1 - 1 = q by omega] at b0 b1 b2 b3 b4 b5
          rcases (show co = 0 ∨ co = 1 ∨ co = 2 ∨ co = 3 ∨ co = 4 ∨ co = 5 by omega) with rfl | rfl | rfl | rfl | rfl | rfl
          · exact b0
          · rw [b1]; unfold rho; split <;> omega
          · exact b2
          · rw [b3, Int.add_zero]
          · rw [b4, Int.add_zero]
          · exact b5
    refine ⟨T1, w1, fun co q hq hco => ?_⟩
    by_cases e6 : co = 6
    · subst e6
      have p1 := w1.2.2.2.2.2.1 q hq
      have p2 := hC.2.2.2.2.2.1 q hq
      dsimp only at p1 p2
      rw [p1, p2]
      exact cC_ext (fun y hy => ag 1 y hy (by decide))
    · exact ag co q hq (by omega)
  · have hq := inBox_hd hf hC (q := q) (k := k) (by omega) hk
    have hqh : kHold (TF 0 q) = true := by
      by_cases e : q = x
      · rw [e]; rw [hx, show ((x : Int)).toNat = x by omega] at r1h; exact r1h
      · have := q2.2 (q + 1) (by omega) (by omega)
        have rr := (hC.2.1 (q + 1) (by omega) (by dsimp only; omega)).1.1
        dsimp only at rr
        rw [show (TF 1 (q + 1)).toNat = q by omega] at rr
        exact rr.2
    unfold hd at hq
    rw [hqh, if_pos rfl] at hq
    have hq4 := (PC_E hC q (by dsimp only; omega)).2.1
    dsimp only at hq4
    have e2 := mLow_sh (f := f) (h := h) (a := TF 4 q) (d := 0) (w := 4) (by decide) (fun y y1 y2 => by rw [Int.add_zero]; exact hpref y (by omega) (by omega))
    rw [Int.add_zero] at e2
    rw [e2, Int.add_zero]
    by_cases e : q = 0
    · subst e
      have z := hC.1.2
      dsimp only at z
      rw [z.1.2.2.2.2.1, z.1.2.2.2.2.2]
      exact z.2.2
    · have := (hC.2.1 q (by omega) (by dsimp only; omega)).2.1.1
      dsimp only at this
      rw [aVl_h hqh] at this
      exact this
  · have hE2 := elem_ok (h := h) (ln := false) (t := TF 3 k - 1) (i1 := (x : Int)) (T1 := T1) (c1 := k) (v := TF 4 k) (k := TF 0 k) (l1 := TF 5 k) (by rw [hpref _ (by omega) (by omega)]; exact r2f) r2 (by omega) (fun y y1 y2 => by rw [hpref y (by omega) (by omega)]; exact r4 y (by omega) y2) (by rw [hpref _ (by omega) (by omega)]; exact r5) (by
        rw [show TF 3 k - 1 + 1 = TF 3 k by omega]
        have e2 := mBad_sh (f := f) (h := h) (a := TF 3 k) (to := TF 4 k - 1) (d := 0) (fun y y1 y2 => by rw [Int.add_zero]; exact hpref y (by omega) (by omega)) (by omega) (by omega)
        rw [Int.add_zero, Int.add_zero] at e2
        exact e2.mpr r5b) (by
        have e2 := aNm_sh (f := f) (h := h) (ln := false) (t := TF 3 k - 1) (e := TF 4 k - 1) (ins := (x : Int)) (T := T1) (c := k) (d := 0) (i1 := (x : Int)) (T1 := T1) (c1 := k) rfl (fun _ => Or.inr rfl) (fun y y1 y2 => by rw [Int.add_zero]; exact hpref y (by omega) (by omega)) (fun e4 q q1 q2 q3 => ⟨q, q1, aSame_iff.mpr ⟨q2, fun j j1 j2 => ?_⟩⟩) ?_
        · rw [Int.add_zero, Int.add_zero] at e2
          exact e2
        · rw [← q3 j j1 j2]
          have q0 : 1 ≤ q := by
            by_cases e : q = 0
            · subst e; have := hC.1.2.1.2.1; dsimp only at this; rw [(e3 0 (by omega)).1] at q2; omega
            · omega
          rw [(e3 q q1).2.1] 
          have q2b := q2.2
          rw [(e3 q q1).2.1, (e3 q q1).2.2] at q2b
          exact (hN q q0 q1 (TF 3 q + j) (by omega) (by omega)).symm
        · unfold aNm
          rw [show ((x : Int)).toNat = x by omega, e1.1, e1.2.2.1, show TF 3 k - 1 + 1 = TF 3 k by omega]
          unfold pcN at rN
          unfold pcM at rM
          rw [hx, show ((x : Int)).toNat = x by omega] at rN rM
          by_cases e4 : TF 0 x = 4
          · rw [if_pos e4]
            rcases rM e4 with w | w
            · cases w
            · rw [w]; rfl
          · rw [if_neg e4]
            have := rN e4
            cases hd : aDup T1 f x (TF 3 k) (TF 4 k - 1 - TF 3 k) k
            · rfl
            · exfalso
              obtain ⟨q, q1, q2⟩ := aDup_iff.mp hd
              have q3 := aSame_iff.mp q2
              rw [(e3 q q1).1, (e3 q q1).2.1, (e3 q q1).2.2] at q3
              rw [aDup_iff.mpr ⟨q, q1, aSame_iff.mpr q3⟩] at this
              cases this) (by rw [aVl_n hnh2 hn2]; exact v1) r3c (by
        rw [e1.2.2.2]
        unfold aLast
        rw [hx, show ((x : Int)).toNat = x by omega] at r3d
        rw [show ((x : Int)).toNat = x by omega]
        omega) (fun w => absurd w hnh2) (fun w => absurd w hn2) h8
    rw [if_neg hnh2, if_neg hnh2, show TF 3 k - 1 + 1 = TF 3 k by omega] at hE2
    have st1 := aSt_1 (f := h) (ln := false) (s := (TF 3 k - 1, (x : Int), T1, k)) (by dsimp only; omega) hE2.1
    rw [hE2.2] at st1
    refine ⟨1, nApp T1 k (TF 0 k) x (TF 3 k) (TF 4 k) (TF 5 k), ?_, ?_⟩
    · rw [Int.add_zero, hEk]; exact st1
    · intro q a b co hco
      have e : q = k := by omega
      subst e
      rcases (show co = 0 ∨ co = 1 ∨ co = 2 ∨ co = 3 ∨ co = 4 ∨ co = 5 by omega) with rfl | rfl | rfl | rfl | rfl | rfl
      · rw [nA_0, nA_0]
      · rw [nA_1, nA_1]
      · rw [nA_2 ip, nA_2 ip, show ((x : Int)).toNat = x by omega, e1.2.1]
      · rw [nA_3, nA_3]
      · rw [nA_4, nA_4]
      · rw [nA_5, nA_5]
  · rw [nA_4, nA_3] at e5
    rw [nA_3] at e6
    have rq := hC.2.1 q (by omega) b
    dsimp only at rq
    have := rq.2.2.1
    unfold pcN at this
    rw [w, show ((x : Int)).toNat = x by omega] at this
    rw [aDup_iff.mpr ⟨k, by omega, aSame_iff.mpr ⟨⟨hx, e5⟩, fun j j1 j2 => ?_⟩⟩] at this
    · cases this e4
    · rw [← e6 j j1 j2]
      exact (hnames k (Nat.le_refl k) hk j j1 (by omega)).symm
/-! strict again -/
theorem aF_strict {f : Nat → Int} {t ins : Int} {T : Nat → Nat → Int} {c : Nat} (h : (aF f true (t, ins, T, c)).1 = 0) (hl : t ≤ aLast T ins) (hm : t < aLast T ins → T 0 ins.toNat = 4 → mNum f (t + 1) (mNz f (aLast T ins) (t + 1)) (T 6 ins.toNat) = true) : (aF f false (t, ins, T, c)).1 = 0 := by
  rcases aF_ok h hl with ⟨a, b⟩ | ⟨a, b, d, e, g, w⟩
  · unfold aF
    dsimp only
    rw [if_pos a, if_pos b]
  · have hn : aNm f false t (mNz f (aLast T ins) (t + 1)) ins T c = true := by
      unfold aNm at g ⊢
      by_cases e4 : T 0 ins.toNat = 4
      · rw [if_pos e4, hm a e4]; rfl
      · rw [if_neg e4] at g ⊢; exact g
    unfold aF
    dsimp only
    rw [if_neg (by omega)]
    unfold aFe
    rw [if_neg (kIs_0 b), if_neg (by rw [b]; decide), if_neg (by omega), if_neg (fun z => z e), hn, if_neg (by decide)]
    exact w
theorem strict {f : Nat → Int} (hf : ∀ x, 0 ≤ f x ∧ f x ≤ 255) {n : Int} {TF : Nat → Nat → Int} {cnt : Nat} (hC : Cert f true n TF cnt) (hM : ∀ k : Nat, 1 ≤ k → k < cnt → TF 0 (TF 1 k).toNat = 4 → mNum f (TF 3 k) (TF 4 k - 1) (cC TF (TF 1 k) k) = true) : ∃ T1, Cert f false n T1 cnt ∧ tAg T1 TF cnt := by
  have key : ∀ (M : Nat) (s : sS), PC f false n s → CR n TF cnt s → n - s.1 < M → ∃ TR, Cert f false n TR cnt ∧ crA TF TR cnt := by
    intro M
    induction M with
    | zero => intro s h _ h2; have := PC_at h; omega
    | succ M ih =>
      intro s h hR h2
      obtain ⟨t, ins, Tr, c⟩ := s
      dsimp only at h2
      rcases CR_ins hR with ⟨a1, a2, a3⟩ | hi
      · refine ⟨Tr, ?_, ?_⟩
        · subst a1
          subst a2
          subst a3
          exact h
        · rw [← a2]; exact hR.2.1
      · have hst := CR_step hC hR hi
        have hz : (aF f true (t, ins, Tr, c)).1 = 0 := by rw [hst.1]
        have hin := PC_ins h hi
        have hz2 : (aF f false (t, ins, Tr, c)).1 = 0 := aF_strict hz hin.2.1.2 (fun hlt e4 => by
          have hA := hst.2.2.1.1
          have hc2 := hst.2.1.2
          have eN : aN f (t, ins, Tr, c) = (aV f (t, ins, Tr, c) + (if kHold (f t.toNat) = true then 4 else aVl f (f t.toNat) (aV f (t, ins, Tr, c))), (if kHold (f t.toNat) = true then (c : Int) else ins), nApp Tr c (f t.toNat) ins (t + 1) (aV f (t, ins, Tr, c)) (aVl f (f t.toNat) (aV f (t, ins, Tr, c))), c + 1) := by unfold aN; dsimp only; rw [if_neg (by omega)]
          rw [eN] at hA hc2
          dsimp only at hA hc2
          have a3 := hA 3 c (by omega) (by decide)
          have a4 := hA 4 c (by omega) (by decide)
          have a1 := hA 1 c (by omega) (by decide)
          rw [nA_3] at a3
          rw [nA_4] at a4
          rw [nA_1] at a1
          have hV : aV f (t, ins, Tr, c) = mNz f (aLast Tr ins) (t + 1) + 1 := rfl
          have hA0 := hR.2.1.1
          have hA6 := hR.2.1.2
          dsimp only at hA0 hA6
          have c1 : 1 ≤ c := h.1.1
          have := hM c c1 (by omega)
          rw [← a1, ← hA0 0 ins.toNat (by omega) (by decide)] at this
          have := this e4
          rw [hA6 ins.toNat (by omega), show ((ins.toNat : Nat) : Int) = ins by omega, show mNz f (aLast Tr ins) (t + 1) = TF 4 c - 1 by omega, a3]
          exact this)
        have hP := PC_step hf h hi hz2
        exact ih _ hP.1 hst.2 (by omega)
  have h0 : (aF0 f n).1 = 0 := by rw [Cert_0 hC]
  have hn := hC.1.2.2.1
  obtain ⟨TR, w1, w2⟩ := key 2000 (aStart n TF) (PC_start h0 hn.2) (CR_start hC) (by show n - 4 < _; omega)
  exact ⟨TR, w1, crA_ag hC w2⟩
