/-! PURE 12: the run up to an edit -/
theorem aNm_sh {f h : Nat → Int} {ln : Bool} {t e ins : Int} {T : Nat → Nat → Int} {c : Nat} {d i1 : Int} {T1 : Nat → Nat → Int} {c1 : Nat} (h0 : T1 0 i1.toNat = T 0 ins.toNat) (h6 : T 0 ins.toNat = 4 → ln = true ∨ T1 6 i1.toNat = T 6 ins.toNat) (he : sEq f h (t + 1) e d)
    (hdup : ¬ T 0 ins.toNat = 4 → ∀ k1 : Nat, k1 < c1 → (T1 1 k1 = i1 ∧ T1 4 k1 - 1 - T1 3 k1 = e - (t + 1)) → (∀ j : Int, 0 ≤ j → j < e - (t + 1) → h (T1 3 k1 + j).toNat = f (t + 1 + j).toNat) → ∃ k, k < c ∧ aSame T f ins (t + 1) (e - (t + 1)) k = true)
    (hn : aNm f ln t e ins T c = true) : aNm h ln (t + d) (e + d) i1 T1 c1 = true := by
  have hr := aNm_row hn
  unfold aNm
  rw [h0]
  by_cases e4 : T 0 ins.toNat = 4
  · rw [if_pos e4, Bool.or_eq_true]
    rcases h6 e4 with w | w
    · exact Or.inl w
    · rw [w, show t + d + 1 = t + 1 + d by omega, mNum_sh he]
      exact hr.2 e4
  · rw [if_neg e4]
    cases hd : aDup T1 h i1 (t + d + 1) (e + d - (t + d + 1)) c1
    · rfl
    · exfalso
      obtain ⟨k1, k2, k3⟩ := aDup_iff.mp hd
      obtain ⟨k4, k5⟩ := aSame_iff.mp k3
      rw [show e + d - (t + d + 1) = e - (t + 1) by omega] at k4 k5
      obtain ⟨k, q1, q2⟩ := hdup e4 k1 k2 k4 (fun j j1 j2 => by
        rw [k5 j j1 j2, show t + d + 1 + j = t + 1 + j + d by omega, he (t + 1 + j) (by omega) (by omega)])
      have := aDup_iff.mpr ⟨k, q1, q2⟩
      rw [hr.1 e4] at this
      cases this
theorem opn_hold {f : Nat → Int} {ln : Bool} {n t ins : Int} {T : Nat → Nat → Int} {c : Nat} (h : PC f ln n (t, ins, T, c)) (hi : 0 ≤ ins) {k : Nat} (z : opn T c ins k) : kHold (T 0 k) = true := by
  have hin := PC_ins h hi
  by_cases e : (k : Int) = ins
  · rw [show k = ins.toNat by omega]; exact hin.1.2
  · have z1 := z.1
    have z2 := z.2 (k + 1) (by omega) (by omega)
    have r := (h.2.1 (k + 1) (by omega) (by dsimp only; omega)).1.1
    dsimp only at r
    have e2 : (T 1 (k + 1)).toNat = k := by omega
    rw [e2] at r
    exact r.2
theorem opn_par {f : Nat → Int} {ln : Bool} {n t ins : Int} {T : Nat → Nat → Int} {c : Nat} (h : PC f ln n (t, ins, T, c)) {k : Nat} (hk : 1 ≤ k) (hc : k < c) (z : opn T c ins k) : opn T c ins (T 1 k).toNat := by
  have r := h.2.1 k hk hc
  dsimp only at r
  have r1 := r.1.1.1
  refine ⟨by have := z.1; omega, fun j a b => ?_⟩
  by_cases e : j < k
  · have := r.2.2.2.2 j (by omega) e; omega
  · by_cases e2 : j = k
    · subst e2; omega
    · have := z.2 j (by omega) b; omega
def sim1 (ch : Int) (anc : Nat → Prop) (s s1 : sS) : Prop := s1.1 = s.1 ∧ s1.2.1 = s.2.1 ∧ s1.2.2.2 = s.2.2.2 ∧ ∀ k, k < s.2.2.2 → (∀ co, co < 7 → co ≠ 5 → s1.2.2.1 co k = s.2.2.1 co k) ∧ (anc k → s1.2.2.1 5 k = s.2.2.1 5 k + ch) ∧ (¬ anc k → s1.2.2.1 5 k = s.2.2.1 5 k)
/-- the new bytes h ahead of the place p: alike but for the sizes of what stands open there -/
def eB1 (f h : Nat → Int) (ch p : Int) (TK : Nat → Nat → Int) (fi : Nat) (anc : Nat → Prop) : Prop :=
  (∀ y : Int, 0 ≤ y → y < p → (∀ k, k < fi → anc k → ¬ (TK 4 k ≤ y ∧ y < TK 4 k + 4)) → h y.toNat = f y.toNat) ∧ ∀ k, k < fi → anc k → mLow h (TK 4 k) 4 = TK 5 k + ch ∧ 5 ≤ TK 5 k + ch ∧ p ≤ tE TK k + ch - 1
theorem sim1_E {ch : Int} {anc : Nat → Prop} {t ins : Int} {T T1 : Nat → Nat → Int} {c : Nat} (hs : sim1 ch anc (t, ins, T, c) (t, ins, T1, c)) {k : Nat} (hk : k < c) : (anc k → tE T1 k = tE T k + ch) ∧ (¬ anc k → tE T1 k = tE T k) := by
  obtain ⟨a, b, d⟩ := hs.2.2.2 k hk
  dsimp only at a b d
  unfold tE
  rw [a 4 (by decide) (by decide)]
  exact ⟨fun w => by rw [b w]; omega, fun w => by rw [d w]⟩
theorem sim1_go {f h : Nat → Int} (hf : ∀ x, 0 ≤ f x ∧ f x ≤ 255) {ln : Bool} {n ch p x : Int} {TK : Nat → Nat → Int} {fi : Nat} (hx : 0 ≤ x) (hB : eB1 f h ch p TK fi (opn TK fi x)) : ∀ (N : Nat) (s s1 : sS), PC f ln n s → pcH s → sim1 ch (opn TK fi x) s s1 → aSt f ln N s (p, x, TK, fi) → ∃ s2, aSt h ln N s1 s2 ∧ sim1 ch (opn TK fi x) (p, x, TK, fi) s2 := by
  intro N
  induction N with
  | zero =>
    intro s s1 _ _ hs h2
    have e : (p, x, TK, fi) = s := h2
    rw [e]
    exact ⟨s1, rfl, hs⟩
  | succ N ih =>
    intro s s1 hP hH hs h2
    have hPK : PC f ln n (p, x, TK, fi) := PC_st hf hP h2
    have hHK : pcH (p, x, TK, fi) := pcH_st hf hP hH h2
    have hold := aSt_old hf hP h2
    obtain ⟨t, ins, T, c⟩ := s
    obtain ⟨t1, i1, T1, c1⟩ := s1
    obtain ⟨s1a, s1b, s1c, s1d⟩ := hs
    dsimp only at s1a s1b s1c s1d hold
    subst s1a
    subst s1b
    subst s1c
    have hs : sim1 ch (opn TK fi x) (t1, i1, T, c1) (t1, i1, T1, c1) := ⟨rfl, rfl, rfl, s1d⟩
    obtain ⟨hi, hF, hrest⟩ := h2
    dsimp only at hi
    have hin := PC_ins hP hi
    have hPn := PC_step hf hP hi hF
    have hHn := pcH_step hf hP hi hF hH
    have holdn := aSt_old hf hPn.1 hrest
    dsimp only at holdn
    have hanc4 : ∀ k, k < c1 → opn TK fi x k → TK 4 k + 4 ≤ t1 := by
      intro k hk w
      have hh := opn_hold hPK hx w
      have := hH.1 k hk
      dsimp only at this
      unfold hd at this
      rw [← hold.2.2.1 0 k hk (by decide), hh, if_pos rfl, ← hold.2.2.1 4 k hk (by decide)] at this
      exact this
    have hT4 : ∀ k, k < fi → 1 ≤ k → TK 3 k ≤ TK 4 k - 1 := by
      intro k hk k1
      have := (hPK.2.1 k k1 hk).1.2.2.1
      dsimp only at this
      omega
    by_cases c0 : t1 = aLast T i1
    · have hna : ¬ opn TK fi x i1.toNat := by
        intro w
        have q := opn_st hf hPn.1 hrest (by have := (aN_old (f := f) (s := (t1, i1, T, c1))).1; dsimp only at this ⊢; omega) w
        unfold aN at q
        dsimp only at q
        rw [if_pos c0] at q
        have q1 := q.1
        dsimp only at q1
        by_cases e : i1 = 0
        · subst e; have := hP.1.2.1.2.1; dsimp only at this; rw [show (0 : Int).toNat = 0 from rfl, this] at q1; omega
        · have := (hP.2.1 i1.toNat (by omega) (by dsimp only; omega)).1.1.1
          dsimp only at this
          omega
      have eN : aN f (t1, i1, T, c1) = (t1 + 1, T 1 i1.toNat, T, c1) := by unfold aN; dsimp only; rw [if_pos c0]
      have eL : aLast T1 i1 = aLast T i1 := by unfold aLast; rw [(sim1_E hs (by omega)).2 hna]
      have fz : f t1.toNat = 0 := by
        rcases aF_ok hF hin.2.1.2 with w | w
        · exact w.2
        · have := w.1; omega
      rw [eN] at holdn hrest
      dsimp only at holdn
      have hz : h t1.toNat = 0 := by
        rw [hB.1 t1 (by omega) (by omega) (fun k k1 w z => ?_)]
        · exact fz
        · by_cases kc : k < c1
          · have := hanc4 k kc w; omega
          · have := holdn.2.2.2 k (by omega) k1
            have := hT4 k k1 (by have := hP.1.1; dsimp only at this; omega)
            omega
      have aF1 : (aF h ln (t1, i1, T1, c1)).1 = 0 := by
        unfold aF
        dsimp only
        rw [eL, if_pos c0, if_pos hz]
      have eN1 : aN h (t1, i1, T1, c1) = (t1 + 1, T 1 i1.toNat, T1, c1) := by
        unfold aN
        dsimp only
        rw [eL, if_pos c0, (s1d i1.toNat (by omega)).1 1 (by decide) (by decide)]
      obtain ⟨s2, q1, q2⟩ := ih (aN f (t1, i1, T, c1)) (aN h (t1, i1, T1, c1)) hPn.1 hHn (by rw [eN, eN1]; exact ⟨rfl, rfl, rfl, s1d⟩) (by rw [eN]; exact hrest)
      exact ⟨s2, ⟨hi, aF1, q1⟩, q2⟩
    · have hlt : t1 < aLast T i1 := by omega
      rcases aF_ok hF hin.2.1.2 with w | ⟨_, r2, r3, r4, r5, r6⟩
      · have := w.1; omega
      · have hve : aV f (t1, i1, T, c1) = mNz f (aLast T i1) (t1 + 1) + 1 := rfl
        obtain ⟨z1, z2, z3, z4⟩ := mNz_spec (f := f) (last := aLast T i1) _ (t1 + 1) rfl (by omega)
        obtain ⟨v, hv⟩ : ∃ v, v = aV f (t1, i1, T, c1) := ⟨_, rfl⟩
        obtain ⟨k, hk⟩ : ∃ k, k = f t1.toNat := ⟨_, rfl⟩
        obtain ⟨vl, hvl⟩ : ∃ vl, vl = aVl f k v := ⟨_, rfl⟩
        have hzv : mNz f (aLast T i1) (t1 + 1) = v - 1 := by omega
        rw [hzv] at z1 z2 z3 r3 r4 r5 r6
        rw [show v - 1 + 1 = v by omega, ← hk] at r6
        have hvo := aFv_ok r6
        have eN : aN f (t1, i1, T, c1) = (v + (if kHold k = true then 4 else vl), (if kHold k = true then (c1 : Int) else i1), nApp T c1 k i1 (t1 + 1) v vl, c1 + 1) := by
          unfold aN
          dsimp only
          rw [if_neg c0, ← hk, ← hv, ← hvl]
        rw [eN] at holdn hrest hPn hHn
        dsimp only at holdn
        have ip : 0 ≤ i1 ∧ i1 < c1 := ⟨hi, hin.1.1⟩
        have c1p : 1 ≤ c1 := hP.1.1
        have rowc := hPn.1.2.1 c1 c1p (by dsimp only; omega)
        dsimp only at rowc
        have rR := rowc.1.2.2.1
        rw [nA_Ec, nA_1, nA_E (by omega)] at rR
        have rR2 := rR.2.2
        rw [nA_5] at rR2
        have kc : ∀ co, co < 6 → TK co c1 = nApp T c1 k i1 (t1 + 1) v vl co c1 := fun co hco => holdn.2.2.1 co c1 (by omega) hco
        have k4 : TK 4 c1 = v := by rw [kc 4 (by decide), nA_4]
        have k5 : TK 5 c1 = vl := by rw [kc 5 (by decide), nA_5]
        have k0 : TK 0 c1 = k := by rw [kc 0 (by decide), nA_0]
        have k1 : TK 1 c1 = i1 := by rw [kc 1 (by decide), nA_1]
        have hstep : 0 ≤ (if kHold k = true then 4 else vl) := by split <;> omega
        have hbyte : ∀ y : Int, t1 ≤ y → y < v + (if kHold k = true then 4 else vl) → (opn TK fi x c1 → y < v) → h y.toNat = f y.toNat := by
          intro y y1 y2 y3
          refine hB.1 y (by omega) (by omega) (fun q q1 w z => ?_)
          by_cases qc : q < c1
          · have := hanc4 q qc w; omega
          · by_cases qe : q = c1
            · subst qe
              have := y3 w
              omega
            · have := holdn.2.2.2 q (by omega) q1
              have := hT4 q q1 (by omega)
              omega
        have hname : ∀ q, 1 ≤ q → q < c1 → ∀ y : Int, T 3 q ≤ y → y < T 4 q - 1 → h y.toNat = f y.toNat := by
          intro q q0 q1 y y1 y2
          have qr := (hP.2.1 q q0 q1).1.2.2.1
          dsimp only at qr
          have h4 := hH.1 q q1
          have g0 := hold.2.2.1 3 q q1 (by decide)
          have g1 := hold.2.2.1 4 q q1 (by decide)
          dsimp only at h4
          unfold hd at h4
          have hpos : 0 ≤ (if kHold (T 0 q) = true then 4 else T 5 q) := by split <;> omega
          refine hB.1 y (by omega) (by omega) (fun j j1 w z => ?_)
          by_cases jq : j < q
          · have := hHK.2.1 j q jq (by dsimp only; omega)
            dsimp only at this
            unfold hd at this
            rw [opn_hold hPK hx w, if_pos rfl] at this
            omega
          · by_cases je : j = q
            · subst je; omega
            · have a1 := hHK.2.1 q j (by omega) j1
              have a2 := hT4 j j1 (by omega)
              dsimp only at a1
              unfold hd at a1
              rw [hold.2.2.1 0 q q1 (by decide), g1, hold.2.2.1 5 q q1 (by decide)] at a1
              omega
        have hancp : opn TK fi x c1 → opn TK fi x i1.toNat := by
          intro w
          have := opn_par hPK c1p (by omega) w
          rw [k1] at this
          exact this
        obtain ⟨l1, hl1⟩ : ∃ l1, (opn TK fi x c1 → l1 = vl + ch) ∧ (¬ opn TK fi x c1 → l1 = vl) := by
          by_cases w : opn TK fi x c1
          · exact ⟨vl + ch, fun _ => rfl, fun z => absurd w z⟩
          · exact ⟨vl, fun z => absurd z w, fun _ => rfl⟩
        have hnoleaf : kHold k = false → ¬ opn TK fi x c1 := by
          intro q w
          have := opn_hold hPK hx w
          rw [k0, q] at this
          cases this
        have hES := eStep (d := 0) (i1 := i1) (T1 := T1) (c1 := c1) (h := h) (l1 := l1) hlt hF (by omega) (by omega) hv hk (fun y y1 y2 => by rw [Int.add_zero]; exact hbyte y y1 (by omega) (fun _ => y2)) (fun q y y1 y2 => by rw [Int.add_zero]; exact hbyte y (by omega) (by rw [q, if_neg (by decide)]; omega) (fun w => absurd w (hnoleaf q))) (fun q => ?_) (fun q => by rw [hl1.2 (hnoleaf q)]; exact hvl) ?_ ?_ (fun q => ?_)
        · simp only [Int.add_zero] at hES
          have eN1 := hES.2.1
          obtain ⟨s2, q1, q2⟩ := ih (aN f (t1, i1, T, c1)) (aN h (t1, i1, T1, c1)) (by rw [eN]; exact hPn.1) (by rw [eN]; exact hHn) (by
            rw [eN, eN1]
            refine ⟨?_, rfl, rfl, fun q hq => ?_⟩
            · dsimp only
              cases hh : kHold k
              · rw [if_neg (by decide), if_neg (by decide), hl1.2 (hnoleaf hh)]
              · rw [if_pos rfl, if_pos rfl]
            · dsimp only at hq ⊢
              by_cases e : q = c1
              · subst e
                rw [nA_5, nA_5]
                refine ⟨fun co a b => ?_, fun w => hl1.1 w, fun w => hl1.2 w⟩
                rcases (show co = 0 ∨ co = 1 ∨ co = 2 ∨ co = 3 ∨ co = 4 ∨ co = 6 by omega) with rfl | rfl | rfl | rfl | rfl | rfl
                · rw [nA_0, nA_0]
                · rw [nA_1, nA_1]
                · rw [nA_2 ip, nA_2 ip, (s1d i1.toNat (by omega)).1 2 (by decide) (by decide)]
                · rw [nA_3, nA_3]
                · rw [nA_4, nA_4]
                · rw [nA_6, nA_6]
              · obtain ⟨a1, a2, a3⟩ := s1d q (by omega)
                rw [nA_o e (by decide), nA_o e (by decide)]
                refine ⟨fun co a b => ?_, a2, a3⟩
                by_cases e6 : co = 6
                · subst e6
                  rw [nA_6o e ip, nA_6o e ip, a1 6 (by decide) (by decide)]
                · rw [nA_o e (by omega), nA_o e (by omega)]
                  exact a1 co a b) (by rw [eN]; exact hrest)
          exact ⟨s2, ⟨hi, hES.1, q1⟩, q2⟩
        · rw [Int.add_zero]
          by_cases w : opn TK fi x c1
          · have := hB.2 c1 (by omega) w
            rw [k4, k5] at this
            rw [hl1.1 w]
            exact ⟨this.1, this.2.1⟩
          · rw [hl1.2 w]
            have a := hvo.1 q
            have e5 : mLow h v 4 = mLow f v 4 := by
              have e3 : sEq f h v (v + 4) 0 := fun y y1 y2 => by rw [Int.add_zero]; exact hbyte y (by omega) (by rw [if_pos q]; exact y2) (fun z => absurd z w)
              have := mLow_sh (by decide) e3
              rw [Int.add_zero] at this
              exact this
            rw [e5, hvl, aVl_h q]
            exact ⟨rfl, by omega⟩
        · rw [Int.add_zero]
          have eLi := sim1_E hs (show i1.toNat < c1 by omega)
          have eI : tE TK i1.toNat = tE T i1.toNat := tE_ext (fun co hco => hold.2.2.1 co i1.toNat (by omega) hco)
          unfold aLast
          by_cases w : opn TK fi x c1
          · rw [hl1.1 w, eLi.1 (hancp w)]
            omega
          · rw [hl1.2 w]
            by_cases w2 : opn TK fi x i1.toNat
            · rw [eLi.1 w2]
              have a1 := hHK.2.2 c1 (by dsimp only; omega) w
              have a2 := (hB.2 i1.toNat (by omega) w2).2.2
              dsimp only at a1
              have a3 : tE TK c1 = v + vl := by unfold tE; rw [k4, k5]
              omega
            · rw [eLi.2 w2]
              omega
        · refine aNm_sh ((s1d i1.toNat (by omega)).1 0 (by decide) (by decide)) (fun _ => Or.inr ((s1d i1.toNat (by omega)).1 6 (by decide) (by decide))) (fun y y1 y2 => by rw [Int.add_zero]; exact hbyte y (by omega) (by omega) (fun _ => by omega)) (fun q4 q q1 q2 q3 => ⟨q, q1, aSame_iff.mpr ?_⟩) r5
          have sq := (s1d q q1).1
          rw [sq 1 (by decide) (by decide), sq 4 (by decide) (by decide), sq 3 (by decide) (by decide)] at q2
          refine ⟨q2, fun j j1 j2 => ?_⟩
          have := q3 j j1 j2
          rw [sq 3 (by decide) (by decide)] at this
          rw [← this]
          have q0 : 1 ≤ q := by
            by_cases e : q = 0
            · subst e; have := hP.1.2.1.2.1; dsimp only at this; omega
            · omega
          exact (hname q q0 q1 (T 3 q + j) (by omega) (by omega)).symm
        · rw [(s1d i1.toNat (by omega)).1 2 (by decide) (by decide)]
          exact (hvo.1 q).2.2.2
