/-! PURE 13: the run behind an edit. fi: the first row there; mo rows went, mn came; ch bytes more -/
def rho (fi mo mn : Nat) (k : Int) : Int := if k < fi then k else k + mn - mo
def sim3 (pg ch : Int) (fi mo mn : Nat) (x d6 : Int) (anc : Nat → Prop) (TN : Nat → Nat → Int) (s s1 : sS) : Prop :=
  (s1.1 = s.1 + ch ∧ s1.2.1 = rho fi mo mn s.2.1 ∧ (s1.2.2.2 : Int) = s.2.2.2 + mn - mo ∧ fi + mo ≤ s.2.2.2 ∧ (s.2.1 < fi → s.2.1 = -1 ∨ anc s.2.1.toNat) ∧ (s.2.1 < fi ∨ fi + mo ≤ s.2.1))
  ∧ (∀ k, k < fi → (∀ co, co < 5 → s1.2.2.1 co k = s.2.2.1 co k) ∧ (anc k → s1.2.2.1 5 k = s.2.2.1 5 k + ch) ∧ (¬ anc k → s1.2.2.1 5 k = s.2.2.1 5 k) ∧ (¬ (k : Int) = x → s1.2.2.1 6 k = s.2.2.1 6 k) ∧ ((k : Int) = x → s1.2.2.1 6 k = s.2.2.1 6 k + d6))
  ∧ (∀ k, fi + mo ≤ k → k < s.2.2.2 → (s1.2.2.1 0 (k + mn - mo) = s.2.2.1 0 k ∧ s1.2.2.1 2 (k + mn - mo) = s.2.2.1 2 k ∧ s1.2.2.1 5 (k + mn - mo) = s.2.2.1 5 k ∧ s1.2.2.1 6 (k + mn - mo) = s.2.2.1 6 k) ∧ s1.2.2.1 1 (k + mn - mo) = rho fi mo mn (s.2.2.1 1 k) ∧ (s1.2.2.1 3 (k + mn - mo) = s.2.2.1 3 k + ch ∧ s1.2.2.1 4 (k + mn - mo) = s.2.2.1 4 k + ch) ∧ (s.2.2.1 1 k < fi → anc (s.2.2.1 1 k).toNat) ∧ (s.2.2.1 1 k < fi ∨ fi + mo ≤ s.2.2.1 1 k) ∧ pg ≤ s.2.2.1 3 k)
  ∧ ∀ k1, fi ≤ k1 → k1 < fi + mn → ∀ co, co < 6 → s1.2.2.1 co k1 = TN co k1
theorem rho_inj {fi mo mn : Nat} {a b : Int} (ha : a < fi ∨ fi + mo ≤ a) (hb : b < fi ∨ fi + mo ≤ b) (h : rho fi mo mn a = rho fi mo mn b) : a = b := by
  unfold rho at h
  split at h <;> split at h <;> omega
theorem sim3_E {pg ch : Int} {fi mo mn : Nat} {x d6 : Int} {anc : Nat → Prop} {TN : Nat → Nat → Int} {t ins : Int} {T : Nat → Nat → Int} {c : Nat} {s1 : sS} (h : sim3 pg ch fi mo mn x d6 anc TN (t, ins, T, c) s1) {i : Int} (hi : 0 ≤ i ∧ i < c) (h1 : i < fi ∨ fi + mo ≤ i) (h2 : i < fi → anc i.toNat) (hp : T 1 i.toNat < i) (hx : x < fi) :
    tE s1.2.2.1 (rho fi mo mn i).toNat = tE T i.toNat + ch ∧ s1.2.2.1 0 (rho fi mo mn i).toNat = T 0 i.toNat ∧ s1.2.2.1 2 (rho fi mo mn i).toNat = T 2 i.toNat ∧ s1.2.2.1 1 (rho fi mo mn i).toNat = rho fi mo mn (T 1 i.toNat) ∧ (¬ i = x → s1.2.2.1 6 (rho fi mo mn i).toNat = T 6 i.toNat) ∧ (i = x → s1.2.2.1 6 (rho fi mo mn i).toNat = T 6 i.toNat + d6) := by
  obtain ⟨_, hA, hB, _⟩ := h
  dsimp only at hA hB
  by_cases e : i < fi
  · have er : rho fi mo mn i = i := if_pos e
    have er2 : rho fi mo mn (T 1 i.toNat) = T 1 i.toNat := if_pos (by omega)
    obtain ⟨a1, a2, a3, a4, a5⟩ := hA i.toNat (by omega)
    rw [er, er2]
    unfold tE
    refine ⟨by rw [a1 4 (by decide), a2 (h2 e)]; omega, a1 0 (by decide), a1 2 (by decide), a1 1 (by decide), fun w => a4 (by omega), fun w => a5 (by omega)⟩
  · have er : rho fi mo mn i = i + mn - mo := if_neg e
    have er2 : (rho fi mo mn i).toNat = i.toNat + mn - mo := by rw [er]; omega
    obtain ⟨⟨b0, b2, b5, b6⟩, b1, ⟨b3, b4⟩, _⟩ := hB i.toNat (by omega) (by omega)
    rw [er2]
    unfold tE
    refine ⟨by rw [b4, b5]; omega, b0, b2, b1, fun _ => b6, fun w => by omega⟩
/-- what the step behind an edit asks of the new bytes and the new row -/
def eB3 (f h : Nat → Int) (ln : Bool) (n ch p g x d6 : Int) (fi mo mn cnt : Nat) (TN TF : Nat → Nat → Int) : Prop :=
  (∀ y : Int, p + g ≤ y → y < n → h (y + ch).toNat = f y.toNat) ∧ (∀ k1, fi ≤ k1 → k1 < fi + mn → (k1 = fi ∧ TN 1 k1 = x) ∨ (fi ≤ TN 1 k1 ∧ TN 1 k1 < k1))
  ∧ ∀ k : Nat, fi + mo ≤ k → k < cnt → TF 1 k = x → (TF 0 x.toNat = 4 → ln = true ∨ d6 = 0) ∧ (¬ TF 0 x.toNat = 4 → 0 < mn → TN 4 fi - 1 - TN 3 fi = TF 4 k - 1 - TF 3 k → ¬ ∀ j : Int, 0 ≤ j → j < TF 4 k - 1 - TF 3 k → h (TN 3 fi + j).toNat = f (TF 3 k + j).toNat)
/-- names of the rows ahead of the edit are as they were -/
def eNm (f h : Nat → Int) (T : Nat → Nat → Int) (fi : Nat) : Prop := ∀ q, 1 ≤ q → q < fi → ∀ y : Int, T 3 q ≤ y → y < T 4 q - 1 → h y.toNat = f y.toNat
theorem sim3_go {f h : Nat → Int} (hf : ∀ x, 0 ≤ f x ∧ f x ≤ 255) {ln : Bool} {n ch p g x d6 : Int} {fi mo mn cnt : Nat} {anc : Nat → Prop} {TN TF : Nat → Nat → Int} (hx : 0 ≤ x ∧ x < fi) (hp : 0 ≤ p + g ∧ 0 ≤ p + g + ch) (hB : eB3 f h ln n ch p g x d6 fi mo mn cnt TN TF) (hNm : eNm f h TF fi) (hpar : ∀ k, 1 ≤ k → k < fi → anc k → anc (TF 1 k).toNat) :
    ∀ (N : Nat) (s s1 : sS), PC f ln n s → p + g ≤ s.1 → sim3 (p + g) ch fi mo mn x d6 anc TN s s1 → aSt f ln N s (n, -1, TF, cnt) → ∃ s2, aSt h ln N s1 s2 ∧ sim3 (p + g) ch fi mo mn x d6 anc TN (n, -1, TF, cnt) s2 := by
  intro N
  induction N with
  | zero =>
    intro s s1 _ _ hs h2
    have e : (n, -1, TF, cnt) = s := h2
    rw [e]
    exact ⟨s1, rfl, hs⟩
  | succ N ih =>
    intro s s1 hP hpt hs h2
    have hold := aSt_old hf hP h2
    obtain ⟨t, ins, T, c⟩ := s
    obtain ⟨t1, i1, T1, c1⟩ := s1
    have hs0 := hs
    obtain ⟨⟨sa, sb, sc, sd, se, sg⟩, sA, sB, sN⟩ := hs
    dsimp only at sa sb sc sd se sg sA sB sN hold hpt
    subst sa
    subst sb
    obtain ⟨hi, hF, hrest⟩ := h2
    dsimp only at hi
    have hin := PC_ins hP hi
    have hPn := PC_step hf hP hi hF
    have holdn := aSt_old hf hPn.1 hrest
    dsimp only at holdn
    have ip : 0 ≤ ins ∧ ins < c := ⟨hi, hin.1.1⟩
    have c1p : 1 ≤ c := hP.1.1
    have hTp : T 1 ins.toNat < ins ∧ -1 ≤ T 1 ins.toNat := by
      by_cases e : ins = 0
      · subst e; have := hP.1.2.1.2.1; dsimp only at this; rw [show (0 : Int).toNat = 0 from rfl, this]; decide
      · have := (hP.2.1 ins.toNat (by omega) (by dsimp only; omega)).1.1.1
        dsimp only at this
        omega
    have hanc : ins < fi → anc ins.toNat := fun w => by
      rcases se w with q | q
      · omega
      · exact q
    obtain ⟨eE, e0, e2, e1, e6a, e6b⟩ := sim3_E hs0 ip sg hanc hTp.1 hx.2
    dsimp only at eE e0 e2 e1 e6a e6b
    have eL : aLast T1 (rho fi mo mn ins) = aLast T ins + ch := by
      unfold aLast
      rw [eE]
      omega
    have hl : aLast T ins < n := by have := hin.2.2.2.2.2; unfold aLast; omega
    have hri : 0 ≤ rho fi mo mn ins := by unfold rho; split <;> omega
    by_cases c0 : t = aLast T ins
    · have eN : aN f (t, ins, T, c) = (t + 1, T 1 ins.toNat, T, c) := by unfold aN; dsimp only; rw [if_pos c0]
      have fz : f t.toNat = 0 := by
        rcases aF_ok hF hin.2.1.2 with w | w
        · exact w.2
        · have := w.1; omega
      have hz : h (t + ch).toNat = 0 := by rw [hB.1 t hpt (by omega)]; exact fz
      have aF1 : (aF h ln (t + ch, rho fi mo mn ins, T1, c1)).1 = 0 := by
        unfold aF
        dsimp only
        rw [eL, if_pos (by omega), if_pos hz]
      have eN1 : aN h (t + ch, rho fi mo mn ins, T1, c1) = (t + 1 + ch, rho fi mo mn (T 1 ins.toNat), T1, c1) := by
        unfold aN
        dsimp only
        rw [eL, if_pos (by omega), e1, show t + ch + 1 = t + 1 + ch by omega]
      rw [eN] at hrest hPn
      have hsn : sim3 (p + g) ch fi mo mn x d6 anc TN (t + 1, T 1 ins.toNat, T, c) (t + 1 + ch, rho fi mo mn (T 1 ins.toNat), T1, c1) := by
        refine ⟨⟨rfl, rfl, sc, sd, fun w => ?_, ?_⟩, sA, sB, sN⟩
        · dsimp only at w ⊢
          by_cases e : T 1 ins.toNat = -1
          · exact Or.inl e
          · refine Or.inr ?_
            by_cases e2 : ins < fi
            · have := hpar ins.toNat (by omega) (by omega) (hanc e2)
              rw [hold.2.2.1 1 ins.toNat (by omega) (by decide)] at this
              exact this
            · exact (sB ins.toNat (by omega) (by omega)).2.2.2.1 w
        · dsimp only
          by_cases e2 : ins < fi
          · omega
          · exact (sB ins.toNat (by omega) (by omega)).2.2.2.2.1
      obtain ⟨s2, q1, q2⟩ := ih (t + 1, T 1 ins.toNat, T, c) (t + 1 + ch, rho fi mo mn (T 1 ins.toNat), T1, c1) hPn.1 (by dsimp only; omega) hsn hrest
      refine ⟨s2, ⟨hri, aF1, ?_⟩, q2⟩
      rw [eN1]
      exact q1
    · have hlt : t < aLast T ins := by omega
      rcases aF_ok hF hin.2.1.2 with w | ⟨_, r2, r3, r4, r5, r6⟩
      · have := w.1; omega
      · have hve : aV f (t, ins, T, c) = mNz f (aLast T ins) (t + 1) + 1 := rfl
        obtain ⟨z1, z2, z3, z4⟩ := mNz_spec (f := f) (last := aLast T ins) _ (t + 1) rfl (by omega)
        obtain ⟨v, hv⟩ : ∃ v, v = aV f (t, ins, T, c) := ⟨_, rfl⟩
        obtain ⟨k, hk⟩ : ∃ k, k = f t.toNat := ⟨_, rfl⟩
        obtain ⟨vl, hvl⟩ : ∃ vl, vl = aVl f k v := ⟨_, rfl⟩
        have hzv : mNz f (aLast T ins) (t + 1) = v - 1 := by omega
        rw [hzv] at z1 z2 z3 r3 r4 r5 r6
        rw [show v - 1 + 1 = v by omega, ← hk] at r6
        have hvo := aFv_ok r6
        have eN : aN f (t, ins, T, c) = (v + (if kHold k = true then 4 else vl), (if kHold k = true then (c : Int) else ins), nApp T c k ins (t + 1) v vl, c + 1) := by
          unfold aN
          dsimp only
          rw [if_neg c0, ← hk, ← hv, ← hvl]
        rw [eN] at holdn hrest hPn
        dsimp only at holdn
        have rowc := hPn.1.2.1 c c1p (by dsimp only; omega)
        dsimp only at rowc
        have rR := rowc.1.2.2.1
        rw [nA_Ec, nA_1, nA_E (by omega)] at rR
        have rR2 := rR.2.2
        rw [nA_5] at rR2
        have hEc : v + vl ≤ aLast T ins := by unfold aLast; exact rR2.2
        have kc : ∀ co, co < 6 → TF co c = nApp T c k ins (t + 1) v vl co c := fun co hco => holdn.2.2.1 co c (by omega) hco
        have k3 : TF 3 c = t + 1 := by rw [kc 3 (by decide), nA_3]
        have k4 : TF 4 c = v := by rw [kc 4 (by decide), nA_4]
        have k1 : TF 1 c = ins := by rw [kc 1 (by decide), nA_1]
        have ko : ∀ co q, q < c → co < 6 → TF co q = T co q := fun co q hq hco => hold.2.2.1 co q hq hco
        have hbyte : ∀ y : Int, t ≤ y → y < v + vl → h (y + ch).toNat = f y.toNat := fun y y1 y2 => hB.1 y (by omega) (by omega)
        have hES := eStep (d := ch) (i1 := rho fi mo mn ins) (T1 := T1) (c1 := c1) (h := h) (l1 := vl) hlt hF (by omega) (by omega) hv hk (fun y y1 y2 => hbyte y y1 (by omega)) (fun q y y1 y2 => hbyte y (by omega) (by omega)) (fun q => ?_) (fun q => hvl) (by rw [eL]; omega) ?_ (fun q => by rw [e2]; exact (hvo.1 q).2.2.2)
        · have eN1 := hES.2.1
          obtain ⟨s2, q1, q2⟩ := ih _ (aN h (t + ch, rho fi mo mn ins, T1, c1)) hPn.1 (by have := hPn.2; dsimp only at this ⊢; omega) (by
            rw [eN1]
            have hc1 : c1 = c + mn - mo := by omega
            have hric : 0 ≤ rho fi mo mn ins ∧ rho fi mo mn ins < c1 := ⟨hri, by unfold rho; split <;> omega⟩
            refine ⟨⟨rfl, ?_, by dsimp only; omega, by dsimp only; omega, fun w => ?_, ?_⟩, fun q hq => ?_, fun q hq hq2 => ?_, fun q hq hq2 co hco => ?_⟩
            · dsimp only
              cases hh : kHold k
              · rw [if_neg (by decide), if_neg (by decide)]
              · rw [if_pos rfl, if_pos rfl]
                unfold rho
                rw [if_neg (by omega)]
                omega
            · dsimp only at w ⊢
              cases hh : kHold k
              · rw [hh, if_neg (by decide)] at w; rw [if_neg (by decide)]; exact se w
              · rw [hh, if_pos rfl] at w; omega
            · dsimp only
              cases hh : kHold k
              · rw [if_neg (by decide)]; exact sg
              · rw [if_pos rfl]; omega
            · dsimp only
              obtain ⟨a1, a2, a3, a4, a5⟩ := sA q hq
              have qc : q ≠ c := by omega
              have qc1 : q ≠ c1 := by omega
              rw [nA_o qc (by decide), nA_o qc1 (by decide)]
              refine ⟨fun co hco => ?_, a2, a3, fun w => ?_, fun w => ?_⟩
              · rw [nA_o qc (by omega), nA_o qc1 (by omega)]; exact a1 co hco
              · rw [nA_6o qc ip, nA_6o qc1 hric, a4 w]
                by_cases qi : q = ins.toNat
                · rw [if_pos qi, if_pos (by unfold rho; rw [if_pos (by omega)]; exact qi)]
                · rw [if_neg qi, if_neg (by unfold rho; split <;> omega)]
              · rw [nA_6o qc ip, nA_6o qc1 hric, a5 w]
                by_cases qi : q = ins.toNat
                · rw [if_pos qi, if_pos (by unfold rho; rw [if_pos (by omega)]; exact qi)]; omega
                · rw [if_neg qi, if_neg (by unfold rho; split <;> omega)]; omega
            · dsimp only at hq2 ⊢
              by_cases e : q = c
              · subst e
                rw [show q + mn - mo = c1 by omega, nA_0, nA_0, nA_1, nA_1, nA_2 ip, nA_2 hric, nA_3, nA_3, nA_4, nA_4, nA_5, nA_5, nA_6, nA_6, e2]
                exact ⟨⟨rfl, rfl, rfl, rfl⟩, rfl, ⟨rfl, rfl⟩, hanc, sg, by omega⟩
              · obtain ⟨⟨b0, b2, b5, b6⟩, b1, ⟨b3, b4⟩, b7, b8, b9⟩ := sB q hq (by omega)
                have qc1 : q + mn - mo ≠ c1 := by omega
                rw [nA_6o e ip, nA_6o qc1 hric, b6, nA_o e (by decide), nA_o e (by decide), nA_o e (by decide), nA_o e (by decide), nA_o e (by decide), nA_o e (by decide), nA_o qc1 (by decide), nA_o qc1 (by decide), nA_o qc1 (by decide), nA_o qc1 (by decide), nA_o qc1 (by decide), nA_o qc1 (by decide)]
                refine ⟨⟨b0, b2, b5, ?_⟩, b1, ⟨b3, b4⟩, b7, b8, b9⟩
                by_cases qi : q = ins.toNat
                · rw [if_pos qi, if_pos (by unfold rho; rw [if_neg (by omega)]; omega)]
                · rw [if_neg qi, if_neg (by unfold rho; split <;> omega)]
            · dsimp only
              rw [nA_o (by omega) hco]
              exact sN q hq hq2 co hco) hrest
          exact ⟨s2, ⟨hri, hES.1, q1⟩, q2⟩
        · have a := hvo.1 q
          rw [mLow_sh (f := f) (by decide) (fun y y1 y2 => hbyte y (by omega) (by rw [hvl, aVl_h q]; omega)), hvl, aVl_h q]
          exact ⟨rfl, by omega⟩
        · refine aNm_sh e0 (fun q4 => ?_) (fun y y1 y2 => hbyte y (by omega) (by omega)) (fun q4 q q1 q2 q3 => ?_) r5
          · by_cases ex : ins = x
            · rcases (hB.2.2 c sd (by omega) (by rw [k1, ex])).1 (by rw [ko 0 x.toNat (by omega) (by decide), ← ex]; exact q4) with w | w
              · exact Or.inl w
              · refine Or.inr ?_
                rw [e6b ex, w, Int.add_zero]
            · exact Or.inr (e6a ex)
          · by_cases qf : q < fi
            · obtain ⟨a1, a2, a3, a4, a5⟩ := sA q qf
              rw [a1 1 (by decide), a1 4 (by decide), a1 3 (by decide)] at q2
              rw [a1 3 (by decide)] at q3
              have q0 : 1 ≤ q := by
                by_cases e : q = 0
                · subst e; have := hP.1.2.1.2.1; dsimp only at this; omega
                · omega
              have qr := (hP.2.1 q q0 (by dsimp only; omega)).1.1.1
              dsimp only at qr
              have qi : T 1 q = ins := by
                have := q2.1
                unfold rho at this
                split at this <;> omega
              refine ⟨q, by omega, aSame_iff.mpr ⟨⟨qi, q2.2⟩, fun j j1 j2 => ?_⟩⟩
              rw [← q3 j j1 j2]
              refine (hNm q q0 qf (T 3 q + j) ?_ ?_).symm
              · rw [ko 3 q (by omega) (by decide)]; omega
              · rw [ko 4 q (by omega) (by decide)]; omega
            · by_cases qn : q < fi + mn
              · exfalso
                rw [sN q (by omega) qn 1 (by decide), sN q (by omega) qn 4 (by decide), sN q (by omega) qn 3 (by decide)] at q2
                rw [sN q (by omega) qn 3 (by decide)] at q3
                have hh := hB.2.1 q (by omega) qn
                have qx : q = fi ∧ ins = x := by
                  have := q2.1
                  unfold rho at this
                  split at this <;> omega
                obtain ⟨qx1, qx2⟩ := qx
                subst qx1
                refine (hB.2.2 c sd (by omega) (by rw [k1, qx2])).2 (by rw [ko 0 x.toNat (by omega) (by decide), ← qx2]; exact q4) (by omega) (by rw [k4, k3]; exact q2.2) ?_
                intro j j1 j2
                rw [k4, k3] at j2
                rw [k3]
                exact q3 j j1 j2
              · have eq1 : q = q + mo - mn + mn - mo := by omega
                obtain ⟨⟨b0, b2, b5, b6⟩, b1, ⟨b3, b4⟩, b7, b8, b9⟩ := sB (q + mo - mn) (by omega) (by omega)
                rw [← eq1] at b0 b1 b2 b3 b4 b5 b6
                rw [b1, b3, b4] at q2
                rw [b3] at q3
                refine ⟨q + mo - mn, by omega, aSame_iff.mpr ⟨⟨rho_inj b8 sg q2.1, by omega⟩, fun j j1 j2 => ?_⟩⟩
                rw [← q3 j j1 j2]
                have qr := (hP.2.1 (q + mo - mn) (by omega) (by dsimp only; omega)).1.2.2.1
                dsimp only at qr
                have qn2 := (PC_nm hP).2 (q + mo - mn) (by omega) (by dsimp only; omega)
                dsimp only at qn2
                rw [show T 3 (q + mo - mn) + ch + j = T 3 (q + mo - mn) + j + ch by omega]
                exact (hB.1 _ (by omega) (by omega)).symm
