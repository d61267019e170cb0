/-! PURE 15: an element's inside, laid elsewhere. y: its row; fi: the row that it becomes; d: how far its bytes go; dd: how much deeper -/
def simG (d dd : Int) (y fi : Nat) (pv : Int) (s s1 : sS) : Prop :=
  (s1.1 = s.1 + d ∧ s1.2.1 = s.2.1 - y + fi ∧ (s1.2.2.2 : Int) = s.2.2.2 - y + fi ∧ y < s.2.2.2 ∧ pv ≤ s.1)
  ∧ (s1.2.2.1 0 fi = s.2.2.1 0 y ∧ s1.2.2.1 2 fi = s.2.2.1 2 y + dd ∧ s1.2.2.1 4 fi = s.2.2.1 4 y + d ∧ s1.2.2.1 5 fi = s.2.2.1 5 y ∧ s1.2.2.1 6 fi = s.2.2.1 6 y ∧ s1.2.2.1 1 fi < fi)
  ∧ (∀ k, k < fi → s1.2.2.1 1 k < fi)
  ∧ ∀ k, y < k → k < s.2.2.2 → (s1.2.2.1 0 (k - y + fi) = s.2.2.1 0 k ∧ s1.2.2.1 2 (k - y + fi) = s.2.2.1 2 k + dd ∧ s1.2.2.1 5 (k - y + fi) = s.2.2.1 5 k ∧ s1.2.2.1 6 (k - y + fi) = s.2.2.1 6 k) ∧ s1.2.2.1 1 (k - y + fi) = s.2.2.1 1 k - y + fi ∧ (s1.2.2.1 3 (k - y + fi) = s.2.2.1 3 k + d ∧ s1.2.2.1 4 (k - y + fi) = s.2.2.1 4 k + d) ∧ y ≤ s.2.2.1 1 k ∧ pv < s.2.2.1 3 k
theorem simG_i {d dd : Int} {y fi : Nat} {pv t ins : Int} {T : Nat → Nat → Int} {c : Nat} {s1 : sS} (h : simG d dd y fi pv (t, ins, T, c) s1) {i : Int} (hi : y ≤ i ∧ i < c) : tE s1.2.2.1 (i - y + fi).toNat = tE T i.toNat + d ∧ s1.2.2.1 0 (i - y + fi).toNat = T 0 i.toNat ∧ s1.2.2.1 2 (i - y + fi).toNat = T 2 i.toNat + dd ∧ s1.2.2.1 6 (i - y + fi).toNat = T 6 i.toNat := by
  obtain ⟨_, ⟨a0, a2, a4, a5, a6, _⟩, _, hB⟩ := h
  dsimp only at a0 a2 a4 a5 a6 hB
  unfold tE
  by_cases e : i = y
  · rw [show (i - y + fi).toNat = fi by omega, show i.toNat = y by omega]
    exact ⟨by rw [a4, a5]; omega, a0, a2, a6⟩
  · obtain ⟨⟨b0, b2, b5, b6⟩, b1, ⟨b3, b4⟩, _⟩ := hB i.toNat (by omega) (by omega)
    rw [show (i - y + fi).toNat = i.toNat - y + fi by omega]
    exact ⟨by rw [b4, b5]; omega, b0, b2, b6⟩
theorem simG_go {f h : Nat → Int} (hf : ∀ x, 0 ≤ f x ∧ f x ≤ 255) {ln : Bool} {n d dd pv te : Int} {y fi ce : Nat} {TE : Nat → Nat → Int} (hpv : 0 ≤ pv ∧ 0 ≤ pv + d) (hB : ∀ z : Int, pv ≤ z → z ≤ te → h (z + d).toNat = f z.toNat) (hdep : ∀ k, y < k → k < ce → TE 2 k + dd ≤ 16) (hte : tE TE y - 1 = te) :
    ∀ (N : Nat) (s s1 : sS), PC f ln n s → opn s.2.2.1 s.2.2.2 s.2.1 y → simG d dd y fi pv s s1 → aSt f ln N s (te, (y : Int), TE, ce) → ∃ s2, aSt h ln N s1 s2 ∧ simG d dd y fi pv (te, (y : Int), TE, ce) s2 := by
  intro N
  induction N with
  | zero =>
    intro s s1 _ _ hs h2
    have e : (te, (y : Int), TE, ce) = s := h2
    rw [e]
    exact ⟨s1, rfl, hs⟩
  | succ N ih =>
    intro s s1 hP ho hs h2
    have hold := aSt_old hf hP h2
    have hs0 := hs
    obtain ⟨t, ins, T, c⟩ := s
    obtain ⟨t1, i1, T1, c1⟩ := s1
    obtain ⟨⟨sa, sb, sc, sd, se⟩, ⟨a0, a2, a4, a5, a6, a1⟩, sA, sB⟩ := hs
    dsimp only at sa sb sc sd se a0 a2 a4 a5 a6 a1 sA sB hold ho
    subst sa
    subst sb
    obtain ⟨hi, hF, hrest⟩ := h2
    dsimp only at hi
    have hin := PC_ins hP hi
    have hPn := PC_step hf hP hi hF
    have holdn := aSt_old hf hPn.1 hrest
    have hon : opn (aN f (t, ins, T, c)).2.2.1 (aN f (t, ins, T, c)).2.2.2 (aN f (t, ins, T, c)).2.1 y := by
      refine opn_st hf hPn.1 hrest (by have := (aN_old (f := f) (s := (t, ins, T, c))).1; dsimp only at this; omega) ?_
      have PE := PC_st hf hPn.1 hrest
      exact ⟨by dsimp only; omega, fun j a b => PE.2.2.2.2.2.2.1.2 j (by dsimp only; omega) b⟩
    dsimp only at holdn
    have yi : (y : Int) ≤ ins := ho.1
    have ip : 0 ≤ ins ∧ ins < c := ⟨hi, hin.1.1⟩
    have ip1 : 0 ≤ ins - y + fi ∧ ins - y + fi < c1 := ⟨by omega, by omega⟩
    have c1p : 1 ≤ c := hP.1.1
    obtain ⟨eE, e0, e2, e6⟩ := simG_i hs0 (i := ins) ⟨yi, ip.2⟩
    dsimp only at eE e0 e2 e6
    have eL : aLast T1 (ins - y + fi) = aLast T ins + d := by
      unfold aLast
      rw [eE]
      omega
    by_cases c0 : t = aLast T ins
    · have eN : aN f (t, ins, T, c) = (t + 1, T 1 ins.toNat, T, c) := by unfold aN; dsimp only; rw [if_pos c0]
      rw [eN] at hrest hPn hon holdn
      dsimp only at hon holdn
      have yl : (y : Int) < ins := by
        have ho1 := hon.1
        by_cases e : ins = 0
        · subst e
          have h0 := hP.1.2.1.2.1
          dsimp only at h0
          rw [show (0 : Int).toNat = 0 from rfl, h0] at ho1
          omega
        · have := (hP.2.1 ins.toNat (by omega) (by dsimp only; omega)).1.1.1
          dsimp only at this
          omega
      have fz : f t.toNat = 0 := by
        rcases aF_ok hF hin.2.1.2 with w | w
        · exact w.2
        · have := w.1; omega
      have hz : h (t + d).toNat = 0 := by rw [hB t se (by omega)]; exact fz
      have aF1 : (aF h ln (t + d, ins - y + fi, T1, c1)).1 = 0 := by
        unfold aF
        dsimp only
        rw [eL, if_pos (by omega), if_pos hz]
      have b1 := (sB ins.toNat (by omega) (by omega)).2.1
      have eN1 : aN h (t + d, ins - y + fi, T1, c1) = (t + 1 + d, T 1 ins.toNat - y + fi, T1, c1) := by
        unfold aN
        dsimp only
        rw [eL, if_pos (by omega), show (ins - y + fi).toNat = ins.toNat - y + fi by omega, b1, show t + d + 1 = t + 1 + d by omega]
      obtain ⟨s2, q1, q2⟩ := ih (t + 1, T 1 ins.toNat, T, c) (t + 1 + d, T 1 ins.toNat - y + fi, T1, c1) hPn.1 hon ⟨⟨rfl, rfl, sc, sd, by dsimp only; omega⟩, ⟨a0, a2, a4, a5, a6, a1⟩, sA, sB⟩ hrest
      refine ⟨s2, ⟨ip1.1, aF1, ?_⟩, q2⟩
      rw [eN1]
      exact q1
    · have hlt : t < aLast T ins := by omega
      rcases aF_ok hF hin.2.1.2 with w | ⟨_, r2, r3, r4, r5, r6⟩
      · have := w.1; omega
      · have hve : aV f (t, ins, T, c) = mNz f (aLast T ins) (t + 1) + 1 := rfl
        obtain ⟨z1, z2, z3, z4⟩ := mNz_spec (f := f) (last := aLast T ins) _ (t + 1) rfl (by omega)
        obtain ⟨v, hv⟩ : ∃ v, v = aV f (t, ins, T, c) := ⟨_, rfl⟩
        obtain ⟨k, hk⟩ : ∃ k, k = f t.toNat := ⟨_, rfl⟩
        obtain ⟨vl, hvl⟩ : ∃ vl, vl = aVl f k v := ⟨_, rfl⟩
        have hzv : mNz f (aLast T ins) (t + 1) = v - 1 := by omega
        rw [hzv] at z1 z2 z3 r3 r4 r5 r6
        rw [show v - 1 + 1 = v by omega, ← hk] at r6
        have hvo := aFv_ok r6
        have eN : aN f (t, ins, T, c) = (v + (if kHold k = true then 4 else vl), (if kHold k = true then (c : Int) else ins), nApp T c k ins (t + 1) v vl, c + 1) := by
          unfold aN
          dsimp only
          rw [if_neg c0, ← hk, ← hv, ← hvl]
        rw [eN] at holdn hrest hPn hon
        dsimp only at holdn hon
        have rowc := hPn.1.2.1 c c1p (by dsimp only; omega)
        dsimp only at rowc
        have rR := rowc.1.2.2.1
        rw [nA_Ec, nA_1, nA_E (by omega)] at rR
        have rR2 := rR.2.2
        rw [nA_5] at rR2
        have hEc : v + vl ≤ aLast T ins := by unfold aLast; exact rR2.2
        have key : ∀ q : Nat, y ≤ q → q < c → tE T q ≤ te + 1 := by
          intro q
          induction q using Nat.strongRecOn with
          | _ q ihq =>
            intro q1 q2
            by_cases e : q = y
            · subst e
              rw [tE_ext (T := TE) (fun co hco => (hold.2.2.1 co q q2 hco).symm)]
              omega
            · have rr := hP.2.1 q (by omega) q2
              dsimp only at rr
              have rp := rr.1.1.1
              have yp : (y : Int) ≤ T 1 q := ho.2 q (by omega) q2
              have := ihq (T 1 q).toNat (by omega) (by omega) (by omega)
              have := rr.1.2.2.1.2.2.2
              omega
        have hEy : tE T ins.toNat ≤ te + 1 := key ins.toNat (by omega) (by omega)
        have hbyte : ∀ z : Int, t ≤ z → z < v + vl → h (z + d).toNat = f z.toNat := fun z z1 z2 => hB z (by omega) (by unfold aLast at hEc; omega)
        have k2e : kHold k = true → T 2 ins.toNat + dd < 16 := by
          intro q
          have := hdep c (by omega) (by omega)
          rw [holdn.2.2.1 2 c (by omega) (by decide), nA_2 ip, q] at this
          have : bI true = 1 := rfl
          omega
        have hES := eStep (d := d) (i1 := ins - y + fi) (T1 := T1) (c1 := c1) (h := h) (l1 := vl) hlt hF (by omega) (by omega) hv hk (fun z z1 z2 => hbyte z z1 (by omega)) (fun q z z1 z2 => hbyte z (by omega) (by omega)) (fun q => ?_) (fun q => hvl) (by rw [eL]; omega) ?_ (fun q => by rw [e2]; exact k2e q)
        · have eN1 := hES.2.1
          obtain ⟨s2, q1, q2⟩ := ih _ (aN h (t + d, ins - y + fi, T1, c1)) hPn.1 hon (by
            rw [eN1]
            have hc1 : c1 = c - y + fi := by omega
            have hpos : 0 ≤ (if kHold k = true then 4 else vl) := by split <;> omega
            have fc1 : fi ≠ c1 := by omega
            have yc : y ≠ c := by omega
            refine ⟨⟨rfl, ?_, by dsimp only; omega, by dsimp only; omega, by dsimp only; omega⟩, ?_, fun q hq => ?_, fun q hq hq2 => ?_⟩
            · dsimp only
              cases hh : kHold k
              · rw [if_neg (by decide), if_neg (by decide)]
              · rw [if_pos rfl, if_pos rfl]; omega
            · dsimp only
              rw [nA_6o fc1 ip1, nA_6o yc ip, nA_o fc1 (by decide), nA_o fc1 (by decide), nA_o fc1 (by decide), nA_o fc1 (by decide), nA_o fc1 (by decide), nA_o yc (by decide), nA_o yc (by decide), nA_o yc (by decide), nA_o yc (by decide), a6]
              refine ⟨a0, a2, a4, a5, ?_, a1⟩
              by_cases qi : y = ins.toNat
              · rw [if_pos qi, if_pos (by omega)]
              · rw [if_neg qi, if_neg (by omega)]
            · dsimp only
              rw [nA_o (by omega) (by decide)]
              exact sA q hq
            · dsimp only at hq2 ⊢
              by_cases e : q = c
              · subst e
                rw [show q - y + fi = c1 by omega, nA_0, nA_0, nA_1, nA_1, nA_2 ip, nA_2 ip1, nA_3, nA_3, nA_4, nA_4, nA_5, nA_5, nA_6, nA_6, e2]
                exact ⟨⟨rfl, by omega, rfl, rfl⟩, rfl, ⟨rfl, rfl⟩, yi, by omega⟩
              · obtain ⟨⟨b0, b2, b5, b6⟩, b1, ⟨b3, b4⟩, b7, b8⟩ := sB q hq (by omega)
                have qc1 : q - y + fi ≠ c1 := by omega
                rw [nA_6o e ip, nA_6o qc1 ip1, b6, nA_o e (by decide), nA_o e (by decide), nA_o e (by decide), nA_o e (by decide), nA_o e (by decide), nA_o e (by decide), nA_o qc1 (by decide), nA_o qc1 (by decide), nA_o qc1 (by decide), nA_o qc1 (by decide), nA_o qc1 (by decide), nA_o qc1 (by decide)]
                refine ⟨⟨b0, b2, b5, ?_⟩, b1, ⟨b3, b4⟩, b7, b8⟩
                by_cases qi : q = ins.toNat
                · rw [if_pos qi, if_pos (by omega)]
                · rw [if_neg qi, if_neg (by omega)]) hrest
          exact ⟨s2, ⟨ip1.1, hES.1, q1⟩, q2⟩
        · have a := hvo.1 q
          rw [mLow_sh (f := f) (by decide) (fun z z1 z2 => hbyte z (by omega) (by rw [hvl, aVl_h q]; omega)), hvl, aVl_h q]
          exact ⟨rfl, by omega⟩
        · refine aNm_sh e0 (fun _ => Or.inr e6) (fun z z1 z2 => hbyte z (by omega) (by omega)) (fun q4 q q1 q2 q3 => ?_) r5
          have qf : fi < q := by
            by_cases e : q < fi
            · have := sA q e; omega
            · by_cases e3 : q = fi
              · subst e3; omega
              · omega
          have eq1 : q = q - fi + y - y + fi := by omega
          obtain ⟨⟨b0, b2, b5, b6⟩, b1, ⟨b3, b4⟩, b7, b8⟩ := sB (q - fi + y) (by omega) (by omega)
          rw [← eq1] at b0 b1 b2 b3 b4 b5 b6
          rw [b1, b3, b4] at q2
          rw [b3] at q3
          refine ⟨q - fi + y, by omega, aSame_iff.mpr ⟨⟨by omega, by omega⟩, fun j j1 j2 => ?_⟩⟩
          rw [← q3 j j1 j2, show T 3 (q - fi + y) + d + j = T 3 (q - fi + y) + j + d by omega]
          have g1 := hold.2.1
          have qq : q - fi + y < c := by omega
          have hE2 : T 4 (q - fi + y) ≤ te + 1 := by
            have k1 := key (q - fi + y) (by omega) qq
            have k2 := (hP.2.1 (q - fi + y) (by omega) qq).1.2.2.1
            dsimp only at k2
            unfold tE at k1
            omega
          refine (hB _ (by omega) (by omega)).symm
