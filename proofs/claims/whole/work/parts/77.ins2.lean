/-! PURE 18: what may be added: a leaf, an empty box, a box that stood elsewhere -/
theorem run_leaf {h : Nat → Int} {n1 : Int} {TF : Nat → Nat → Int} {x fi : Nat} {k v l1 a : Int} (hxf : x < fi) (hk : kHold k = false) : ∀ T1 : Nat → Nat → Int, T1 2 x = TF 2 x → (∀ q, q < fi → T1 1 q < fi) → PC h false n1 (v + (if kHold k = true then 4 else l1), (if kHold k = true then (fi : Int) else x), nApp T1 fi k x a v l1, fi + 1) →
    ∃ M T2, aSt h false M (v + (if kHold k = true then 4 else l1), (if kHold k = true then (fi : Int) else x), nApp T1 fi k x a v l1, fi + 1) (v + l1, x, T2, fi + 1) ∧ ∀ k1, fi ≤ k1 → k1 < fi + 1 → ∀ co, co < 6 → T2 co k1 = nApp TF fi k x a v l1 co k1 := by
  intro T1 e2 _ _
  rw [hk, if_neg (by decide), if_neg (by decide)]
  refine ⟨0, nApp T1 fi k x a v l1, rfl, fun k1 a1 a2 co hco => ?_⟩
  have e : k1 = fi := by omega
  subst e
  have ip : (0 : Int) ≤ x ∧ (x : Int) < k1 := ⟨by omega, by omega⟩
  rcases (show co = 0 ∨ co = 1 ∨ co = 2 ∨ co = 3 ∨ co = 4 ∨ co = 5 by omega) with rfl | rfl | rfl | rfl | rfl | rfl
  · rw [nA_0, nA_0]
  · rw [nA_1, nA_1]
  · rw [nA_2 ip, nA_2 ip, show ((x : Int)).toNat = x by omega, e2]
  · rw [nA_3, nA_3]
  · rw [nA_4, nA_4]
  · rw [nA_5, nA_5]
theorem run_box {h : Nat → Int} {n1 : Int} {TF : Nat → Nat → Int} {x fi : Nat} {k v a : Int} (hxf : x < fi) (hv : 0 ≤ v) (hk : kHold k = true) (hz : h (v + 4).toNat = 0) : ∀ T1 : Nat → Nat → Int, T1 2 x = TF 2 x → (∀ q, q < fi → T1 1 q < fi) → PC h false n1 (v + (if kHold k = true then 4 else 5), (if kHold k = true then (fi : Int) else x), nApp T1 fi k x a v 5, fi + 1) →
    ∃ M T2, aSt h false M (v + (if kHold k = true then 4 else 5), (if kHold k = true then (fi : Int) else x), nApp T1 fi k x a v 5, fi + 1) (v + 5, x, T2, fi + 1) ∧ ∀ k1, fi ≤ k1 → k1 < fi + 1 → ∀ co, co < 6 → T2 co k1 = nApp TF fi k x a v 5 co k1 := by
  intro T1 e2 _ _
  rw [if_pos hk, if_pos hk]
  have eL : aLast (nApp T1 fi k x a v 5) (fi : Int) = v + 4 := by
    unfold aLast
    rw [show ((fi : Int)).toNat = fi by omega, nA_Ec]
    omega
  have hF : (aF h false (v + 4, (fi : Int), nApp T1 fi k x a v 5, fi + 1)).1 = 0 := by
    unfold aF
    dsimp only
    rw [eL, if_pos rfl, if_pos hz]
  have eN : aN h (v + 4, (fi : Int), nApp T1 fi k x a v 5, fi + 1) = (v + 5, (x : Int), nApp T1 fi k x a v 5, fi + 1) := by
    unfold aN
    dsimp only
    rw [eL, if_pos rfl, show ((fi : Int)).toNat = fi by omega, nA_1, show v + 4 + 1 = v + 5 by omega]
  have st := aSt_1 (f := h) (ln := false) (s := (v + 4, (fi : Int), nApp T1 fi k x a v 5, fi + 1)) (by dsimp only; omega) hF
  rw [eN] at st
  refine ⟨1, _, st, fun k1 a1 a2 co hco => ?_⟩
  have e : k1 = fi := by omega
  subst e
  have ip : (0 : Int) ≤ x ∧ (x : Int) < k1 := ⟨by omega, by omega⟩
  rcases (show co = 0 ∨ co = 1 ∨ co = 2 ∨ co = 3 ∨ co = 4 ∨ co = 5 by omega) with rfl | rfl | rfl | rfl | rfl | rfl
  · rw [nA_0, nA_0]
  · rw [nA_1, nA_1]
  · rw [nA_2 ip, nA_2 ip, show ((x : Int)).toNat = x by omega, e2]
  · rw [nA_3, nA_3]
  · rw [nA_4, nA_4]
  · rw [nA_5, nA_5]
/-- the state behind the head of box y, and the one where it ends -/
theorem inBox {f : Nat → Int} (hf : ∀ x, 0 ≤ f x ∧ f x ≤ 255) {ln : Bool} {n : Int} {TF : Nat → Nat → Int} {cnt : Nat} (hC : Cert f ln n TF cnt) {y ce : Nat} (hy : y < cnt) (hyh : kHold (TF 0 y) = true) (hfi : y < ce ∧ ce ≤ cnt) (hf1 : ∀ j : Nat, y < j → j < ce → y ≤ TF 1 j) (hf2 : ce < cnt → TF 1 ce < y) :
    ∃ Ty N TE, PC f ln n (TF 4 y + 4, (y : Int), Ty, y + 1) ∧ aSt f ln N (TF 4 y + 4, (y : Int), Ty, y + 1) (tE TF y - 1, (y : Int), TE, ce) ∧ (∀ co, co < 6 → Ty co y = TF co y) ∧ Ty 6 y = 0 ∧ (∀ co q, q < ce → co < 6 → TE co q = TF co q) := by
  have h0 : (aF0 f n).1 = 0 := by rw [Cert_0 hC]
  have hn := hC.1.2.2.1
  have P0 : PC f ln n (aStart n TF) := PC_start h0 hn.2
  have R0 := CR_start (T0 := TF) hC
  have hopen : ∃ Ty, PC f ln n (TF 4 y + 4, (y : Int), Ty, y + 1) ∧ CR n TF cnt (TF 4 y + 4, (y : Int), Ty, y + 1) ∧ Ty 6 y = 0 := by
    by_cases e : y = 0
    · subst e
      have z := hC.1.2.1
      dsimp only at z
      refine ⟨nApp TF 0 3 (-1) (-1) 0 n, ?_⟩
      rw [z.2.2.2.2.1]
      exact ⟨P0, R0, nA_6⟩
    · obtain ⟨N, TK, q1, q2, q3⟩ := reach hf hC hy 2000 _ P0 R0 (by show n - 4 < _; omega) (by show 1 ≤ y; omega)
      have rx := hC.2.1 y (by omega) hy
      dsimp only at rx
      have hi : 0 ≤ TF 1 y := rx.1.1.1.1
      have hst := CR_step hC q2 hi
      have hz : (aF f ln (TF 3 y - 1, TF 1 y, TK, y)).1 = 0 := by rw [hst.1]
      have hPs := PC_step hf q3 hi hz
      have hA := q2.2.1.1
      dsimp only at hA
      have hne : ¬ TF 3 y - 1 = aLast TK (TF 1 y) := by
        have : aLast TK (TF 1 y) = tE TF (TF 1 y).toNat - 1 := by
          unfold aLast
          rw [tE_ext (fun co hco => hA co (TF 1 y).toNat (by have := rx.1.1.1; omega) hco)]
        have r3 := rx.1.2.2.1
        have : TF 4 y + TF 5 y = tE TF y := rfl
        omega
      have hk0 : f (TF 3 y - 1).toNat = TF 0 y := rx.1.2.1.2
      obtain ⟨v, hv⟩ : ∃ v, v = aV f (TF 3 y - 1, TF 1 y, TK, y) := ⟨_, rfl⟩
      have eN : aN f (TF 3 y - 1, TF 1 y, TK, y) = (v + 4, (y : Int), nApp TK y (TF 0 y) (TF 1 y) (TF 3 y - 1 + 1) v (aVl f (TF 0 y) v), y + 1) := by
        unfold aN
        dsimp only
        rw [if_neg hne, hk0, if_pos hyh, if_pos hyh, ← hv]
      have hCn := hst.2
      rw [eN] at hCn hPs
      have a4 := hCn.2.1.1 4 y (by dsimp only; omega) (by decide)
      dsimp only at a4
      rw [nA_4] at a4
      rw [a4] at hCn hPs
      exact ⟨_, hPs.1, hCn, nA_6⟩
  obtain ⟨Ty, w1, w2, w3⟩ := hopen
  have w4 := PC_at w1
  dsimp only at w4
  obtain ⟨N2, TE, c, q1, q2, q3, q4, q5, q6⟩ := closes hf hC (k := y) (n.toNat + 2) _ w1 w2 (by have := w1.2.2.2.2.2.2.2.1; dsimp only at *; omega) (by dsimp only; omega) ⟨by dsimp only; omega, fun j a b => by dsimp only at b; omega⟩
  have hcc : c = ce := by
    by_cases e1 : c < ce
    · have := q6 (by omega)
      have := hf1 c (by omega) e1
      omega
    · by_cases e2 : ce < c
      · have := hf2 (by omega)
        have := q5 ce (by omega) e2
        omega
      · omega
  subst hcc
  exact ⟨Ty, N2, TE, w1, q1, fun co hco => w2.2.1.1 co y (by dsimp only; omega) hco, w3, q2.2.1.1⟩
/-- the rows of a box that was laid elsewhere -/
def gRow (TH TS : Nat → Nat → Int) (y fi : Nat) (d dd : Int) : Nat → Nat → Int := fun co k1 =>
  if k1 = fi then TH co fi else if co = 1 then TS 1 (k1 - fi + y) - y + fi else if co = 2 then TS 2 (k1 - fi + y) + dd else if co = 3 then TS 3 (k1 - fi + y) + d else if co = 4 then TS 4 (k1 - fi + y) + d else TS co (k1 - fi + y)
theorem run_graft {g h : Nat → Int} (hg : ∀ x, 0 ≤ g x ∧ g x ≤ 255) (hh : ∀ x, 0 ≤ h x ∧ h x ≤ 255) {ln : Bool} {n1 ns : Int} {TF TS : Nat → Nat → Int} {cs : Nat} (hC : Cert g ln ns TS cs) {x fi y ce : Nat} {k v l1 a d dd : Int} (hxf : x < fi) (hv : 0 ≤ v)
    (hy : y < cs) (hyh : kHold (TS 0 y) = true) (hk : k = TS 0 y) (hfi : y < ce ∧ ce ≤ cs) (hf1 : ∀ j : Nat, y < j → j < ce → y ≤ TS 1 j) (hf2 : ce < cs → TS 1 ce < y) (hd : TS 4 y + d = v) (hl : l1 = TS 5 y) (hdd : dd = TF 2 x + 1 - TS 2 y)
    (hB : ∀ z : Int, TS 4 y + 4 ≤ z → z < tE TS y → h (z + d).toNat = g z.toNat) (hdep : ∀ q, y < q → q < ce → TS 2 q + dd ≤ 16) :
    ∀ T1 : Nat → Nat → Int, T1 2 x = TF 2 x → (∀ q, q < fi → T1 1 q < fi) → PC h ln n1 (v + (if kHold k = true then 4 else l1), (if kHold k = true then (fi : Int) else x), nApp T1 fi k x a v l1, fi + 1) →
    ∃ M T2, aSt h ln M (v + (if kHold k = true then 4 else l1), (if kHold k = true then (fi : Int) else x), nApp T1 fi k x a v l1, fi + 1) (v + l1, x, T2, fi + (ce - y)) ∧ ∀ k1, fi ≤ k1 → k1 < fi + (ce - y) → ∀ co, co < 6 → T2 co k1 = gRow (nApp TF fi k x a v l1) TS y fi d dd co k1 := by
  intro T1 e2 hp1 p1
  have hkh : kHold k = true := by rw [hk]; exact hyh
  rw [if_pos hkh, if_pos hkh] at p1 ⊢
  obtain ⟨Ty, N, TE, w1, w2, w3, w4, w5⟩ := inBox hg hC hy hyh hfi hf1 hf2
  have ip : (0 : Int) ≤ x ∧ (x : Int) < fi := ⟨by omega, by omega⟩
  have hin := PC_ins w1 (by omega : (0 : Int) ≤ y)
  have h4 : 0 ≤ TS 4 y := by
    have := hin.2.2.2.2.1
    rw [show ((y : Int)).toNat = y by omega, w3 4 (by decide)] at this
    exact this
  have hEy : tE TE y = tE TS y := tE_ext (fun co hco => w5 co y (by omega) hco)
  have hs : simG d dd y fi (TS 4 y + 4) (TS 4 y + 4, (y : Int), Ty, y + 1) (v + 4, (fi : Int), nApp T1 fi k x a v l1, fi + 1) := by
    refine ⟨⟨by dsimp only; omega, by dsimp only; omega, by dsimp only; omega, by dsimp only; omega, by dsimp only; omega⟩, ?_, fun q hq => ?_, fun q q1 q2 => by dsimp only at q2; omega⟩
    · dsimp only
      rw [nA_0, nA_1, nA_2 ip, nA_4, nA_5, nA_6, w3 0 (by decide), w3 2 (by decide), w3 4 (by decide), w3 5 (by decide), w4, hkh, show ((x : Int)).toNat = x by omega, e2]
      have : bI true = 1 := rfl
      exact ⟨hk, by omega, by omega, hl, rfl, by omega⟩
    · dsimp only
      rw [nA_o (by omega) (by decide)]
      exact hp1 q hq
  obtain ⟨s2, r1, r2⟩ := simG_go (f := g) (h := h) hg (te := tE TS y - 1) (TE := TE) (ce := ce) ⟨by omega, by omega⟩ (fun z z1 z2 => hB z z1 (by omega)) (fun q q1 q2 => by rw [w5 2 q q2 (by decide)]; exact hdep q q1 q2) (by rw [hEy]) N _ _ w1 ⟨by dsimp only; omega, fun j a b => by dsimp only at b; omega⟩ hs w2
  obtain ⟨t2, i2, T2, c2⟩ := s2
  obtain ⟨⟨u1, u2, u3, u4, u5⟩, ⟨u6, u7, u8, u9, u10, u11⟩, u12, u13⟩ := r2
  dsimp only at u1 u2 u3 u4 u5 u6 u7 u8 u9 u10 u11 u12 u13
  have ei : i2 = fi := by omega
  have ec : c2 = fi + (ce - y) := by omega
  have et : t2 = v + l1 - 1 := by
    have : tE TS y = TS 4 y + TS 5 y := rfl
    omega
  subst ei
  subst ec
  have PE := PC_st hg w1 w2
  have hout := aSt_old hh p1 r1
  dsimp only at hout
  have hfi1 : ∀ co, co < 6 → T2 co fi = nApp TF fi k x a v l1 co fi := by
    intro co hco
    rw [hout.2.2.1 co fi (by omega) hco]
    rcases (show co = 0 ∨ co = 1 ∨ co = 2 ∨ co = 3 ∨ co = 4 ∨ co = 5 by omega) with rfl | rfl | rfl | rfl | rfl | rfl
    · rw [nA_0, nA_0]
    · rw [nA_1, nA_1]
    · rw [nA_2 ip, nA_2 ip, show ((x : Int)).toNat = x by omega, e2]
    · rw [nA_3, nA_3]
    · rw [nA_4, nA_4]
    · rw [nA_5, nA_5]
  have eL : aLast T2 (fi : Int) = t2 := by
    unfold aLast tE
    rw [show ((fi : Int)).toNat = fi by omega, u8, u9, w5 4 y (by omega) (by decide), w5 5 y (by omega) (by decide), et]
    omega
  have hz : h t2.toNat = 0 := by
    have := hC.2.2.2.2.1 y hy hyh (fun w => by have := w.1; dsimp only at this; omega)
    dsimp only at this
    rw [u1, hB (tE TS y - 1) (by
      have := hin.2.2.2.1
      rw [show ((y : Int)).toNat = y by omega, w3 5 (by decide)] at this
      have : tE TS y = TS 4 y + TS 5 y := rfl
      omega) (by omega)]
    exact this
  have hF : (aF h ln (t2, (fi : Int), T2, fi + (ce - y))).1 = 0 := by
    unfold aF
    dsimp only
    rw [eL, if_pos rfl, if_pos hz]
  have hrow : ∀ k1, fi ≤ k1 → k1 < fi + (ce - y) → ∀ co, co < 6 → T2 co k1 = gRow (nApp TF fi k x a v l1) TS y fi d dd co k1 := by
    intro k1 a1 a2 co hco
    unfold gRow
    by_cases e : k1 = fi
    · subst e
      rw [if_pos rfl]
      exact hfi1 co hco
    · rw [if_neg e]
      obtain ⟨⟨b0, b2, b5, b6⟩, b1, ⟨b3, b4⟩, _⟩ := u13 (k1 - fi + y) (by omega) (by omega)
      rw [show k1 - fi + y - y + fi = k1 by omega] at b0 b1 b2 b3 b4 b5
      have wq := fun co hco => w5 co (k1 - fi + y) (by omega) hco
      rcases (show co = 0 ∨ co = 1 ∨ co = 2 ∨ co = 3 ∨ co = 4 ∨ co = 5 by omega) with rfl | rfl | rfl | rfl | rfl | rfl
      · rw [if_neg (by decide), if_neg (by decide), if_neg (by decide), if_neg (by decide), b0, wq 0 (by decide)]
      · rw [if_pos rfl, b1, wq 1 (by decide)]
      · rw [if_neg (by decide), if_pos rfl, b2, wq 2 (by decide)]
      · rw [if_neg (by decide), if_neg (by decide), if_pos rfl, b3, wq 3 (by decide)]
      · rw [if_neg (by decide), if_neg (by decide), if_neg (by decide), if_pos rfl, b4, wq 4 (by decide)]
      · rw [if_neg (by decide), if_neg (by decide), if_neg (by decide), if_neg (by decide), b5, wq 5 (by decide)]
  have eN : aN h (t2, (fi : Int), T2, fi + (ce - y)) = (v + l1, (x : Int), T2, fi + (ce - y)) := by
    unfold aN
    dsimp only
    rw [eL, if_pos rfl, show ((fi : Int)).toNat = fi by omega, hfi1 1 (by decide), nA_1, show t2 + 1 = v + l1 by omega]
  have st := aSt_1 (f := h) (ln := ln) (s := (t2, (fi : Int), T2, fi + (ce - y))) (by dsimp only; omega) hF
  rw [eN] at st
  exact ⟨N + 1, T2, aSt_t r1 st, hrow⟩
