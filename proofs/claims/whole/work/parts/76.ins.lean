/-! PURE 17: an element more at the end of x -/
theorem elem_ok {h : Nat → Int} {ln : Bool} {t i1 : Int} {T1 : Nat → Nat → Int} {c1 : Nat} {v k l1 : Int} (hkt : h t.toNat = k) (hK : kIs k = true) (h1 : t + 1 ≤ v - 1) (hn : ∀ x : Int, t + 1 ≤ x → x < v - 1 → ¬ h x.toNat = 0) (hz : h (v - 1).toNat = 0) (hbad : mBad h (t + 1) (v - 1) = -1) (hnm : aNm h ln t (v - 1) i1 T1 c1 = true) (hV : aVl h k v = l1) (h0 : 0 ≤ l1) (hl : v + l1 ≤ aLast T1 i1)
    (hH : kHold k = true → 5 ≤ l1 ∧ T1 2 i1.toNat < 16) (hT : k = 2 → 5 ≤ l1 ∧ h (v + l1 - 1).toNat = 0 ∧ mBad h (v + 4) (v + l1 - 1) = -1) (h8 : k = 8 → h v.toNat ≤ 1) :
    (aF h ln (t, i1, T1, c1)).1 = 0 ∧ aN h (t, i1, T1, c1) = (v + (if kHold k = true then 4 else l1), (if kHold k = true then (c1 : Int) else i1), nApp T1 c1 k i1 (t + 1) v l1, c1 + 1) := by
  have hmz : mNz h (aLast T1 i1) (t + 1) = v - 1 := mNz_eq h1 (by omega) hn hz
  have hne : ¬ t = aLast T1 i1 := by omega
  have hfv : aFv h k v (aLast T1 i1) (T1 2 i1.toNat) = (0, -1) := by
    refine aFv_0 (fun w => ?_) (fun w => ?_) (fun w w2 => ?_)
    · have := hH w
      rw [aVl_h w] at hV
      omega
    · have a := hT w
      rw [aVl_2 w] at hV
      refine ⟨by omega, by omega, by omega, ?_, ?_⟩
      · rw [show v + 4 + mLow h v 4 - 1 = v + l1 - 1 by omega]; exact a.2.1
      · rw [show v + 4 + mLow h v 4 - 1 = v + l1 - 1 by omega]; exact a.2.2
    · rw [aVl_n (by rw [w]; decide) w2] at hV
      exact ⟨by omega, h8⟩
  refine ⟨?_, ?_⟩
  · unfold aF
    dsimp only
    rw [if_neg hne]
    unfold aFe
    rw [hkt, if_neg (kIs_0 hK), if_neg (by rw [hK]; decide), hmz, if_neg (by omega), if_neg (fun w => w hbad), hnm, if_neg (by decide), show v - 1 + 1 = v by omega, hfv]
  · unfold aN aV
    dsimp only
    rw [if_neg hne, hmz, hkt, show v - 1 + 1 = v by omega, hV]
/-- what stands open where x ends is x and what it stands in -/
theorem opn_x {TF TK : Nat → Nat → Int} {x fi : Nat} (hfi : x < fi) (hA : ∀ j, j < fi → TK 1 j = TF 1 j) (hf1 : ∀ j : Nat, x < j → j < fi → x ≤ TF 1 j) {q : Nat} : opn TK fi x q ↔ opn TF (x + 1) x q := by
  constructor
  · rintro ⟨a, b⟩
    exact ⟨a, fun j c d => by rw [← hA j (by omega)]; exact b j c (by omega)⟩
  · rintro ⟨a, b⟩
    refine ⟨a, fun j c d => ?_⟩
    rw [hA j d]
    by_cases e : j < x + 1
    · exact b j c e
    · have := hf1 j (by omega) d; omega
theorem atEnd {f : Nat → Int} (hf : ∀ x, 0 ≤ f x ∧ f x ≤ 255) {ln : Bool} {n : Int} {TF : Nat → Nat → Int} {cnt : Nat} (hC : Cert f ln n TF cnt) {x fi : Nat} (hx : x < cnt) (hxh : kHold (TF 0 x) = true) (hfi : x < fi ∧ fi ≤ cnt) (hf1 : ∀ j : Nat, x < j → j < fi → x ≤ TF 1 j) (hf2 : fi < cnt → TF 1 fi < x) :
    ∃ A TK R TR, aSt f ln A (aStart n TF) (tE TF x - 1, (x : Int), TK, fi) ∧ aSt f ln R (tE TF x - 1, (x : Int), TK, fi) (n, -1, TR, cnt) ∧ (∀ co k, k < fi → co < 6 → TK co k = TF co k) ∧ (∀ k, k < fi → TK 6 k = cC TF k fi) ∧ tAg TR TF cnt := by
  have h0 : (aF0 f n).1 = 0 := by rw [Cert_0 hC]
  have hn := hC.1.2.2.1
  have P0 : PC f ln n (aStart n TF) := PC_start h0 hn.2
  have R0 := CR_start (T0 := TF) hC
  have hopen : ∃ N s, aSt f ln N (aStart n TF) s ∧ PC f ln n s ∧ CR n TF cnt s ∧ x < s.2.2.2 ∧ opn s.2.2.1 s.2.2.2 s.2.1 x := by
    by_cases e : x = 0
    · subst e
      exact ⟨0, aStart n TF, rfl, P0, R0, by show 0 < 1; decide, ⟨by show (0 : Int) ≤ 0; decide, fun j a b => by have : j < 1 := b; omega⟩⟩
    · obtain ⟨N, TK, q1, q2, q3⟩ := reach hf hC hx 2000 _ P0 R0 (by show n - 4 < _; omega) (by show 1 ≤ x; omega)
      have rx := hC.2.1 x (by omega) hx
      dsimp only at rx
      have hi : 0 ≤ TF 1 x := rx.1.1.1.1
      have hst := CR_step hC q2 hi
      have hz : (aF f ln (TF 3 x - 1, TF 1 x, TK, x)).1 = 0 := by rw [hst.1]
      have hPs := PC_step hf q3 hi hz
      have hA := q2.2.1.1
      dsimp only at hA
      have hne : ¬ TF 3 x - 1 = aLast TK (TF 1 x) := by
        have : aLast TK (TF 1 x) = tE TF (TF 1 x).toNat - 1 := by
          unfold aLast
          rw [tE_ext (fun co hco => hA co (TF 1 x).toNat (by have := rx.1.1.1; omega) hco)]
        have r3 := rx.1.2.2.1
        have : TF 4 x + TF 5 x = tE TF x := rfl
        omega
      have hk0 : f (TF 3 x - 1).toNat = TF 0 x := rx.1.2.1.2
      refine ⟨N + 1, _, aSt_t q1 (aSt_1 hi hz), hPs.1, hst.2, ?_, ?_⟩
      · unfold aN
        dsimp only
        rw [if_neg hne]
        dsimp only
        omega
      · unfold aN
        dsimp only
        rw [if_neg hne, hk0, if_pos hxh, if_pos hxh]
        exact ⟨by dsimp only; omega, fun j a b => by dsimp only at b; omega⟩
  obtain ⟨N, s, w1, w2, w3, w4, w5⟩ := hopen
  have hs4 := PC_at w2
  obtain ⟨N2, TK, c, q1, q2, q3, q4, q5, q6⟩ := closes hf hC (k := x) (n.toNat + 2) s w2 w3 (by have := w2.2.2.2.2.2.2.2.1; omega) w4 w5
  have hcc : c = fi := by
    by_cases e1 : c < fi
    · have := q6 (by omega)
      have := hf1 c (by omega) e1
      omega
    · by_cases e2 : fi < c
      · have := hf2 (by omega)
        have := q5 fi (by omega) e2
        omega
      · omega
  subst hcc
  obtain ⟨R, TR, r1, r2⟩ := rests hf hC (n.toNat + 2) _ q3 q2 (by have := q3.2.2.2.2.2.2.2.1; dsimp only at *; omega)
  exact ⟨N + N2, TK, R, TR, aSt_t w1 q1, r1, q2.2.1.1, q2.2.1.2, crA_ag hC r2⟩
theorem cC_all {TF : Nat → Nat → Int} {k : Int} {fi : Nat} : ∀ (m : Nat), (∀ j, fi ≤ j → j < fi + m → ¬ TF 1 j = k) → cC TF k (fi + m) = cC TF k fi := fun m h => cC_seg h
theorem noLater {f : Nat → Int} {ln : Bool} {n : Int} {TF : Nat → Nat → Int} {cnt : Nat} (hC : Cert f ln n TF cnt) {x fi : Nat} (hfi : x < fi) (hf2 : fi < cnt → TF 1 fi < x) : ∀ k : Nat, fi ≤ k → k < cnt → TF 1 k < x ∨ fi ≤ TF 1 k := by
  intro k a b
  by_cases e : k = fi
  · subst e; exact Or.inl (hf2 b)
  · have r := hC.2.1 k (by omega) b
    dsimp only at r
    by_cases e2 : TF 1 k < fi
    · have := r.2.2.2.2 fi (by omega) (by omega)
      have := hf2 (by omega)
      omega
    · omega
theorem ins_core {f h : Nat → Int} (hf : ∀ x, 0 ≤ f x ∧ f x ≤ 255) (hh : ∀ x, 0 ≤ h x ∧ h x ≤ 255) {n ch : Int} {TF : Nat → Nat → Int} {cnt : Nat} (hC : Cert f false n TF cnt) {x fi mn : Nat} {TN : Nat → Nat → Int} {k v l1 : Int}
    (hx : x < cnt) (hxh : kHold (TF 0 x) = true) (hfi : x < fi ∧ fi ≤ cnt) (hf1 : ∀ j : Nat, x < j → j < fi → x ≤ TF 1 j) (hf2 : fi < cnt → TF 1 fi < x) (hn : n + ch ≤ 2000) (hch : v + l1 = tE TF x - 1 + ch)
    (hpre : ∀ y : Int, 0 ≤ y → y < tE TF x - 1 → (∀ q, q ≤ x → opn TF (x + 1) x q → ¬ (TF 4 q ≤ y ∧ y < TF 4 q + 4)) → h y.toNat = f y.toNat)
    (hsz : ∀ q, q ≤ x → opn TF (x + 1) x q → mLow h (TF 4 q) 4 = TF 5 q + ch)
    (hsuf : ∀ y : Int, tE TF x - 1 ≤ y → y < n → h (y + ch).toNat = f y.toNat)
    (hkt : h (tE TF x - 1).toNat = k) (hK : kIs k = true) (h1 : tE TF x ≤ v - 1) (hnz : ∀ y : Int, tE TF x ≤ y → y < v - 1 → ¬ h y.toNat = 0) (hz : h (v - 1).toNat = 0) (hbad : mBad h (tE TF x) (v - 1) = -1)
    (hnr : TF 0 x = 4 → mNum h (tE TF x) (v - 1) (TF 6 x) = true)
    (hnd : ¬ TF 0 x = 4 → ∀ q, q < cnt → TF 1 q = x → TF 4 q - 1 - TF 3 q = v - 1 - tE TF x → ¬ ∀ j : Int, 0 ≤ j → j < v - 1 - tE TF x → f (TF 3 q + j).toNat = h (tE TF x + j).toNat)
    (hV : aVl h k v = l1) (h0 : 0 ≤ l1) (hH : kHold k = true → 5 ≤ l1 ∧ TF 2 x < 16) (hT : k = 2 → 5 ≤ l1 ∧ h (v + l1 - 1).toNat = 0 ∧ mBad h (v + 4) (v + l1 - 1) = -1) (h8 : k = 8 → h v.toNat ≤ 1)
    (hTN : TN 1 fi = x ∧ ∀ k1, fi < k1 → k1 < fi + mn → fi ≤ TN 1 k1 ∧ TN 1 k1 < k1) (hmn : 0 < mn)
    (hRun : ∀ T1 : Nat → Nat → Int, T1 2 x = TF 2 x → (∀ q, q < fi → T1 1 q < fi) → PC h false (n + ch) (v + (if kHold k = true then 4 else l1), (if kHold k = true then (fi : Int) else x), nApp T1 fi k x (tE TF x) v l1, fi + 1) → ∃ M T2, aSt h false M (v + (if kHold k = true then 4 else l1), (if kHold k = true then (fi : Int) else x), nApp T1 fi k x (tE TF x) v l1, fi + 1) (v + l1, x, T2, fi + mn) ∧ ∀ k1, fi ≤ k1 → k1 < fi + mn → ∀ co, co < 6 → T2 co k1 = TN co k1) :
    ∃ T1, Cert h false (n + ch) T1 (cnt + mn) := by
  have hF0 : (aF0 f n).1 = 0 := by rw [Cert_0 hC]
  have hn0 := hC.1.2.2.1
  obtain ⟨A, TK, R, TR, sA, sR, hA, hA6, hTR⟩ := atEnd hf hC hx hxh hfi hf1 hf2
  have P0 : PC f false n (aStart n TF) := PC_start hF0 hn0.2
  have PK := PC_st hf P0 sA
  have hin := PC_ins PK (by omega : (0 : Int) ≤ x)
  rw [show ((x : Int)).toNat = x by omega] at hin
  have hno := noLater hC hfi.1 hf2
  have hop : ∀ q, opn TK fi x q ↔ opn TF (x + 1) x q := fun q => opn_x hfi.1 (fun j hj => hA 1 j hj (by decide)) hf1
  have hc6 : TK 6 x = TF 6 x := by
    rw [hA6 x hfi.1]
    have e := hC.2.2.2.2.2.1 x hx
    dsimp only at e
    rw [e]
    have := cC_all (TF := TF) (k := (x : Int)) (fi := fi) (cnt - fi) (fun j a b => by have := hno j a (by omega); omega)
    rw [show fi + (cnt - fi) = cnt by omega] at this
    exact this.symm
  have hE : ∀ q, q < fi → tE TK q = tE TF q := fun q hq => tE_ext (fun co hco => hA co q hq hco)
  have hEx := hE x hfi.1
  have hB : eB1 f h ch (tE TF x - 1) TK fi (opn TK fi x) := by
    refine ⟨fun y y1 y2 y3 => hpre y y1 y2 (fun q q1 q2 => ?_), fun q q1 q2 => ?_⟩
    · have := y3 q (by omega) ((hop q).mpr q2)
      rw [hA 4 q (by omega) (by decide)] at this
      exact this
    · have q3 := (hop q).mp q2
      have qx : q ≤ x := by have := q3.1; omega
      rw [hE q q1, hA 4 q q1 (by decide), hA 5 q q1 (by decide), hsz q qx q3]
      have hq5 : 5 ≤ TF 5 q := by
        by_cases e : q = 0
        · subst e
          have := hC.1.2.1
          dsimp only at this
          omega
        · have := (PK.2.1 q (by omega) q1).2.1.2.2.2
          dsimp only at this
          rw [hA 0 q q1 (by decide), hA 5 q q1 (by decide)] at this
          refine this ?_
          have := opn_hold PK (by omega) q2
          rw [hA 0 q q1 (by decide)] at this
          exact this
      have hEq : tE TF x ≤ tE TF q := by
        have key : ∀ m : Nat, m ≤ x → q ≤ m → opn TF (x + 1) x m → tE TF m ≤ tE TF q := by
          intro m
          induction m using Nat.strongRecOn with
          | _ m ihm =>
            intro m1 m2 m3
            by_cases e : m = q
            · subst e; exact Int.le_refl _
            · have rm := hC.2.1 m (by omega) (by dsimp only; omega)
              dsimp only at rm
              have qm : (q : Int) ≤ TF 1 m := q3.2 m (by omega) (by omega)
              have rp := rm.1.1.1
              have := ihm (TF 1 m).toNat (by omega) (by omega) (by omega) ((hop _).mp (by
                have := opn_par PK (by omega) (by omega) ((hop m).mpr m3)
                rw [hA 1 m (by omega) (by decide)] at this
                exact this))
              have := rm.1.2.2.1.2.2.2
              omega
        exact key x (Nat.le_refl x) qx ⟨by omega, fun j a b => by omega⟩
      exact ⟨rfl, by omega, by omega⟩
  have sR2 : aSt f false R (tE TF x - 1 + 0, (x : Int), TK, fi + 0) (n, -1, TR, cnt) := by rw [Int.add_zero]; exact sR
  obtain ⟨T1, w1, _⟩ := edit (h := h) (ch := ch) (g := 0) (p := tE TF x - 1) (x := (x : Int)) (mo := 0) (mn := mn) (TN := TN) (TK2 := TK) (O := 0) hf hh (by omega) hn hF0 hn0.2 sA (by rw [Int.add_zero]; exact rfl) sR2 (fun w => by omega) (fun j a b => by omega) (by omega) (by omega) hB
    (fun T1 s1 p1 => by
      have s4 := s1.2.2.2
      dsimp only at s4
      have hx1 := (s4 x hfi.1).1
      have e0 : T1 0 x = TF 0 x := by rw [hx1 0 (by decide) (by decide), hA 0 x hfi.1 (by decide)]
      have e2 : T1 2 x = TF 2 x := by rw [hx1 2 (by decide) (by decide), hA 2 x hfi.1 (by decide)]
      have e6 : T1 6 x = TF 6 x := by rw [hx1 6 (by decide) (by decide), hc6]
      have eL : aLast T1 (x : Int) = tE TF x - 1 + ch := by
        unfold aLast
        rw [show ((x : Int)).toNat = x by omega, (sim1_E s1 hfi.1).1 ((hop x).mpr ⟨by omega, fun j a b => by omega⟩), hEx]
        omega
      have hE2 := elem_ok (ln := false) (t := tE TF x - 1) (i1 := (x : Int)) (T1 := T1) (c1 := fi) hkt hK (by omega) (fun y y1 y2 => hnz y (by omega) y2) hz (by rw [show tE TF x - 1 + 1 = tE TF x by omega]; exact hbad) (by
        unfold aNm
        rw [show ((x : Int)).toNat = x by omega, e0, e6, show tE TF x - 1 + 1 = tE TF x by omega]
        by_cases e4 : TF 0 x = 4
        · rw [if_pos e4, hnr e4]; rfl
        · rw [if_neg e4]
          cases hd : aDup T1 h x (tE TF x) (v - 1 - tE TF x) fi
          · rfl
          · exfalso
            obtain ⟨q, q1, q2⟩ := aDup_iff.mp hd
            obtain ⟨q3, q4⟩ := aSame_iff.mp q2
            have sq := (s4 q q1).1
            rw [sq 1 (by decide) (by decide), sq 4 (by decide) (by decide), sq 3 (by decide) (by decide), hA 1 q q1 (by decide), hA 4 q q1 (by decide), hA 3 q q1 (by decide)] at q3
            refine hnd e4 q (by omega) q3.1 q3.2 (fun j j1 j2 => ?_)
            have := q4 j j1 j2
            rw [sq 3 (by decide) (by decide), hA 3 q q1 (by decide)] at this
            rw [← this]
            have q0 : 1 ≤ q := by
              by_cases e : q = 0
              · subst e; have := hC.1.2.1.2.1; dsimp only at this; omega
              · omega
            refine (eNm_B1 (by omega) PK (pcH_st hf P0 pcH_start sA) hB q q0 q1 _ ?_ ?_).symm
            · rw [hA 3 q q1 (by decide)]; omega
            · rw [hA 4 q q1 (by decide)]; omega) hV h0 (by rw [eL]; omega) (fun w => by rw [show ((x : Int)).toNat = x by omega, e2]; exact hH w) hT h8
      rw [show tE TF x - 1 + 1 = tE TF x by omega] at hE2
      have st1 := aSt_1 (f := h) (ln := false) (s := (tE TF x - 1, (x : Int), T1, fi)) (by dsimp only; omega) hE2.1
      rw [hE2.2] at st1
      have p2 := PC_st hh p1 st1
      obtain ⟨M, T2, r1, r2⟩ := hRun T1 e2 (fun q hq => by
        rw [(s4 q hq).1 1 (by decide) (by decide), hA 1 q hq (by decide)]
        by_cases e : q = 0
        · subst e; have := hC.1.2.1.2.1; dsimp only at this; omega
        · have := (hC.2.1 q (by omega) (by dsimp only; omega)).1.1.1
          dsimp only at this
          omega) p2
      refine ⟨1 + M, T2, ?_, r2⟩
      have := aSt_t st1 r1
      rw [hch, show tE TF x - 1 + 0 + ch = tE TF x - 1 + ch by omega] at *
      exact this)
    ⟨fun y y1 y2 => hsuf y (by omega) y2, fun k1 a b => by
      by_cases e : k1 = fi
      · subst e; exact Or.inl ⟨rfl, hTN.1⟩
      · exact Or.inr (hTN.2 k1 (by omega) b), fun q q1 q2 q3 => by
      have := hno q (by omega) q2
      rw [hTR 1 q q2 (by decide)] at q3
      omega⟩
  exact ⟨T1, w1⟩
