/-! PURE 19: an element goes, or another comes in its place -/
theorem sim3_ag {pg ch : Int} {fi mo mn cnt : Nat} {x d6 n : Int} {anc : Nat → Prop} {TN TR TF : Nat → Nat → Int} {s1 : sS} (h : sim3 pg ch fi mo mn x d6 anc TN (n, -1, TR, cnt) s1) (ha : tAg TR TF cnt) : sim3 pg ch fi mo mn x d6 anc TN (n, -1, TF, cnt) s1 := by
  obtain ⟨a, b, c, d⟩ := h
  dsimp only at a b c d
  refine ⟨a, fun k hk => ?_, fun k k1 k2 => ?_, d⟩
  · dsimp only
    obtain ⟨b1, b2, b3, b4, b5⟩ := b k hk
    have hkc : k < cnt := by omega
    rw [← ha 5 k hkc (by decide), ← ha 6 k hkc (by decide)]
    exact ⟨fun co hco => by rw [← ha co k hkc (by omega)]; exact b1 co hco, b2, b3, b4, b5⟩
  · dsimp only at k2 ⊢
    have := c k k1 k2
    rw [← ha 0 k k2 (by decide), ← ha 1 k k2 (by decide), ← ha 2 k k2 (by decide), ← ha 3 k k2 (by decide), ← ha 4 k k2 (by decide), ← ha 5 k k2 (by decide), ← ha 6 k k2 (by decide)]
    exact this
theorem row_core {f h : Nat → Int} (hf : ∀ x, 0 ≤ f x ∧ f x ≤ 255) (hh : ∀ x, 0 ≤ h x ∧ h x ≤ 255) {ln : Bool} {n ch : Int} {TF : Nat → Nat → Int} {cnt : Nat} (hC : Cert f ln n TF cnt) {k ce mn x : Nat} {TN : Nat → Nat → Int} (k1 : 1 ≤ k) (hk : k < cnt) (hx : TF 1 k = x) (hce : k < ce ∧ ce ≤ cnt) (hf1 : ∀ j : Nat, k < j → j < ce → k ≤ TF 1 j) (hf2 : ce < cnt → TF 1 ce < k)
    (hn : n + ch ≤ 2000) (hgc : TF 3 k - 1 ≤ tE TF k + ch)
    (hpre : ∀ y : Int, 0 ≤ y → y < TF 3 k - 1 → (∀ q, q ≤ x → opn TF (x + 1) x q → ¬ (TF 4 q ≤ y ∧ y < TF 4 q + 4)) → h y.toNat = f y.toNat)
    (hsz : ∀ q, q ≤ x → opn TF (x + 1) x q → mLow h (TF 4 q) 4 = TF 5 q + ch)
    (hsuf : ∀ y : Int, tE TF k ≤ y → y < n → h (y + ch).toNat = f y.toNat)
    (hTN : (0 < mn → TN 1 k = x) ∧ ∀ q, k < q → q < k + mn → k ≤ TN 1 q ∧ TN 1 q < q)
    (hNew : ∀ T1 : Nat → Nat → Int, (T1 0 x = TF 0 x ∧ T1 2 x = TF 2 x ∧ T1 6 x = cC TF x k ∧ aLast T1 x = aLast TF x + ch) → (∀ q, q < k → T1 1 q = TF 1 q ∧ T1 3 q = TF 3 q ∧ T1 4 q = TF 4 q) → eNm f h TF k → PC h ln (n + ch) (TF 3 k - 1, (x : Int), T1, k) → ∃ M T2, aSt h ln M (TF 3 k - 1, (x : Int), T1, k) (tE TF k + ch, (x : Int), T2, k + mn) ∧ ∀ q, k ≤ q → q < k + mn → ∀ co, co < 6 → T2 co q = TN co q)
    (hlat : ∀ q : Nat, ce ≤ q → q < cnt → TF 1 q = x → (TF 0 x = 4 → ln = true ∨ 0 < mn) ∧ (¬ TF 0 x = 4 → 0 < mn → TN 4 k - 1 - TN 3 k = TF 4 q - 1 - TF 3 q → ¬ ∀ j : Int, 0 ≤ j → j < TF 4 q - 1 - TF 3 q → h (TN 3 k + j).toNat = f (TF 3 q + j).toNat)) :
    ∃ T1, Cert h ln (n + ch) T1 (cnt + mn - (ce - k)) ∧ sim3 (tE TF k) ch k (ce - k) mn x ((if mn = 0 then 0 else 1) - 1) (opn TF (x + 1) x) TN (n, -1, TF, cnt) (n + ch, -1, T1, cnt + mn - (ce - k)) := by
  have hF0 : (aF0 f n).1 = 0 := by rw [Cert_0 hC]
  have hn0 := hC.1.2.2.1
  have P0 : PC f ln n (aStart n TF) := PC_start hF0 hn0.2
  have R0 := CR_start (T0 := TF) hC
  have rk := hC.2.1 k k1 hk
  dsimp only at rk
  have rp := rk.1.1.1
  have r3 := rk.1.2.2.1
  have hEk : TF 4 k + TF 5 k = tE TF k := rfl
  rw [hx, show ((x : Int)).toNat = x by omega] at r3
  obtain ⟨A, TK, q1, q2, q3⟩ := reach hf hC hk 2000 _ P0 R0 (by show n - 4 < _; omega) (by show 1 ≤ k; omega)
  obtain ⟨O, TK2, c, o1, o2, o3, o4, o5, o6⟩ := afterRow hf hC k1 hk q2 q3
  have hcc : c = ce := by
    by_cases e1 : c < ce
    · have := o6 (by omega)
      have := hf1 c (by omega) e1
      omega
    · by_cases e2 : ce < c
      · have := hf2 (by omega)
        have := o5 ce (by omega) e2
        omega
      · omega
  subst hcc
  obtain ⟨R, TR, r1, r2⟩ := rests hf hC (n.toNat + 2) _ o3 o2 (by have := o3.2.2.2.2.2.2.2.1; dsimp only at *; omega)
  have hTR := crA_ag hC r2
  have hA := q2.2.1.1
  have hA6 := q2.2.1.2
  have hA2 := o2.2.1.1
  dsimp only at hA hA6 hA2
  rw [hx] at q1 q2 q3 o1 o2 o3 r1
  have hxk : x < k := by omega
  have hop : ∀ q, opn TK k x q ↔ opn TF (x + 1) x q := fun q => opn_x hxk (fun j hj => hA 1 j hj (by decide)) (fun j a b => by have := rk.2.2.2.2 j (by omega) b; omega)
  have hanc : opn TK k (x : Int) = opn TF (x + 1) (x : Int) := funext fun q => propext (hop q)
  have HK := pcH_st hf P0 pcH_start q1
  have hE : ∀ q, q < k → tE TK q = tE TF q := fun q hq => tE_ext (fun co hco => hA co q hq hco)
  have hB : eB1 f h ch (TF 3 k - 1) TK k (opn TK k x) := by
    refine ⟨fun y y1 y2 y3 => hpre y y1 y2 (fun q w1 w2 => ?_), fun q w1 w2 => ?_⟩
    · have := y3 q (by omega) ((hop q).mpr w2)
      rw [hA 4 q (by omega) (by decide)] at this
      exact this
    · have w3 := (hop q).mp w2
      have qx : q ≤ x := by have := w3.1; omega
      have hhd := HK.1 q w1
      dsimp only at hhd
      unfold hd at hhd
      rw [opn_hold q3 (by omega) w2, if_pos rfl] at hhd
      rw [hE q w1, hA 4 q w1 (by decide), hA 5 q w1 (by decide), hsz q qx w3]
      rw [hA 4 q w1 (by decide)] at hhd
      have hEq : tE TF x ≤ tE TF q := by
        have key : ∀ m : Nat, m ≤ x → q ≤ m → tE TF m ≤ tE TF q := by
          intro m
          induction m using Nat.strongRecOn with
          | _ m ihm =>
            intro m1 m2
            by_cases e : m = q
            · subst e; exact Int.le_refl _
            · have rm := hC.2.1 m (by omega) (by dsimp only; omega)
              dsimp only at rm
              have qm : (q : Int) ≤ TF 1 m := w3.2 m (by omega) (by omega)
              have rp := rm.1.1.1
              have := ihm (TF 1 m).toNat (by omega) (by omega) (by omega)
              have := rm.1.2.2.1.2.2.2
              omega
        exact key x (Nat.le_refl x) qx
      have hq : tE TF q = TF 4 q + TF 5 q := rfl
      exact ⟨rfl, by omega, by omega⟩
  have ek : k + (c - k) = c := by omega
  have s1e : aSt f ln O (TF 3 k - 1, (x : Int), TK, k) (TF 3 k - 1 + (tE TF k - (TF 3 k - 1)), (x : Int), TK2, k + (c - k)) := by
    rw [ek, show TF 3 k - 1 + (tE TF k - (TF 3 k - 1)) = tE TF k by omega]; exact o1
  have s2e : aSt f ln R (TF 3 k - 1 + (tE TF k - (TF 3 k - 1)), (x : Int), TK2, k + (c - k)) (n, -1, TR, cnt) := by
    rw [ek, show TF 3 k - 1 + (tE TF k - (TF 3 k - 1)) = tE TF k by omega]; exact r1
  have hmo : ¬ c - k = 0 := by omega
  obtain ⟨T1, w1, w2⟩ := edit (h := h) (ch := ch) (g := tE TF k - (TF 3 k - 1)) (p := TF 3 k - 1) (x := (x : Int)) (mo := c - k) (mn := mn) (TN := TN) hf hh (by omega) hn hF0 hn0.2 q1 s1e s2e (fun _ => by rw [hA2 1 k (by omega) (by decide), hx]) (fun j a b => by rw [hA2 1 j (by omega) (by decide)]; exact o5 j a (by omega)) (by omega) (by omega) hB
    (fun T1 s1 p1 => by
      have s4 := s1.2.2.2
      dsimp only at s4
      have hx1 := (s4 x hxk).1
      have e6 : T1 6 x = cC TF x k := by rw [hx1 6 (by decide) (by decide), hA6 x hxk]
      have eL : aLast T1 (x : Int) = aLast TF x + ch := by
        unfold aLast
        rw [show ((x : Int)).toNat = x by omega, (sim1_E s1 hxk).1 ((hop x).mpr ⟨by omega, fun j a b => by omega⟩), hE x hxk]
        omega
      have hN : eNm f h TF k := by
        have := eNm_B1 (by omega) q3 HK hB
        intro q w1 w2 y y1 y2
        exact this q w1 w2 y (by rw [hA 3 q w2 (by decide)]; exact y1) (by rw [hA 4 q w2 (by decide)]; exact y2)
      obtain ⟨M, T2, t1, t2⟩ := hNew T1 ⟨by rw [hx1 0 (by decide) (by decide), hA 0 x hxk (by decide)], by rw [hx1 2 (by decide) (by decide), hA 2 x hxk (by decide)], e6, eL⟩ (fun q hq => ⟨by rw [(s4 q hq).1 1 (by decide) (by decide), hA 1 q hq (by decide)], by rw [(s4 q hq).1 3 (by decide) (by decide), hA 3 q hq (by decide)], by rw [(s4 q hq).1 4 (by decide) (by decide), hA 4 q hq (by decide)]⟩) hN p1
      refine ⟨M, T2, ?_, t2⟩
      rw [show TF 3 k - 1 + (tE TF k - (TF 3 k - 1)) + ch = tE TF k + ch by omega]
      exact t1)
    ⟨fun y y1 y2 => hsuf y (by omega) y2, fun q a b => by
      by_cases e : q = k
      · subst e; exact Or.inl ⟨rfl, hTN.1 (by omega)⟩
      · exact Or.inr (hTN.2 q (by omega) b), fun q a b w => by
      rw [hTR 1 q b (by decide)] at w
      rw [show ((x : Int)).toNat = x by omega, hTR 0 x (by omega) (by decide), hTR 4 q b (by decide), hTR 3 q b (by decide)]
      have hl := hlat q (by omega) b w
      refine ⟨fun e4 => ?_, hl.2⟩
      rcases hl.1 e4 with v | v
      · exact Or.inl v
      · refine Or.inr ?_
        rw [if_neg (by omega), if_neg hmo]
        rfl⟩
  rw [hanc, show TF 3 k - 1 + (tE TF k - (TF 3 k - 1)) = tE TF k by omega, if_neg hmo] at w2
  exact ⟨T1, w1, sim3_ag w2 hTR⟩
