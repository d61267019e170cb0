/-! PURE 14: where a run comes by; an edit of right bytes -/
theorem CR_ins {n : Int} {T : Nat → Nat → Int} {cnt : Nat} {t ins : Int} {Tr : Nat → Nat → Int} {c : Nat} (h : CR n T cnt (t, ins, Tr, c)) : (ins = -1 ∧ c = cnt ∧ t = n) ∨ 0 ≤ ins := by
  rcases h.2.2 with a | a
  · exact Or.inl a
  · exact Or.inr a.1.1.1
theorem reach {f : Nat → Int} (hf : ∀ x, 0 ≤ f x ∧ f x ≤ 255) {ln : Bool} {n : Int} {TF : Nat → Nat → Int} {cnt : Nat} (hC : Cert f ln n TF cnt) {k : Nat} (hk : k < cnt) : ∀ (M : Nat) (s : sS), PC f ln n s → CR n TF cnt s → n - s.1 < M → s.2.2.2 ≤ k → ∃ N TK, aSt f ln N s (TF 3 k - 1, TF 1 k, TK, k) ∧ CR n TF cnt (TF 3 k - 1, TF 1 k, TK, k) ∧ PC f ln n (TF 3 k - 1, TF 1 k, TK, k) := by
  intro M
  induction M with
  | zero => intro s h _ h2 _; have := PC_at h; omega
  | succ M ih =>
    intro s h hR h2 h3
    obtain ⟨t, ins, Tr, c⟩ := s
    dsimp only at h2 h3
    rcases CR_ins hR with a | hi
    · omega
    · have hst := CR_step hC hR hi
      have hz : (aF f ln (t, ins, Tr, c)).1 = 0 := by rw [hst.1]
      have hP := PC_step hf h hi hz
      by_cases e : (aN f (t, ins, Tr, c)).2.2.2 ≤ k
      · obtain ⟨N, TK, q1, q2⟩ := ih _ hP.1 hst.2 (by omega) e
        exact ⟨N + 1, TK, ⟨hi, hz, q1⟩, q2⟩
      · have hA := hst.2.2.1.1
        by_cases c0 : t = aLast Tr ins
        · unfold aN at e
          dsimp only at e
          rw [if_pos c0] at e
          exact absurd h3 e
        · unfold aN at e hA
          dsimp only at e hA
          rw [if_neg c0] at e hA
          dsimp only at e hA
          have ek : c = k := by omega
          subst ek
          have a3 := hA 3 c (by omega) (by decide)
          have a1 := hA 1 c (by omega) (by decide)
          rw [nA_3] at a3
          rw [nA_1] at a1
          refine ⟨0, Tr, ?_⟩
          have e2 : (TF 3 c - 1, TF 1 c, Tr, c) = (t, ins, Tr, c) := by rw [← a1, ← a3, show t + 1 - 1 = t by omega]
          rw [e2]
          exact ⟨rfl, hR, h⟩
theorem closes {f : Nat → Int} (hf : ∀ x, 0 ≤ f x ∧ f x ≤ 255) {ln : Bool} {n : Int} {TF : Nat → Nat → Int} {cnt : Nat} (hC : Cert f ln n TF cnt) {k : Nat} : ∀ (M : Nat) (s : sS), PC f ln n s → CR n TF cnt s → n - s.1 < M → k < s.2.2.2 → opn s.2.2.1 s.2.2.2 s.2.1 k → ∃ N TK c, aSt f ln N s (tE TF k - 1, (k : Int), TK, c) ∧ CR n TF cnt (tE TF k - 1, (k : Int), TK, c) ∧ PC f ln n (tE TF k - 1, (k : Int), TK, c) ∧ (k < c ∧ c ≤ cnt) ∧ (∀ j : Nat, k < j → j < c → k ≤ TF 1 j) ∧ (c < cnt → TF 1 c < k) := by
  intro M
  induction M with
  | zero => intro s h _ h2 _ _; have := PC_at h; omega
  | succ M ih =>
    intro s h hR h2 h3 ho
    obtain ⟨t, ins, Tr, c⟩ := s
    dsimp only at h2 h3 ho
    rcases CR_ins hR with a | hi
    · have := ho.1; omega
    · have hst := CR_step hC hR hi
      have hz : (aF f ln (t, ins, Tr, c)).1 = 0 := by rw [hst.1]
      have hP := PC_step hf h hi hz
      have hin := PC_ins h hi
      have hA := hR.2.1.1
      dsimp only at hA
      by_cases e : opn (aN f (t, ins, Tr, c)).2.2.1 (aN f (t, ins, Tr, c)).2.2.2 (aN f (t, ins, Tr, c)).2.1 k
      · obtain ⟨N, TK, c2, q1, q2⟩ := ih _ hP.1 hst.2 (by omega) (by have := (aN_old (f := f) (s := (t, ins, Tr, c))).1; dsimp only at this; omega) e
        exact ⟨N + 1, TK, c2, ⟨hi, hz, q1⟩, q2⟩
      · by_cases c0 : t = aLast Tr ins
        · have eN : aN f (t, ins, Tr, c) = (t + 1, Tr 1 ins.toNat, Tr, c) := by unfold aN; dsimp only; rw [if_pos c0]
          rw [eN] at e
          have hC2 := hst.2
          rw [eN] at hC2
          dsimp only at e
          rcases opn_close h hi e with w | w
          · exact absurd ho w
          · have ek : k = ins.toNat := by omega
            have et : tE TF k - 1 = t := by
              rw [c0]
              unfold aLast
              rw [← ek, tE_ext (fun co hco => hA co k h3 hco)]
            refine ⟨0, Tr, c, ?_⟩
            rw [et, w]
            refine ⟨rfl, hR, h, ⟨h3, hR.1.2⟩, fun j j1 j2 => ?_, fun hc => ?_⟩
            · rw [← hA 1 j j2 (by decide)]
              have := ho.2 j j1 j2
              omega
            · rcases hC2.2.2 with q | q
              · have := q.2.1; dsimp only at this; omega
              · have q3 := q.2.2.1 c (Nat.le_refl c) hc
                dsimp only at q3
                have r := (hC.2.1 c (by omega) hc).1.1.1
                dsimp only at r
                have hTk : Tr 1 ins.toNat < ins := by
                  by_cases e0 : ins = 0
                  · subst e0; have := h.1.2.1.2.1; dsimp only at this; rw [show (0 : Int).toNat = 0 from rfl, this]; decide
                  · have := (h.2.1 ins.toNat (by omega) (by dsimp only; omega)).1.1.1
                    dsimp only at this
                    omega
                omega
        · exfalso
          apply e
          unfold aN
          dsimp only
          rw [if_neg c0]
          dsimp only
          exact (opn_app h hi (by split <;> omega) h3).mpr ho
theorem rests {f : Nat → Int} (hf : ∀ x, 0 ≤ f x ∧ f x ≤ 255) {ln : Bool} {n : Int} {TF : Nat → Nat → Int} {cnt : Nat} (hC : Cert f ln n TF cnt) : ∀ (M : Nat) (s : sS), PC f ln n s → CR n TF cnt s → n - s.1 < M → ∃ N TR, aSt f ln N s (n, -1, TR, cnt) ∧ crA TF TR cnt := by
  intro M
  induction M with
  | zero => intro s h _ h2; have := PC_at h; omega
  | succ M ih =>
    intro s h hR h2
    obtain ⟨t, ins, Tr, c⟩ := s
    dsimp only at h2
    rcases CR_ins hR with ⟨a1, a2, a3⟩ | hi
    · refine ⟨0, Tr, ?_⟩
      rw [← a1, ← a2, ← a3]
      exact ⟨rfl, hR.2.1⟩
    · have hst := CR_step hC hR hi
      have hz : (aF f ln (t, ins, Tr, c)).1 = 0 := by rw [hst.1]
      have hP := PC_step hf h hi hz
      obtain ⟨N, TR, q1, q2⟩ := ih _ hP.1 hst.2 (by omega)
      exact ⟨N + 1, TR, ⟨hi, hz, q1⟩, q2⟩
theorem Cert_0 {f : Nat → Int} {ln : Bool} {n : Int} {TF : Nat → Nat → Int} {cnt : Nat} (hC : Cert f ln n TF cnt) : aF0 f n = (0, -1) := by
  have h := hC.1
  dsimp only at h
  obtain ⟨_, _, h3, h4⟩ := h
  unfold aF0
  rw [h4, if_neg (by omega), if_neg (by omega), if_neg (by omega)]
theorem CR_st {f : Nat → Int} (hf : ∀ x, 0 ≤ f x ∧ f x ≤ 255) {ln : Bool} {n : Int} {TF : Nat → Nat → Int} {cnt : Nat} (hC : Cert f ln n TF cnt) : ∀ {N : Nat} {s s1 : sS}, CR n TF cnt s → aSt f ln N s s1 → CR n TF cnt s1 := by
  intro N
  induction N with
  | zero => intro s s1 h h2; rw [show s1 = s from h2]; exact h
  | succ N ih =>
    intro s s1 h h2
    obtain ⟨t, ins, Tr, c⟩ := s
    exact ih (CR_step hC h h2.1).2 h2.2.2
/-- the state behind row k and all that is in it -/
theorem afterRow {f : Nat → Int} (hf : ∀ x, 0 ≤ f x ∧ f x ≤ 255) {ln : Bool} {n : Int} {TF : Nat → Nat → Int} {cnt : Nat} (hC : Cert f ln n TF cnt) {k : Nat} (k1 : 1 ≤ k) (hk : k < cnt) {TK : Nat → Nat → Int} (hR : CR n TF cnt (TF 3 k - 1, TF 1 k, TK, k)) (hP : PC f ln n (TF 3 k - 1, TF 1 k, TK, k)) :
    ∃ N TK2 c, aSt f ln N (TF 3 k - 1, TF 1 k, TK, k) (tE TF k, TF 1 k, TK2, c) ∧ CR n TF cnt (tE TF k, TF 1 k, TK2, c) ∧ PC f ln n (tE TF k, TF 1 k, TK2, c) ∧ (k < c ∧ c ≤ cnt) ∧ (∀ j : Nat, k < j → j < c → k ≤ TF 1 j) ∧ (c < cnt → TF 1 c < k) := by
  have rk := hC.2.1 k k1 hk
  dsimp only at rk
  have hi : 0 ≤ TF 1 k := rk.1.1.1.1
  have hst := CR_step hC hR hi
  have hz : (aF f ln (TF 3 k - 1, TF 1 k, TK, k)).1 = 0 := by rw [hst.1]
  have hPs := PC_step hf hP hi hz
  have hin := PC_ins hP hi
  have hne : ¬ TF 3 k - 1 = aLast TK (TF 1 k) := by
    intro e
    have eN : aN f (TF 3 k - 1, TF 1 k, TK, k) = (TF 3 k - 1 + 1, TK 1 (TF 1 k).toNat, TK, k) := by unfold aN; dsimp only; rw [if_pos e]
    have hA := hR.2.1.1
    dsimp only at hA
    have : aLast TK (TF 1 k) = tE TF (TF 1 k).toNat - 1 := by
      unfold aLast
      rw [tE_ext (fun co hco => hA co (TF 1 k).toNat (by have := rk.1.1.1; omega) hco)]
    have r3 := rk.1.2.2.1
    have : TF 4 k + TF 5 k = tE TF k := rfl
    omega
  obtain ⟨v, hv⟩ : ∃ v, v = aV f (TF 3 k - 1, TF 1 k, TK, k) := ⟨_, rfl⟩
  obtain ⟨kk, hkk⟩ : ∃ kk, kk = f (TF 3 k - 1).toNat := ⟨_, rfl⟩
  obtain ⟨vl, hvl⟩ : ∃ vl, vl = aVl f kk v := ⟨_, rfl⟩
  have eN : aN f (TF 3 k - 1, TF 1 k, TK, k) = (v + (if kHold kk = true then 4 else vl), (if kHold kk = true then (k : Int) else TF 1 k), nApp TK k kk (TF 1 k) (TF 3 k - 1 + 1) v vl, k + 1) := by
    unfold aN
    dsimp only
    rw [if_neg hne, ← hkk, ← hv, ← hvl]
  have hCn := hst.2
  rw [eN] at hCn hPs
  have hAn := hCn.2.1.1
  dsimp only at hAn
  have a4 := hAn 4 k (by omega) (by decide)
  have a5 := hAn 5 k (by omega) (by decide)
  rw [nA_4] at a4
  rw [nA_5] at a5
  have hE : tE TF k = v + vl := by unfold tE; rw [a4, a5]
  have h1 : aSt f ln 1 (TF 3 k - 1, TF 1 k, TK, k) (aN f (TF 3 k - 1, TF 1 k, TK, k)) := aSt_1 hi hz
  rw [eN] at h1
  by_cases hh : kHold kk = true
  · rw [if_pos hh, if_pos hh] at hCn hPs h1
    obtain ⟨N, TK2, c, q1, q2, q3, q4, q5, q6⟩ := closes hf hC (k := k) (n.toNat + 1) _ hPs.1 hCn (by have := hPs.2; have := hin.2.1; dsimp only at *; omega) (by dsimp only; omega) ⟨by dsimp only; omega, fun j x y => by dsimp only at y; omega⟩
    have hs2 := CR_step hC q2 (by omega)
    have hz2 : (aF f ln (tE TF k - 1, (k : Int), TK2, c)).1 = 0 := by rw [hs2.1]
    have hP2 := PC_step hf q3 (by omega) hz2
    have hA2 := q2.2.1.1
    dsimp only at hA2
    have eL2 : aLast TK2 (k : Int) = tE TF k - 1 := by
      unfold aLast
      rw [show ((k : Int)).toNat = k by omega, tE_ext (fun co hco => hA2 co k (by omega) hco)]
    have eN2 : aN f (tE TF k - 1, (k : Int), TK2, c) = (tE TF k, TF 1 k, TK2, c) := by
      unfold aN
      dsimp only
      rw [eL2, if_pos rfl, show ((k : Int)).toNat = k by omega, hA2 1 k (by omega) (by decide), show tE TF k - 1 + 1 = tE TF k by omega]
    have hl : aSt f ln 1 (tE TF k - 1, (k : Int), TK2, c) (aN f (tE TF k - 1, (k : Int), TK2, c)) := aSt_1 (by dsimp only; omega) hz2
    rw [eN2] at hl hs2 hP2
    exact ⟨1 + N + 1, TK2, c, aSt_t (aSt_t h1 q1) hl, hs2.2, hP2.1, q4, q5, q6⟩
  · rw [if_neg hh, if_neg hh] at hCn hPs h1
    rw [← hE] at hCn hPs h1
    refine ⟨1, _, k + 1, h1, hCn, hPs.1, ⟨by omega, by omega⟩, fun j x y => by omega, fun w => ?_⟩
    rcases hCn.2.2 with q | q
    · have := q.1; dsimp only at this; omega
    · have q3 := q.2.2.1 (k + 1) (Nat.le_refl _) w
      dsimp only at q3
      have r := (hC.2.1 (k + 1) (by omega) w).1.1
      dsimp only at r
      have e0 := hAn 0 k (by omega) (by decide)
      rw [nA_0] at e0
      by_cases e : TF 1 (k + 1) = k
      · rw [e, show ((k : Int)).toNat = k by omega, ← e0] at r
        exact absurd r.2 hh
      · have := rk.1.1.1
        omega
theorem cC_seg {T : Nat → Nat → Int} {k : Int} {a : Nat} : ∀ {m : Nat}, (∀ j, a ≤ j → j < a + m → ¬ T 1 j = k) → cC T k (a + m) = cC T k a := by
  intro m
  induction m with
  | zero => intro _; rfl
  | succ m ih =>
    intro h
    show cC T k (a + m) + (if T 1 (a + m) = k then 1 else 0) = _
    rw [ih (fun j x y => h j x (by omega)), if_neg (h (a + m) (by omega) (by omega)), Int.add_zero]
/-- rows of an element: its own stands in x, all others in it -/
theorem cC_el {T : Nat → Nat → Int} {x : Int} {fi m : Nat} (hx : x < fi) (h1 : 0 < m → T 1 fi = x) (h2 : ∀ j, fi < j → j < fi + m → fi ≤ T 1 j) {k : Int} (hk : k < fi) : cC T k (fi + m) = cC T k fi + (if k = x then (if m = 0 then 0 else 1) else 0) := by
  by_cases e : m = 0
  · subst e
    rw [if_pos rfl]
    split <;> simp
  · have es : cC T k (fi + m) = cC T k (fi + 1) := by
      have := cC_seg (T := T) (k := k) (a := fi + 1) (m := m - 1) (fun j a b => by have := h2 j (by omega) (by omega); omega)
      rw [show fi + 1 + (m - 1) = fi + m by omega] at this
      exact this
    rw [es, if_neg e]
    show cC T k fi + (if T 1 fi = k then 1 else 0) = _
    rw [h1 (by omega)]
    by_cases e2 : k = x
    · rw [if_pos e2, if_pos e2.symm]
    · rw [if_neg e2, if_neg (fun w => e2 w.symm)]
/-- the names of the rows ahead stay where the sizes alone change -/
theorem eNm_B1 {f h : Nat → Int} {ln : Bool} {n ch p x : Int} {TK : Nat → Nat → Int} {fi : Nat} (hx : 0 ≤ x) (hP : PC f ln n (p, x, TK, fi)) (hH : pcH (p, x, TK, fi)) (hB : eB1 f h ch p TK fi (opn TK fi x)) : eNm f h TK fi := by
  intro q q0 q1 y y1 y2
  have qr := (hP.2.1 q q0 q1).1.2.2.1
  dsimp only at qr
  have h4 := hH.1 q q1
  dsimp only at h4
  unfold hd at h4
  have hpos : 0 ≤ (if kHold (TK 0 q) = true then 4 else TK 5 q) := by split <;> omega
  refine hB.1 y (by omega) (by omega) (fun j j1 w z => ?_)
  by_cases jq : j < q
  · have := hH.2.1 j q jq q1
    dsimp only at this
    unfold hd at this
    rw [opn_hold hP hx w, if_pos rfl] at this
    omega
  · by_cases je : j = q
    · subst je; omega
    · have a1 := hH.2.1 q j (by omega) j1
      have a2 := (hP.2.1 j (by omega) j1).1.2.2.1
      dsimp only at a1 a2
      unfold hd at a1
      omega
theorem edit {f h : Nat → Int} (hf : ∀ x, 0 ≤ f x ∧ f x ≤ 255) (hh : ∀ x, 0 ≤ h x ∧ h x ≤ 255) {ln : Bool} {n ch p g x : Int} {T0 TK TK2 TR TN : Nat → Nat → Int} {fi mo mn cnt : Nat} {A O R : Nat} (hx : 0 ≤ x) (hn : n + ch ≤ 2000) (hF0 : (aF0 f n).1 = 0) (hn0 : n ≤ 2000)
    (sA : aSt f ln A (aStart n T0) (p, x, TK, fi)) (sO : aSt f ln O (p, x, TK, fi) (p + g, x, TK2, fi + mo)) (sR : aSt f ln R (p + g, x, TK2, fi + mo) (n, -1, TR, cnt))
    (ho1 : 0 < mo → TK2 1 fi = x) (ho2 : ∀ j, fi < j → j < fi + mo → fi ≤ TK2 1 j) (hg : 0 ≤ g) (hg2 : 0 ≤ g + ch)
    (hB : eB1 f h ch p TK fi (opn TK fi x))
    (hNew : ∀ T1, sim1 ch (opn TK fi x) (p, x, TK, fi) (p, x, T1, fi) → PC h ln (n + ch) (p, x, T1, fi) → ∃ M T2, aSt h ln M (p, x, T1, fi) (p + g + ch, x, T2, fi + mn) ∧ ∀ k1, fi ≤ k1 → k1 < fi + mn → ∀ co, co < 6 → T2 co k1 = TN co k1)
    (hB3 : eB3 f h ln n ch p g x ((if mn = 0 then 0 else 1) - (if mo = 0 then 0 else 1)) fi mo mn cnt TN TR) :
    ∃ T1, Cert h ln (n + ch) T1 (cnt + mn - mo) ∧ sim3 (p + g) ch fi mo mn x ((if mn = 0 then 0 else 1) - (if mo = 0 then 0 else 1)) (opn TK fi x) TN (n, -1, TR, cnt) (n + ch, -1, T1, cnt + mn - mo) := by
  have P0 : PC f ln n (aStart n T0) := PC_start hF0 hn0
  have H0 : pcH (aStart n T0) := pcH_start
  have PK := PC_st hf P0 sA
  have HK := pcH_st hf P0 H0 sA
  have P2 := PC_st hf PK sO
  have PR := PC_st hf P2 sR
  have hin := PC_ins PK hx
  have o1 := aSt_old hf PK sO
  have o2 := aSt_old hf P2 sR
  have o0 := aSt_old hf P0 sA
  dsimp only at o1 o2
  have hroot : opn TK fi x 0 := ⟨by omega, fun j a b => by
    have := (PK.2.1 j (by omega) b).1.1.1
    dsimp only at this
    omega⟩
  have z0 := PK.1.2.1
  dsimp only at z0
  have hb0 := hB.2 0 PK.1.1 hroot
  rw [z0.2.2.2.2.1, z0.2.2.2.2.2] at hb0
  have hF0h : (aF0 h (n + ch)).1 = 0 := by
    unfold aF0
    rw [hb0.1, if_neg (by omega), if_neg (by omega), if_neg (by omega)]
  have P0h : PC h ln (n + ch) (aStart (n + ch) T0) := PC_start hF0h hn
  have hs0 : sim1 ch (opn TK fi x) (aStart n T0) (aStart (n + ch) T0) := by
    refine ⟨rfl, rfl, rfl, fun k hk => ?_⟩
    have e : k = 0 := by unfold aStart at hk; dsimp only at hk; omega
    subst e
    unfold aStart
    dsimp only
    rw [nA_5, nA_5]
    refine ⟨fun co a b => ?_, fun _ => rfl, fun w => absurd hroot w⟩
    rcases (show co = 0 ∨ co = 1 ∨ co = 2 ∨ co = 3 ∨ co = 4 ∨ co = 6 by omega) with rfl | rfl | rfl | rfl | rfl | rfl
    · rw [nA_0, nA_0]
    · rw [nA_1, nA_1]
    · unfold nApp; simp
    · rw [nA_3, nA_3]
    · rw [nA_4, nA_4]
    · rw [nA_6, nA_6]
  obtain ⟨s1, q1, q2⟩ := sim1_go hf hx hB A _ _ P0 H0 hs0 sA
  obtain ⟨t1, i1, T1, c1⟩ := s1
  have q2s := q2
  obtain ⟨e1, e2, e3, e4⟩ := q2
  dsimp only at e1 e2 e3 e4
  subst e1
  subst e2
  subst e3
  have P1h := PC_st hh P0h q1
  obtain ⟨M, T2, q3, q4⟩ := hNew T1 q2s P1h
  have P2h := PC_st hh P1h q3
  have o3 := aSt_old hh P1h q3
  dsimp only at o3
  have c6a := P2.2.2.2.2.2.1
  have c6b := P2h.2.2.2.2.2.1
  have c6c := PK.2.2.2.2.2.1
  have c6d := P1h.2.2.2.2.2.1
  dsimp only at c6a c6b c6c c6d
  have hxf : i1 < c1 := hin.1.1
  have hsim : sim3 (t1 + g) ch c1 mo mn i1 ((if mn = 0 then 0 else 1) - (if mo = 0 then 0 else 1)) (opn TK c1 i1) TN (t1 + g, i1, TK2, c1 + mo) (t1 + g + ch, i1, T2, c1 + mn) := by
    have key : ∀ k : Nat, k < c1 → TK2 6 k = TK 6 k + (if (k : Int) = i1 then (if mo = 0 then 0 else 1) else 0) ∧ T2 6 k = TK 6 k + (if (k : Int) = i1 then (if mn = 0 then 0 else 1) else 0) := by
      intro k hk
      rw [c6a k (by omega), c6b k (by omega), c6c k hk]
      refine ⟨?_, ?_⟩
      · rw [cC_el hxf ho1 ho2 (by omega), cC_ext (fun y hy => o1.2.2.1 1 y hy (by decide))]
      · rw [cC_el hxf (fun w => ?_) (fun j a b => ?_) (by omega), cC_ext (T := TK) (fun y hy => by rw [o3.2.2.1 1 y hy (by decide), (e4 y hy).1 1 (by decide) (by decide)])]
        · rw [q4 c1 (Nat.le_refl _) (by omega) 1 (by decide)]
          rcases hB3.2.1 c1 (Nat.le_refl _) (by omega) with w2 | w2
          · exact w2.2
          · omega
        · rw [q4 j (by omega) b 1 (by decide)]
          rcases hB3.2.1 j (by omega) b with w2 | w2
          · omega
          · exact w2.1
    refine ⟨⟨rfl, ?_, by dsimp only; omega, Nat.le_refl _, fun _ => Or.inr ?_, Or.inl hxf⟩, fun k hk => ?_, fun k a b => by dsimp only at b; omega, fun k1 a b co hco => q4 k1 a b co hco⟩
    · dsimp only
      unfold rho
      rw [if_pos hxf]
    · dsimp only
      exact ⟨by omega, fun j a b => by have := PK.2.2.2.2.2.2.1.2 j (by dsimp only; omega) b; dsimp only at this; omega⟩
    · dsimp only
      obtain ⟨a1, a2, a3⟩ := e4 k hk
      obtain ⟨k1, k2⟩ := key k hk
      rw [o3.2.2.1 5 k hk (by decide), o1.2.2.1 5 k hk (by decide)]
      refine ⟨fun co hco => ?_, a2, a3, fun w => ?_, fun w => ?_⟩
      · rw [o3.2.2.1 co k hk (by omega), o1.2.2.1 co k hk (by omega)]
        exact a1 co (by omega) (by omega)
      · rw [k1, k2, if_neg w, if_neg w]
      · rw [k1, k2, if_pos w, if_pos w]
        omega
  have hNmR : eNm f h TR c1 := by
    have hN := eNm_B1 hx PK HK hB
    intro q q0 q1 y y1 y2
    rw [o2.2.2.1 3 q (by omega) (by decide), o1.2.2.1 3 q q1 (by decide)] at y1
    rw [o2.2.2.1 4 q (by omega) (by decide), o1.2.2.1 4 q q1 (by decide)] at y2
    exact hN q q0 q1 y y1 y2
  have ht1 : 4 ≤ t1 := hin.2.1.1
  obtain ⟨s2, r1, r2⟩ := sim3_go hf ⟨hx, hxf⟩ ⟨by omega, by omega⟩ hB3 hNmR (fun k k1 k2 w => by
    have := opn_par PK k1 k2 w
    rw [o2.2.2.1 1 k (by omega) (by decide), o1.2.2.1 1 k k2 (by decide)]
    exact this) R _ _ P2 (Int.le_refl _) hsim sR
  have P3h := PC_st hh P2h r1
  obtain ⟨t3, i3, T3, c3⟩ := s2
  have r3 := r2
  obtain ⟨⟨w1, w2, w3, w4, _⟩, _⟩ := r3
  dsimp only at w1 w2 w3 w4
  have w2b : i3 = -1 := by
    rw [w2]
    unfold rho
    rw [if_pos (by omega)]
  have w3b : c3 = cnt + mn - mo := by omega
  subst w1
  subst w2b
  subst w3b
  exact ⟨T3, P3h, r2⟩
