/-! PURE 16: right bytes, loaded and scanned -/
theorem aGo_C {f : Nat → Int} (hf : ∀ x, 0 ≤ f x ∧ f x ≤ 255) {ln : Bool} {n : Int} {TF : Nat → Nat → Int} {cnt : Nat} (hC : Cert f ln n TF cnt) : ∀ (M : Nat) (s : sS), PC f ln n s → CR n TF cnt s → n - s.1 < M → (aGo f ln M s).2.1 = 0 ∧ (aGo f ln M s).1.2.2.2 = cnt ∧ crA TF (aGo f ln M s).1.2.2.1 cnt := by
  intro M
  induction M with
  | zero => intro s h _ h2; have := PC_at h; omega
  | succ M ih =>
    intro s h hR h2
    obtain ⟨t, ins, Tr, c⟩ := s
    dsimp only at h2
    unfold aGo
    rcases CR_ins hR with ⟨a1, a2, a3⟩ | hi
    · dsimp only
      rw [if_pos (show ins < 0 by omega)]
      refine ⟨rfl, a2, ?_⟩
      rw [← a2]
      exact hR.2.1
    · have hst := CR_step hC hR hi
      have hz : (aF f ln (t, ins, Tr, c)).1 = 0 := by rw [hst.1]
      have hP := PC_step hf h hi hz
      dsimp only
      rw [if_neg (show ¬ ins < 0 by omega), if_neg (fun w => w hz)]
      exact ih _ hP.1 hst.2 (by omega)
theorem aRun_C {f : Nat → Int} (hf : ∀ x, 0 ≤ f x ∧ f x ≤ 255) {ln : Bool} {n : Int} {TF : Nat → Nat → Int} {cnt : Nat} (hC : Cert f ln n TF cnt) (T : Nat → Nat → Int) : (aRun f ln n T).2.1 = 0 ∧ (aRun f ln n T).1.2.2.2 = cnt ∧ crA TF (aRun f ln n T).1.2.2.1 cnt := by
  have h0 : (aF0 f n).1 = 0 := by rw [Cert_0 hC]
  have hn := hC.1.2.2.1
  unfold aRun
  rw [if_neg (fun w => w h0)]
  exact aGo_C hf hC 2000 _ (PC_start h0 hn.2) (CR_start hC) (by show n - 4 < _; omega)
/-- the same table, up to cnt -/
def tAg (T TF : Nat → Nat → Int) (cnt : Nat) : Prop := ∀ co k, k < cnt → co < 7 → T co k = TF co k
theorem crA_ag {f : Nat → Int} {ln : Bool} {n : Int} {TF T : Nat → Nat → Int} {cnt : Nat} (hC : Cert f ln n TF cnt) (h : crA TF T cnt) : tAg T TF cnt := by
  intro co k hk hco
  by_cases e : co = 6
  · subst e
    rw [h.2 k hk]
    exact (hC.2.2.2.2.2.1 k hk).symm
  · exact h.1 co k hk (by omega)
theorem Cert_ext {f h : Nat → Int} (hf : ∀ x, 0 ≤ f x ∧ f x ≤ 255) (hh : ∀ x, 0 ≤ h x ∧ h x ≤ 255) {ln : Bool} {n : Int} {TF : Nat → Nat → Int} {cnt : Nat} (hC : Cert f ln n TF cnt) (he : ∀ x : Nat, x < n → h x = f x) : ∃ T1, Cert h ln n T1 cnt ∧ tAg T1 TF cnt := by
  have h0 : (aF0 f n).1 = 0 := by rw [Cert_0 hC]
  have hn := hC.1.2.2.1
  have P0 : PC f ln n (aStart n TF) := PC_start h0 hn.2
  obtain ⟨N, TK, c, q1, q2, q3, q4, q5, q6⟩ := closes hf hC (k := 0) 2000 (aStart n TF) P0 (CR_start hC) (by show n - 4 < _; omega) (by show 0 < 1; decide) ⟨by show (0 : Int) ≤ 0; decide, fun j a b => by have : j < 1 := b; omega⟩
  have hcc : c = cnt := by
    by_cases e : c < cnt
    · have := q6 e
      have := (hC.2.1 c (by omega) e).1.1.1
      dsimp only at this
      omega
    · omega
  subst hcc
  have hE0 : tE TF 0 = n := by
    have := hC.1.2.1
    dsimp only at this
    unfold tE
    omega
  rw [hE0] at q1 q2 q3
  obtain ⟨R, TR, r1, r2⟩ := rests hf hC 2000 _ q3 q2 (by dsimp only; omega)
  have hA := q2.2.1.1
  dsimp only at hA
  have hz := hC.1.2.1
  dsimp only at hz
  have honly : ∀ k, k < c → opn TK c ((0 : Nat) : Int) k → k = 0 := fun k _ w => by have := w.1; omega
  obtain ⟨T1, w1, w2⟩ := edit (h := h) (ch := 0) (g := 0) (p := n - 1) (x := ((0 : Nat) : Int)) (mo := 0) (mn := 0) (TN := TF) (TK2 := TK) (O := 0) hf hh (by omega) (by omega) h0 hn.2 q1 (by rw [Int.add_zero]; exact rfl) (by rw [Int.add_zero]; exact r1) (fun w => by omega) (fun j a b => by omega) (by omega) (by omega)
    ⟨fun y y1 y2 _ => he y.toNat (by omega), fun k k1 k2 => by
      have e := honly k k1 k2
      subst e
      rw [hA 4 0 k1 (by decide), hA 5 0 k1 (by decide), hz.2.2.2.2.1, hz.2.2.2.2.2, Int.add_zero]
      refine ⟨?_, by omega, ?_⟩
      · have e2 := mLow_sh (f := f) (h := h) (a := 0) (d := 0) (w := 4) (by decide) (fun y y1 y2 => by rw [Int.add_zero]; exact he y.toNat (by omega))
        rw [Int.add_zero] at e2
        rw [e2]
        exact hC.1.2.2.2
      · unfold tE
        rw [hA 4 0 k1 (by decide), hA 5 0 k1 (by decide), hz.2.2.2.2.1, hz.2.2.2.2.2]
        omega⟩
    (fun T1 s1 p1 => ⟨0, T1, by rw [Int.add_zero, Int.add_zero]; rfl, fun k1 a b => by omega⟩)
    ⟨fun y y1 y2 => by rw [Int.add_zero]; exact he y.toNat (by omega), fun k1 a b => by omega, fun k a b => by omega⟩
  rw [Int.add_zero] at w1 w2
  refine ⟨T1, w1, fun co k hk hco => ?_⟩
  have hTR := crA_ag hC r2
  rw [← hTR co k hk hco]
  obtain ⟨_, a, _, _⟩ := w2
  dsimp only at a
  obtain ⟨a1, a2, a3, a4, a5⟩ := a k hk
  by_cases e5 : co = 5
  · subst e5
    by_cases e0 : opn TK c ((0 : Nat) : Int) k
    · rw [a2 e0, Int.add_zero]
    · exact a3 e0
  · by_cases e6 : co = 6
    · subst e6
      by_cases e0 : (k : Int) = ((0 : Nat) : Int)
      · rw [a5 e0]; simp
      · exact a4 e0
    · exact a1 co (by omega)
theorem Cert_ln {f : Nat → Int} {n : Int} {TF : Nat → Nat → Int} {cnt : Nat} (hC : Cert f false n TF cnt) : Cert f true n TF cnt := by
  obtain ⟨h0, h1, hB, hL, hZ, h6, hS, hP⟩ := hC
  exact ⟨h0, fun k a b => ⟨(h1 k a b).1, (h1 k a b).2.1, (h1 k a b).2.2.1, fun _ => Or.inl rfl, (h1 k a b).2.2.2.2⟩, hB, hL, hZ, h6, hS, hP.1, fun w => by cases w⟩
/-- the reference's table of right bytes -/
def mLd (f : Nat → Int) (n : Int) (TF : Nat → Nat → Int) (cnt : Nat) (S : MS) : Prop :=
  (S.f 3 = cnt ∧ S.f 5 = 0 ∧ ∀ x : Nat, x < n → S.a 3 x = f x) ∧ (∀ k : Nat, k < cnt → S.a 4 k = TF 1 k ∧ S.a 8 k = TF 2 k ∧ (1 ≤ k → S.a 5 k = TF 3 k - 1 ∧ S.a 6 k = TF 4 k - 1) ∧ (k = 0 → S.a 5 0 = 0 ∧ S.a 6 0 = 0) ∧ S.a 7 k = tE TF k) ∧ mDeepest TF cnt (S.f 4)
theorem mOver_C {S : MS} (hf : ∀ x, 0 ≤ S.a 3 x ∧ S.a 3 x ≤ 255) {f : Nat → Int} (hf2 : ∀ x, 0 ≤ f x ∧ f x ≤ 255) {ln : Bool} {n : Int} {TF : Nat → Nat → Int} {cnt : Nat} (h6 : S.f 6 = bI ln) (hC : Cert f ln n TF cnt) (he : ∀ x : Nat, x < n → S.a 3 x = f x) :
    mGoGood 4000 (mGoS n S) ∧ mLd f n TF cnt (mGoOver n S) := by
  obtain ⟨T1, w1, w2⟩ := Cert_ext hf2 hf hC he
  have hn := hC.1.2.2.1
  have hm := mGoOver_a hf h6 hn.2 TF
  have hr := aRun_C hf w1 TF
  refine ⟨hm.1, ?_⟩
  obtain ⟨c1, u, op, hR⟩ := hm.2.1 hr.1
  have hag := crA_ag w1 hr.2.2
  obtain ⟨⟨_, e3, e5, _⟩, eA, eR, _, _, eD⟩ := hR
  dsimp only at e3 e5 eA eR eD
  rw [hr.2.1] at e3 eR eD
  have ag : tAg (aRun (S.a 3) ln n TF).1.2.2.1 TF cnt := fun co k hk hco => (hag co k hk hco).trans (w2 co k hk hco)
  refine ⟨⟨e3, e5, fun x hx => by rw [eA]; exact he x hx⟩, fun k hk => ?_, fun k hk => ?_, ?_⟩
  · obtain ⟨r1, r2, r3, r4, r5⟩ := eR k hk
    refine ⟨by rw [r1, ag 1 k hk (by decide)], by rw [r2, ag 2 k hk (by decide)], fun w => ?_, fun w => ⟨(r4 w).1, (r4 w).2.1⟩, ?_⟩
    · rw [← ag 3 k hk (by decide), ← ag 4 k hk (by decide)]; exact r3 w
    · rw [r5 (fun z => by have := z.1; omega)]
      unfold tE
      rw [ag 4 k hk (by decide), ag 5 k hk (by decide)]
  · rw [← ag 2 k hk (by decide)]; exact eD.1 k hk
  · obtain ⟨k, k1, k2⟩ := eD.2
    exact ⟨k, k1, by rw [← ag 2 k k1 (by decide)]; exact k2⟩
/-- the program's table of right bytes -/
theorem scAll_C {b : Nat → Int} {nn : Nat} (hb : ∀ x, 0 ≤ b x ∧ b x < 256) {TF : Nat → Nat → Int} {cnt : Nat} (hC : Cert b false nn TF cnt) (T : Nat → Nat → Int) : scGood b nn 2000 (scStart nn T) ∧ (scAll b nn T).2.2.2 = cnt ∧ tAg (scAll b nn T).2.2.1 TF cnt := by
  have hA : pA b nn nn b := ⟨⟨Nat.le_refl _, fun _ _ => rfl⟩, hb, fun x => by have := hb x; omega⟩
  have h0 : (aF0 b nn).1 = 0 := by rw [Cert_0 hC]
  have hn := hC.1.2.2.1
  have q := scGo_a hA hC 2000 (aStart nn T) (PC_start h0 hn.2) (CR_start hC) (by show (nn : Int) - 4 < _; omega)
  exact ⟨q.1, q.2.2.1, crA_ag hC q.2.2.2⟩
