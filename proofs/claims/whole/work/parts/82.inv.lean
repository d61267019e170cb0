/-! PURE 23: what holds of both between two calls -/
def Inv (scn fpl : Int) (zT : Nat) (bT : Nat → Int) (T : Nat → Nat → Int) (cnt : Nat) (zS : Nat → Nat) (bS : Nat → Nat → Int) (S : MS) : Prop :=
  ((zT : Int) = S.f 0 ∧ zT ≤ 2000 ∧ ∀ x : Nat, x < zT → bT x = S.a 0 x) ∧ (fpl = S.f 1 ∧ S.f 6 = 0) ∧ (∀ k : Nat, k < 8 → (zS k : Int) = S.a 1 k ∧ (∀ x : Nat, x < zS k → bS k x = S.a 2 (2000 * k + x)) ∧ ∃ TF c, Cert (bS k) false (zS k) TF c)
  ∧ (-1 ≤ scn ∧ scn < 8) ∧ (0 ≤ scn → ∃ TF, Cert (bS scn.toNat) false (zS scn.toNat) TF cnt ∧ tAg T TF cnt)
/-- the bytes are bytes -/
def Rg (bT : Nat → Int) (bS : Nat → Nat → Int) (S : MS) : Prop := (∀ x, 0 ≤ bT x ∧ bT x < 256) ∧ (∀ k x, k < 8 → 0 ≤ bS k x ∧ bS k x < 256) ∧ ∀ k x, (k = 0 ∨ k = 2 ∨ k = 3 ∨ k = 13) → 0 ≤ S.a k x ∧ S.a k x ≤ 255
theorem rg_255 {b : Nat → Int} (h : ∀ x, 0 ≤ b x ∧ b x < 256) : ∀ x, 0 ≤ b x ∧ b x ≤ 255 := fun x => by have := h x; omega
theorem dTab_in {scn fpl : Int} {zT : Nat} {bT : Nat → Int} {T : Nat → Nat → Int} {cnt d : Nat} {zS : Nat → Nat} {bS : Nat → Nat → Int} {S : MS} (hI : Inv scn fpl zT bT T cnt zS bS S) (hR : Rg bT bS S) {s : Int} (hs : 0 ≤ s ∧ s < 8) :
    dOK scn s T zS bS ∧ (dTab scn s T cnt d zS bS).1 = s ∧ ∃ TF, Cert (bS s.toNat) false (zS s.toNat) TF (dTab scn s T cnt d zS bS).2.2.1 ∧ tAg (dTab scn s T cnt d zS bS).2.1 TF (dTab scn s T cnt d zS bS).2.2.1 := by
  obtain ⟨_, _, hSl, hsc, hT⟩ := hI
  unfold dTab
  by_cases e : scn = s
  · subst e
    rw [if_neg (fun w => w.2 rfl)]
    refine ⟨fun _ w => absurd rfl w, rfl, hT hs.1⟩
  · rw [if_pos ⟨hs, e⟩]
    obtain ⟨_, _, TF, c, hC⟩ := hSl s.toNat (by omega)
    have q := scAll_C (hR.2.1 s.toNat · (by omega)) hC T
    refine ⟨fun _ _ => q.1, rfl, TF, ?_, ?_⟩
    · dsimp only; rw [q.2.1]; exact hC
    · dsimp only; rw [q.2.1]; exact q.2.2
theorem dTab_out {scn : Int} {T : Nat → Nat → Int} {cnt d : Nat} {zS : Nat → Nat} {bS : Nat → Nat → Int} {s : Int} (hs : ¬ (0 ≤ s ∧ s < 8)) : dOK scn s T zS bS ∧ dTab scn s T cnt d zS bS = (scn, T, cnt, d) :=
  ⟨fun w => absurd w hs, if_neg (fun w => hs w.1)⟩
theorem mLoad0_k {s : Int} {S : MS} : (∀ q, q ≠ 3 → (mLoad0 s S).a q = S.a q) ∧ (∀ j, j ≠ 2 → (mLoad0 s S).f j = S.f j) ∧ (mLoad0 s S).f 2 = S.a 1 s.toNat ∧ ∀ x, (mLoad0 s S).a 3 x = if x < (S.a 1 s.toNat).toNat then S.a 2 ((2000 * s).toNat + x) else S.a 3 x := by
  unfold mLoad0
  refine ⟨fun q hq => ?_, fun j hj => ?_, rfl, fun x => ?_⟩
  · rw [pf_a]
    funext x
    rw [cp_a, if_neg (fun w => hq w.1)]
  · rw [pf_f, if_neg hj]; rfl
  · rw [pf_a, cp_a]
    by_cases e : x < (S.a 1 s.toNat).toNat
    · rw [if_pos ⟨rfl, by omega, by omega⟩, if_pos e, Nat.sub_zero]
    · rw [if_neg (by omega), if_neg e]
theorem mLoad_k {s : Int} {S : MS} : (∀ q, q = 0 ∨ q = 1 ∨ q = 2 ∨ q = 13 → (mLoad s S).a q = S.a q) ∧ (∀ j, j = 0 ∨ j = 1 ∨ j = 6 ∨ j = 7 ∨ j = 8 → (mLoad s S).f j = S.f j) ∧ (mLoad s S).f 2 = S.a 1 s.toNat := by
  obtain ⟨a1, a2, a3, _⟩ := mLoad0_k (s := s) (S := S)
  obtain ⟨b1, b2⟩ := mFr_over (S := mLoad0 s S) (S.a 1 s.toNat)
  unfold mLoad
  refine ⟨fun q hq => ?_, fun j hj => ?_, ?_⟩
  · rw [pf_a, b1 q (by omega), a1 q (by omega)]
  · rw [pf_f]
    by_cases e : j = 1
    · rw [if_pos e, e]
    · rw [if_neg e, b2 j (by omega), a2 j (by omega)]
  · rw [pf_f, if_neg (by decide), b2 2 (by decide), a3]
theorem mLd_tb {f : Nat → Int} {n : Int} {TF : Nat → Nat → Int} {cnt : Nat} {S : MS} (hC : Cert f true n TF cnt) (hc : cnt ≤ 998) (hL : mLd f n TF cnt S) (h2 : S.f 2 = n) : mTb S ∧ mEn S := by
  have hn := hC.1.2.2.1
  have c1 := hC.1.1
  have z := hC.1.2.1
  dsimp only at c1 z
  have key : ∀ k : Nat, k < cnt → (0 ≤ S.a 5 k ∧ S.a 5 k ≤ 2000) ∧ (0 ≤ S.a 6 k ∧ S.a 6 k ≤ 2000) ∧ (1 ≤ S.a 7 k ∧ S.a 7 k ≤ n) ∧ (-1 ≤ S.a 4 k ∧ S.a 4 k < k) ∧ (0 ≤ S.a 8 k ∧ S.a 8 k ≤ 16) ∧ (S.a 5 k ≤ S.a 7 k) ∧ (if k = 0 then 0 else S.a 6 k + 1) ≤ S.a 7 k ∧ 0 ≤ (if k = 0 then 0 else S.a 6 k + 1) ∧ (k ≠ 0 → S.a 5 k < S.a 6 k ∧ 0 ≤ S.a 4 k) := by
    intro k hk
    obtain ⟨m4, m8, m56, m0, m7⟩ := hL.2.1 k hk
    have hE := PC_E hC k hk
    dsimp only at hE
    have hEE : tE TF k = TF 4 k + TF 5 k := rfl
    by_cases e : k = 0
    · subst e
      have := m0 rfl
      rw [m4, m8, m7, this.1, this.2, if_pos rfl]
      refine ⟨by omega, by omega, by omega, by omega, by omega, by omega, by omega, by omega, fun w => absurd rfl w⟩
    · have r := (hC.2.1 k (by omega) hk).1
      dsimp only at r
      have r1 := r.1.1
      have r3 := r.2.2.1
      have := m56 (by omega)
      rw [m4, m8, m7, this.1, this.2, if_neg e]
      refine ⟨by omega, by omega, by omega, by omega, by omega, by omega, by omega, by omega, fun _ => by omega⟩
  refine ⟨⟨by rw [hL.1.1]; omega, fun k hk => ?_⟩, ⟨by rw [h2]; exact hn, fun k hk => ?_⟩⟩
  · rw [hL.1.1] at hk
    obtain ⟨q1, q2, q3, q4, q5, q6, q7, q8, q9⟩ := key k (by omega)
    refine ⟨by omega, by omega, by omega, q4, by omega, by omega⟩
  · rw [hL.1.1] at hk
    obtain ⟨q1, q2, q3, q4, q5, q6, q7, q8, q9⟩ := key k (by omega)
    rw [h2]
    exact ⟨q3, q6, q7, q9⟩
theorem mLoad_in {scn fpl : Int} {zT : Nat} {bT : Nat → Int} {T : Nat → Nat → Int} {cnt : Nat} {zS : Nat → Nat} {bS : Nat → Nat → Int} {S : MS} (hI : Inv scn fpl zT bT T cnt zS bS S) (hR : Rg bT bS S) {s : Int} (hs : 0 ≤ s ∧ s < 8) {TF : Nat → Nat → Int} {c : Nat} (hC : Cert (bS s.toNat) false (zS s.toNat) TF c) :
    mGoGood 4000 (mGoS (S.a 1 s.toNat) (mLoad0 s S)) ∧ mLd (bS s.toNat) (zS s.toNat) TF c (mLoad s S) ∧ mTb (mLoad s S) ∧ mEn (mLoad s S) := by
  obtain ⟨_, hf, hSl, _, _⟩ := hI
  obtain ⟨z1, z2, _⟩ := hSl s.toNat (by omega)
  obtain ⟨a1, a2, a3, a4⟩ := mLoad0_k (s := s) (S := S)
  have hr3 : ∀ x, 0 ≤ (mLoad0 s S).a 3 x ∧ (mLoad0 s S).a 3 x ≤ 255 := by
    intro x
    rw [a4]
    split
    · exact hR.2.2 2 _ (by decide)
    · exact hR.2.2 3 _ (by decide)
  have hov := mOver_C (S := mLoad0 s S) hr3 (rg_255 (hR.2.1 s.toNat · (by omega))) (ln := false) (by rw [a2 6 (by decide), hf.2]; rfl) hC (fun x hx => by
    rw [a4, if_pos (by omega), z2 x (by omega)]
    congr 1
    omega)
  rw [z1] at hov
  have hLd : mLd (bS s.toNat) (zS s.toNat) TF c (mLoad s S) := by
    rw [z1]
    unfold mLoad
    exact hov.2
  have hc := PC_c hC
  dsimp only at hc
  have ht := mLd_tb (Cert_ln hC) (by omega) hLd (by rw [mLoad_k.2.2]; exact z1.symm)
  exact ⟨hov.1, hLd, ht.1, ht.2⟩
theorem Inv_szs {scn fpl : Int} {zT : Nat} {bT : Nat → Int} {T : Nat → Nat → Int} {cnt : Nat} {zS : Nat → Nat} {bS : Nat → Nat → Int} {S : MS} (hI : Inv scn fpl zT bT T cnt zS bS S) : mSzs S := by
  intro k hk
  obtain ⟨z1, _, TF, c, hC⟩ := hI.2.2.1 k hk
  have := hC.1.2.2.1
  omega
theorem Inv_ldOK {scn fpl : Int} {zT : Nat} {bT : Nat → Int} {T : Nat → Nat → Int} {cnt : Nat} {zS : Nat → Nat} {bS : Nat → Nat → Int} {S : MS} (hI : Inv scn fpl zT bT T cnt zS bS S) (hR : Rg bT bS S) (s : Int) : mLdOK s S ∧ (mSlot s = true → mEn (mLoad s S)) := by
  have key : mSlot s = true → mGoGood 4000 (mGoS (S.a 1 s.toNat) (mLoad0 s S)) ∧ mTb (mLoad s S) ∧ mEn (mLoad s S) := by
    intro w
    have hs := mSlot_iff.mp w
    obtain ⟨_, _, TF, c, hC⟩ := hI.2.2.1 s.toNat (by omega)
    have q := mLoad_in hI hR hs hC
    exact ⟨q.1, q.2.2.1, q.2.2.2⟩
  exact ⟨fun w => ⟨(key w).1, (key w).2.1⟩, fun w => (key w).2.2⟩
/-- a slot loaded, and scanned -/
theorem Inv_load {scn fpl : Int} {zT : Nat} {bT : Nat → Int} {T T1 : Nat → Nat → Int} {cnt c1 : Nat} {zS : Nat → Nat} {bS : Nat → Nat → Int} {S : MS} (hI : Inv scn fpl zT bT T cnt zS bS S) (s : Int) {a : Int} (ha : -1 ≤ a ∧ a < 8) (hT : 0 ≤ a → ∃ TF, Cert (bS a.toNat) false (zS a.toNat) TF c1 ∧ tAg T1 TF c1) : Inv a fpl zT bT T1 c1 zS bS (mLoad s S) := by
  obtain ⟨h1, h2, h3, h4, h5⟩ := hI
  obtain ⟨q1, q2, _⟩ := mLoad_k (s := s) (S := S)
  refine ⟨⟨by rw [q2 0 (by decide)]; exact h1.1, h1.2.1, fun x hx => by rw [q1 0 (by decide)]; exact h1.2.2 x hx⟩, ⟨by rw [q2 1 (by decide)]; exact h2.1, by rw [q2 6 (by decide)]; exact h2.2⟩, fun k hk => ?_, ha, hT⟩
  rw [q1 1 (by decide), q1 2 (by decide)]
  exact h3 k hk
