/-! PURE 4: a step that finds no fault; right bytes are run over without one -/
theorem mNz_spec {f : Nat → Int} {last : Int} : ∀ (N : Nat) (t : Int), (last - t).toNat = N → t ≤ last → t ≤ mNz f last t ∧ mNz f last t ≤ last ∧ (∀ x : Int, t ≤ x → x < mNz f last t → ¬ f x.toNat = 0) ∧ (mNz f last t < last → f (mNz f last t).toNat = 0) := by
  intro N
  induction N with
  | zero =>
    intro t h h2
    rw [mNz_e (by omega)]
    exact ⟨Int.le_refl _, h2, fun x a b => by omega, fun a => by omega⟩
  | succ N ih =>
    intro t h h2
    by_cases hz : f t.toNat = 0
    · rw [mNz_e (Or.inr hz)]
      exact ⟨Int.le_refl _, h2, fun x a b => by omega, fun _ => hz⟩
    · rw [mNz_s (by omega) hz]
      obtain ⟨a, b, d, e⟩ := ih (t + 1) (by omega) (by omega)
      refine ⟨by omega, b, fun x x1 x2 => ?_, e⟩
      by_cases e2 : x = t
      · subst e2; exact hz
      · exact d x (by omega) x2
theorem mNz_eq {f : Nat → Int} {last t z : Int} (h1 : t ≤ z) (h2 : z < last) (hn : ∀ x : Int, t ≤ x → x < z → ¬ f x.toNat = 0) (hz : f z.toNat = 0) : mNz f last t = z := by
  obtain ⟨a, b, d, e⟩ := mNz_spec (f := f) (last := last) _ t rfl (by omega)
  by_cases c1 : mNz f last t < z
  · exact absurd (e (by omega)) (hn _ a c1)
  · by_cases c2 : z < mNz f last t
    · exact absurd hz (d z h1 c2)
    · omega
theorem kIs_0 {k : Int} (h : kIs k = true) : ¬ k = 0 := by
  intro e
  subst e
  cases h
theorem aFv_ok {f : Nat → Int} {k v last dep : Int} (h : (aFv f k v last dep).1 = 0) : (kHold k = true → 4 ≤ last - v ∧ 5 ≤ mLow f v 4 ∧ mLow f v 4 ≤ last - v ∧ dep < 16) ∧ (k = 2 → 4 ≤ last - v ∧ 1 ≤ mLow f v 4 ∧ mLow f v 4 ≤ last - v - 4 ∧ f (v + 4 + mLow f v 4 - 1).toNat = 0 ∧ mBad f (v + 4) (v + 4 + mLow f v 4 - 1) = -1) ∧ (kHold k = false → ¬ k = 2 → kWidth k ≤ last - v ∧ (k = 8 → f v.toNat ≤ 1)) := by
  unfold aFv at h
  by_cases hh : kHold k = true
  · rw [if_pos hh] at h
    refine ⟨fun _ => ?_, fun e => ?_, fun e => by rw [hh] at e; cases e⟩
    · by_cases c1 : last - v < 4
      · rw [if_pos c1] at h; cases h
      · rw [if_neg c1] at h
        by_cases c2 : mLow f v 4 < 5
        · rw [if_pos c2] at h; cases h
        · rw [if_neg c2] at h
          by_cases c3 : last - v < mLow f v 4
          · rw [if_pos c3] at h; cases h
          · rw [if_neg c3] at h
            by_cases c4 : 16 ≤ dep
            · rw [if_pos c4] at h; cases h
            · omega
    · subst e; cases hh
  · rw [if_neg hh] at h
    refine ⟨fun z => absurd z hh, fun e => ?_, fun _ e => ?_⟩
    · rw [if_pos e] at h
      by_cases c1 : last - v < 4
      · rw [if_pos c1] at h; cases h
      · rw [if_neg c1] at h
        by_cases c2 : mLow f v 4 < 1
        · rw [if_pos c2] at h; cases h
        · rw [if_neg c2] at h
          by_cases c3 : last - v - 4 < mLow f v 4
          · rw [if_pos c3] at h; cases h
          · rw [if_neg c3] at h
            by_cases c4 : f (v + 4 + mLow f v 4 - 1).toNat = 0
            · rw [if_neg (fun z => z c4)] at h
              by_cases c5 : mBad f (v + 4) (v + 4 + mLow f v 4 - 1) = -1
              · exact ⟨by omega, by omega, by omega, c4, c5⟩
              · rw [if_pos c5] at h; cases h
            · rw [if_pos c4] at h; cases h
    · rw [if_neg e] at h
      by_cases c1 : last - v < kWidth k
      · rw [if_pos c1] at h; cases h
      · rw [if_neg c1] at h
        by_cases c2 : k = 8 ∧ 1 < f v.toNat
        · rw [if_pos c2] at h; cases h
        · exact ⟨by omega, fun z => by omega⟩
theorem aFv_0 {f : Nat → Int} {k v last dep : Int} (h1 : kHold k = true → 4 ≤ last - v ∧ 5 ≤ mLow f v 4 ∧ mLow f v 4 ≤ last - v ∧ dep < 16) (h2 : k = 2 → 4 ≤ last - v ∧ 1 ≤ mLow f v 4 ∧ mLow f v 4 ≤ last - v - 4 ∧ f (v + 4 + mLow f v 4 - 1).toNat = 0 ∧ mBad f (v + 4) (v + 4 + mLow f v 4 - 1) = -1) (h3 : kHold k = false → ¬ k = 2 → kWidth k ≤ last - v ∧ (k = 8 → f v.toNat ≤ 1)) : aFv f k v last dep = (0, -1) := by
  unfold aFv
  by_cases hh : kHold k = true
  · have := h1 hh
    rw [if_pos hh, if_neg (by omega), if_neg (by omega), if_neg (by omega), if_neg (by omega)]
  · rw [if_neg hh]
    by_cases e : k = 2
    · have := h2 e
      rw [if_pos e, if_neg (by omega), if_neg (by omega), if_neg (by omega), if_neg (fun z => z this.2.2.2.1), if_neg (fun z => z this.2.2.2.2)]
    · have hf : kHold k = false := by cases hx : kHold k; rfl; exact absurd hx hh
      have := h3 hf e
      rw [if_neg e, if_neg (by omega), if_neg (by omega)]
theorem mLow_nn {f : Nat → Int} (hf : ∀ x, 0 ≤ f x ∧ f x ≤ 255) (v : Int) : 0 ≤ mLow f v 4 := (mLow4_r hf v).1
theorem aVl_h {f : Nat → Int} {k v : Int} (h : kHold k = true) : aVl f k v = mLow f v 4 := by
  unfold aVl
  rw [if_neg (fun e => by subst e; cases h), if_pos h]
theorem aVl_2 {f : Nat → Int} {k v : Int} (h : k = 2) : aVl f k v = 4 + mLow f v 4 := if_pos h
theorem aVl_n {f : Nat → Int} {k v : Int} (h : ¬ kHold k = true) (h2 : ¬ k = 2) : aVl f k v = kWidth k := by
  unfold aVl
  rw [if_neg h2, if_neg h]
/-- a step without a fault: what it saw -/
theorem aF_ok {f : Nat → Int} {ln : Bool} {t ins : Int} {T : Nat → Nat → Int} {c : Nat} (h : (aF f ln (t, ins, T, c)).1 = 0) (hl : t ≤ aLast T ins) : (t = aLast T ins ∧ f t.toNat = 0) ∨ (t < aLast T ins ∧ kIs (f t.toNat) = true ∧ mNz f (aLast T ins) (t + 1) < aLast T ins ∧ mBad f (t + 1) (mNz f (aLast T ins) (t + 1)) = -1 ∧ aNm f ln t (mNz f (aLast T ins) (t + 1)) ins T c = true ∧ (aFv f (f t.toNat) (mNz f (aLast T ins) (t + 1) + 1) (aLast T ins) (T 2 ins.toNat)).1 = 0) := by
  unfold aF at h
  dsimp only at h
  by_cases c0 : t = aLast T ins
  · rw [if_pos c0] at h
    by_cases c1 : f t.toNat = 0
    · exact Or.inl ⟨c0, c1⟩
    · rw [if_neg c1] at h; cases h
  · rw [if_neg c0] at h
    unfold aFe at h
    by_cases c1 : f t.toNat = 0
    · rw [if_pos c1] at h; cases h
    · rw [if_neg c1] at h
      by_cases c2 : kIs (f t.toNat) = false
      · rw [if_pos c2] at h; cases h
      · rw [if_neg c2] at h
        by_cases c3 : aLast T ins ≤ mNz f (aLast T ins) (t + 1)
        · rw [if_pos c3] at h; cases h
        · rw [if_neg c3] at h
          by_cases c4 : mBad f (t + 1) (mNz f (aLast T ins) (t + 1)) = -1
          · rw [if_neg (fun z => z c4)] at h
            by_cases c5 : aNm f ln t (mNz f (aLast T ins) (t + 1)) ins T c = false
            · rw [if_pos c5] at h; cases h
            · rw [if_neg c5] at h
              exact Or.inr ⟨by omega, zee c2, by omega, c4, zee c5, h⟩
          · rw [if_pos c4] at h; cases h
theorem PC_step {f : Nat → Int} (hf : ∀ x, 0 ≤ f x ∧ f x ≤ 255) {ln : Bool} {n t ins : Int} {T : Nat → Nat → Int} {c : Nat} (h : PC f ln n (t, ins, T, c)) (hi : 0 ≤ ins) (hF : (aF f ln (t, ins, T, c)).1 = 0) : PC f ln n (aN f (t, ins, T, c)) ∧ t < (aN f (t, ins, T, c)).1 := by
  have hin := PC_ins h hi
  rcases aF_ok hF hin.2.1.2 with ⟨a, b⟩ | ⟨a, b, d, e, g, w⟩
  · unfold aN
    dsimp only
    rw [if_pos a]
    exact ⟨PC_close h hi a b, by dsimp only; omega⟩
  · have hne : ¬ t = aLast T ins := by omega
    obtain ⟨n1, n2, n3, n4⟩ := mNz_spec (f := f) (last := aLast T ins) _ (t + 1) rfl (by omega)
    obtain ⟨v1, v2, v3⟩ := aFv_ok w
    unfold aN aV
    dsimp only
    rw [if_neg hne]
    generalize hv : mNz f (aLast T ins) (t + 1) = z at *
    have vlr : 0 ≤ aVl f (f t.toNat) (z + 1) ∧ z + 1 + aVl f (f t.toNat) (z + 1) ≤ aLast T ins := by
      by_cases hh : kHold (f t.toNat) = true
      · rw [aVl_h hh]; have := v1 hh; omega
      · by_cases h2 : f t.toNat = 2
        · rw [aVl_2 h2]; have := v2 h2; omega
        · rw [aVl_n hh h2]
          have := v3 (by cases hx : kHold (f t.toNat); rfl; exact absurd hx hh) h2
          have := kWidth_r (f t.toNat)
          omega
    refine ⟨PC_app h hi rfl rfl b (by omega) (fun x x1 x2 => n3 x x1 (by omega)) (by rw [show z + 1 - 1 = z by omega]; exact n4 d) (by rw [show z + 1 - 1 = z by omega]; exact e) (by rw [show z + 1 - 1 = z by omega]; exact g) vlr.1 vlr.2 (fun q => ?_) (fun q => ?_) (fun q => ?_), ?_⟩
    · have r := v2 q
      rw [aVl_2 q]
      refine ⟨by omega, ?_, ?_⟩
      · rw [show z + 1 + (4 + mLow f (z + 1) 4) - 1 = z + 1 + 4 + mLow f (z + 1) 4 - 1 by omega]; exact r.2.2.2.1
      · rw [show z + 1 + (4 + mLow f (z + 1) 4) - 1 = z + 1 + 4 + mLow f (z + 1) 4 - 1 by omega]; exact r.2.2.2.2
    · refine (v3 ?_ ?_).2 q
      · rw [q]; rfl
      · omega
    · have r := v1 q
      rw [aVl_h q]
      omega
    · dsimp only
      split <;> omega
theorem PC_at {f : Nat → Int} {ln : Bool} {n : Int} {s : sS} (h : PC f ln n s) : (s.2.1 = -1 ∧ s.1 = n) ∨ (0 ≤ s.2.1 ∧ s.1 < n) := by
  rcases h.2.2.2.2.2.2.1.1 with a | a
  · exact Or.inl a
  · have := PC_ins (t := s.1) (ins := s.2.1) (T := s.2.2.1) (c := s.2.2.2) h a.1.1
    unfold aLast at this
    exact Or.inr ⟨a.1.1, by omega⟩
theorem aGo_end {f : Nat → Int} (hf : ∀ x, 0 ≤ f x ∧ f x ≤ 255) {ln : Bool} {n : Int} : ∀ (N : Nat) (s : sS), PC f ln n s → n - s.1 < N → (aGo f ln N s).2.1 = 0 → Cert f ln n (aGo f ln N s).1.2.2.1 (aGo f ln N s).1.2.2.2 := by
  intro N
  induction N with
  | zero =>
    intro s h h2 _
    have := PC_at h
    omega
  | succ N ih =>
    intro s h h2 h3
    unfold aGo at h3 ⊢
    by_cases c1 : s.2.1 < 0
    · rw [if_pos c1]
      obtain ⟨t, ins, T, c⟩ := s
      dsimp only at *
      rcases PC_at h with ⟨a, b⟩ | a
      · dsimp only at a b
        subst a
        subst b
        exact h
      · dsimp only at a; omega
    · rw [if_neg c1] at h3 ⊢
      by_cases c2 : (aF f ln s).1 = 0
      · rw [if_neg (fun z => z c2)] at h3 ⊢
        obtain ⟨t, ins, T, c⟩ := s
        dsimp only at c1 h2
        have q := PC_step hf h (by omega) c2
        exact ih _ q.1 (by omega) h3
      · rw [if_pos c2] at h3
        exact absurd h3 c2
theorem aGo_in {f : Nat → Int} (hf : ∀ x, 0 ≤ f x ∧ f x ≤ 255) {ln : Bool} {n : Int} : ∀ (N : Nat) (s : sS), PC f ln n s → n - s.1 < N → (aGo f ln N s).2.1 = 0 → (aGo f ln N s).1.2.1 = -1 ∧ (aGo f ln N s).1.1 = n := by
  intro N
  induction N with
  | zero =>
    intro s h h2 _
    have := PC_at h
    omega
  | succ N ih =>
    intro s h h2 h3
    unfold aGo at h3 ⊢
    by_cases c1 : s.2.1 < 0
    · rw [if_pos c1]
      have := PC_at h
      dsimp only
      omega
    · rw [if_neg c1] at h3 ⊢
      by_cases c2 : (aF f ln s).1 = 0
      · rw [if_neg (fun z => z c2)] at h3 ⊢
        obtain ⟨t, ins, T, c⟩ := s
        dsimp only at c1 h2
        have q := PC_step hf h (by omega) c2
        exact ih _ q.1 (by omega) h3
      · rw [if_pos c2] at h3
        exact absurd h3 c2
/-! the other way -/
theorem exMax {P : Nat → Prop} : ∀ {c : Nat}, (∃ k, k < c ∧ P k) → ∃ k, k < c ∧ P k ∧ ∀ j, k < j → j < c → ¬ P j := by
  intro c
  induction c with
  | zero => rintro ⟨k, h, _⟩; exact absurd h (Nat.not_lt_zero k)
  | succ c ih =>
    rintro ⟨k, h, hk⟩
    by_cases e : P c
    · exact ⟨c, by omega, e, fun j a b => by omega⟩
    · obtain ⟨k1, a, b, d⟩ := ih ⟨k, by rcases (show k < c ∨ k = c by omega) with w | w; exact w; subst w; exact absurd hk e, hk⟩
      refine ⟨k1, by omega, b, fun j x y => ?_⟩
      by_cases e2 : j = c
      · subst e2; exact e
      · exact d j x (by omega)
def crA (T : Nat → Nat → Int) (Tr : Nat → Nat → Int) (c : Nat) : Prop := (∀ co x, x < c → co < 6 → Tr co x = T co x) ∧ ∀ x, x < c → Tr 6 x = cC T x c
def crI (T : Nat → Nat → Int) (cnt : Nat) (t ins : Int) (c : Nat) : Prop :=
  ((0 ≤ ins ∧ ins < c) ∧ kHold (T 0 ins.toNat) = true) ∧ (∀ j : Nat, ins < j → j < c → ins ≤ T 1 j) ∧ (∀ q : Nat, c ≤ q → q < cnt → ¬ (ins < T 1 q ∧ T 1 q < c)) ∧ (∀ k : Nat, ins < k → k < c → T 1 k = ins → (∀ j : Nat, k < j → j < c → ¬ T 1 j = ins) → t = tE T k) ∧ ((∀ j : Nat, ins < j → j < c → ¬ T 1 j = ins) → t = T 4 ins.toNat + 4)
def CR (n : Int) (T : Nat → Nat → Int) (cnt : Nat) (s : sS) : Prop :=
  (1 ≤ s.2.2.2 ∧ s.2.2.2 ≤ cnt) ∧ crA T s.2.2.1 s.2.2.2 ∧ ((s.2.1 = -1 ∧ s.2.2.2 = cnt ∧ s.1 = n) ∨ crI T cnt s.1 s.2.1 s.2.2.2)
theorem CR_start {f : Nat → Int} {ln : Bool} {n : Int} {T T0 : Nat → Nat → Int} {cnt : Nat} (h : Cert f ln n T cnt) : CR n T cnt (aStart n T0) := by
  obtain ⟨h0, h1, _⟩ := h
  dsimp only at h0 h1
  obtain ⟨c1, ⟨z0, z1, z2, z3, z4, z5⟩, zn, zl⟩ := h0
  unfold CR aStart
  dsimp only
  refine ⟨⟨Nat.le_refl 1, c1⟩, ⟨fun co x a b => ?_, fun x a => ?_⟩, Or.inr ⟨⟨⟨by decide, by decide⟩, ?_⟩, fun j a b => by omega, fun q a b z => ?_, fun k a b => by omega, fun _ => ?_⟩⟩
  · have e : x = 0 := by omega
    subst e
    rcases (show co = 0 ∨ co = 1 ∨ co = 2 ∨ co = 3 ∨ co = 4 ∨ co = 5 by omega) with rfl | rfl | rfl | rfl | rfl | rfl
    · rw [nA_0, z0]
    · rw [nA_1, z1]
    · rw [z2]; unfold nApp; simp; rfl
    · rw [nA_3, z3]
    · rw [nA_4, z4]
    · rw [nA_5, z5]
  · have e : x = 0 := by omega
    subst e
    rw [nA_6]
    unfold cC cC
    rw [z1]
    rfl
  · rw [show (0 : Int).toNat = 0 from rfl, z0]; rfl
  · omega
  · rw [show (0 : Int).toNat = 0 from rfl, z4]; rfl
theorem CR_step {f : Nat → Int} {ln : Bool} {n : Int} {T : Nat → Nat → Int} {cnt : Nat} (hC : Cert f ln n T cnt) {t ins : Int} {Tr : Nat → Nat → Int} {c : Nat} (h : CR n T cnt (t, ins, Tr, c)) (hi : 0 ≤ ins) :
    aF f ln (t, ins, Tr, c) = (0, -1) ∧ CR n T cnt (aN f (t, ins, Tr, c)) := by
  obtain ⟨h0, h1, hB, hL, hZ, hC6, hS, hP⟩ := hC
  dsimp only at h0 h1 hB hL hZ hC6 hS hP
  have hcl : ∀ p : Nat, ¬ opn T cnt (-1) p := fun p z => by have := z.1; omega
  obtain ⟨hc, ⟨hA, hA6⟩, hI⟩ := h
  dsimp only at hc hA hA6 hI
  rcases hI with ⟨a, _⟩ | ⟨⟨⟨i0, i1⟩, ih⟩, g1, g3, g4, g5⟩
  · omega
  · have pi : ins.toNat < c := by omega
    have eL : aLast Tr ins = aLast T ins := by
      unfold aLast
      rw [tE_ext (fun co hco => hA co _ pi hco)]
    by_cases hq : ∃ q : Nat, c ≤ q ∧ q < cnt ∧ T 1 q = ins
    · obtain ⟨q, q1, q2, q3⟩ := hq
      have hcc : c < cnt := by omega
      have rowc := h1 c hc.1 hcc
      have hPc : T 1 c = ins := by
        by_cases e : q = c
        · rw [← e]; exact q3
        · have o := (h1 q (by omega) q2).2.2.2.2 c (by omega) (by omega)
          have := g3 c (Nat.le_refl c) hcc
          have := rowc.1.1.1
          omega
      obtain ⟨⟨⟨r1, r1h⟩, ⟨r2, r2f⟩, ⟨r3, r3b, r3c, r3d⟩, r4, ⟨r5, r5b⟩, r6, r6b⟩, ⟨v1, v2, v3, v4⟩, rN, rM, rO⟩ := rowc
      rw [hPc] at r1 r1h r3d r6
      have hB0 : T 3 c - 1 = t := by
        by_cases hch : ∃ k : Nat, k < c ∧ (ins < k ∧ T 1 k = ins)
        · obtain ⟨k, k1, ⟨k2, k3⟩, k4⟩ := exMax hch
          have k5 : ∀ j : Nat, k < j → j < c → ¬ T 1 j = ins := fun j x y z => k4 j x y ⟨by omega, z⟩
          rw [g4 k k2 k1 k3 k5]
          exact hB.2 k c (by omega) k1 hcc (by rw [hPc, k3]) (fun j x y => by rw [k3]; exact k5 j x y)
        · have k5 : ∀ j : Nat, ins < j → j < c → ¬ T 1 j = ins := fun j x y z => hch ⟨j, y, x, z⟩
          rw [g5 k5]
          have := hB.1 c hc.1 hcc (fun j x y => by rw [hPc] at x ⊢; exact k5 j x y)
          rw [hPc] at this
          exact this
      have hfk : f t.toNat = T 0 c := by rw [← hB0]; exact r2f
      have hlast : tE T c ≤ aLast T ins := by unfold aLast; exact r3d
      have hEc : T 4 c + T 5 c = tE T c := rfl
      have hne : ¬ t = aLast T ins := by omega
      have hz : mNz f (aLast T ins) (t + 1) = T 4 c - 1 := mNz_eq (by omega) (by omega) (fun x x1 x2 => r4 x (by omega) x2) r5
      have hnm : aNm f ln t (T 4 c - 1) ins Tr c = true := by
        unfold aNm
        rw [hA 0 _ pi (by decide)]
        by_cases e4 : T 0 ins.toNat = 4
        · rw [if_pos e4, hA6 _ pi, show ((ins.toNat : Nat) : Int) = ins by omega, show t + 1 = T 3 c by omega]
          have := rM (by rw [hPc]; exact e4)
          rw [hPc] at this
          rw [Bool.or_eq_true]
          exact this
        · rw [if_neg e4, aDup_ext (fun co x hx hco => hA co x hx hco), show t + 1 = T 3 c by omega]
          have := rN (by rw [hPc]; exact e4)
          rw [hPc] at this
          rw [this]
          rfl
      have hfv : aFv f (T 0 c) (T 4 c) (aLast T ins) (T 2 ins.toNat) = (0, -1) := by
        refine aFv_0 (fun w => ?_) (fun w => ?_) (fun w w2 => ?_)
        · have a1 := v4 w
          rw [aVl_h w] at v1
          rw [w] at r6
          have : bI true = 1 := rfl
          omega
        · have a1 := v2 w
          rw [aVl_2 w] at v1
          refine ⟨by omega, by omega, by omega, ?_, ?_⟩
          · rw [show T 4 c + 4 + mLow f (T 4 c) 4 - 1 = tE T c - 1 by omega]; exact a1.2.1
          · rw [show T 4 c + 4 + mLow f (T 4 c) 4 - 1 = tE T c - 1 by omega]; exact a1.2.2
        · rw [aVl_n (by rw [w]; decide) w2] at v1
          exact ⟨by omega, v3⟩
      have hV : aV f (t, ins, Tr, c) = T 4 c := by
        unfold aV
        dsimp only
        rw [eL, hz]
        omega
      have hAF : aF f ln (t, ins, Tr, c) = (0, -1) := by
        unfold aF
        dsimp only
        rw [eL, if_neg hne]
        unfold aFe
        rw [hfk, if_neg (kIs_0 r2), if_neg (by rw [r2]; decide), hz, if_neg (by omega), show t + 1 = T 3 c by omega, if_neg (fun w => w r5b), if_neg (by rw [hnm]; decide), show T 4 c - 1 + 1 = T 4 c by omega, hA 2 _ pi (by decide)]
        exact hfv
      refine ⟨hAF, ?_⟩
      unfold aN
      dsimp only
      rw [eL, if_neg hne, hV, hfk, v1, show t + 1 = T 3 c by omega]
      have hA2 : crA T (nApp Tr c (T 0 c) ins (T 3 c) (T 4 c) (T 5 c)) (c + 1) := by
        refine ⟨fun co x a b => ?_, fun x a => ?_⟩
        · by_cases e : x = c
          · subst e
            rcases (show co = 0 ∨ co = 1 ∨ co = 2 ∨ co = 3 ∨ co = 4 ∨ co = 5 by omega) with rfl | rfl | rfl | rfl | rfl | rfl
            · rw [nA_0]
            · rw [nA_1, hPc]
            · rw [nA_2 ⟨i0, i1⟩, hA 2 _ pi (by decide), r6]; omega
            · rw [nA_3]
            · rw [nA_4]
            · rw [nA_5]
          · rw [nA_o e b]; exact hA co x (by omega) b
        · show _ = cC T x c + _
          rw [hPc]
          by_cases e : x = c
          · subst e
            rw [nA_6, if_neg (by omega), cC_0 (fun y hy w => ?_)]
            · rfl
            · by_cases y0 : y = 0
              · subst y0; have := h0.2.1.2.1; omega
              · have := (h1 y (by omega) (by omega)).1.1.1; omega
          · rw [nA_6o e ⟨i0, i1⟩, hA6 x (by omega)]
            by_cases e2 : x = ins.toNat
            · rw [if_pos e2, if_pos (by omega)]
            · rw [if_neg e2, if_neg (by omega)]
      refine ⟨⟨by dsimp only; omega, by dsimp only; omega⟩, hA2, Or.inr ?_⟩
      dsimp only
      by_cases hh : kHold (T 0 c) = true
      · rw [if_pos hh, if_pos hh]
        refine ⟨⟨⟨by omega, by omega⟩, ?_⟩, fun j a b => by omega, fun p a b w => by omega, fun k a b => by omega, fun _ => ?_⟩
        · rw [show ((c : Int)).toNat = c by omega]; exact hh
        · rw [show ((c : Int)).toNat = c by omega]
      · rw [if_neg hh, if_neg hh]
        refine ⟨⟨⟨i0, by omega⟩, ih⟩, fun j a b => ?_, fun p a b w => ?_, fun k a b d e => ?_, fun w => ?_⟩
        · by_cases e : j = c
          · subst e; omega
          · exact g1 j a (by omega)
        · by_cases e : T 1 p = c
          · have := (h1 p (by omega) b).1.1.2
            rw [e, show ((c : Int)).toNat = c by omega] at this
            exact hh this
          · exact g3 p (by omega) b ⟨w.1, by omega⟩
        · by_cases e2 : k = c
          · subst e2; rfl
          · exact absurd hPc (e c (by omega) (by omega))
        · exact absurd hPc (w c (by omega) (by omega))
    · have hno : ∀ q : Nat, c ≤ q → q < cnt → ¬ T 1 q = ins := fun q a b w => hq ⟨q, a, b, w⟩
      have hno2 : ∀ k : Nat, (∀ j : Nat, k < j → j < c → ¬ T 1 j = ins) → ∀ j : Nat, k < j → j < cnt → ¬ T 1 j = ins := by
        intro k w j a b
        by_cases e : j < c
        · exact w j a e
        · exact hno j (by omega) b
      have hend : t = aLast T ins := by
        unfold aLast
        by_cases hch : ∃ k : Nat, k < c ∧ (ins < k ∧ T 1 k = ins)
        · obtain ⟨k, k1, ⟨k2, k3⟩, k4⟩ := exMax hch
          have k5 : ∀ j : Nat, k < j → j < c → ¬ T 1 j = ins := fun j x y z => k4 j x y ⟨by omega, z⟩
          rw [g4 k k2 k1 k3 k5]
          have := (hL.1 k (by omega) (by omega) (fun j x y => by rw [k3]; exact hno2 k k5 j x y)).1 (hcl _)
          rw [k3] at this
          exact this
        · have k5 : ∀ j : Nat, ins < j → j < c → ¬ T 1 j = ins := fun j x y z => hch ⟨j, y, x, z⟩
          rw [g5 k5]
          exact (hL.2 ins.toNat (by omega) ih (fun j x y => by rw [show ((ins.toNat : Nat) : Int) = ins by omega]; exact hno2 ins.toNat (fun j2 x2 y2 => k5 j2 (by omega) y2) j x y)).1 (hcl _)
      have hz : f t.toNat = 0 := by
        rw [hend]
        exact hZ ins.toNat (by omega) ih (hcl _)
      have hAF : aF f ln (t, ins, Tr, c) = (0, -1) := by
        unfold aF
        dsimp only
        rw [eL, if_pos hend, if_pos hz]
      refine ⟨hAF, ?_⟩
      unfold aN
      dsimp only
      rw [eL, if_pos hend, hA 1 _ pi (by decide)]
      refine ⟨hc, ⟨hA, hA6⟩, ?_⟩
      dsimp only
      by_cases e0 : ins = 0
      · subst e0
        refine Or.inl ⟨h0.2.1.2.1, ?_, ?_⟩
        · by_cases e : c < cnt
          · have := (h1 c hc.1 e).1.1.1
            have := g3 c (Nat.le_refl c) e
            have := hno c (Nat.le_refl c) e
            omega
          · omega
        · rw [hend]
          unfold aLast tE
          rw [show (0 : Int).toNat = 0 from rfl, h0.2.1.2.2.2.2.1, h0.2.1.2.2.2.2.2]
          omega
      · have rI := h1 ins.toNat (by omega) (by omega)
        have p1 := rI.1.1
        refine Or.inr ⟨⟨⟨p1.1.1, by omega⟩, p1.2⟩, fun j a b => ?_, fun q a b w => ?_, fun k a b d e => ?_, fun w => ?_⟩
        · by_cases e : (j : Int) < ins
          · exact rI.2.2.2.2 j a (by omega)
          · by_cases e2 : (j : Int) = ins
            · rw [show j = ins.toNat by omega]; omega
            · have := g1 j (by omega) b; omega
        · have := hno q a b
          have := g3 q a b
          have rq := h1 q (by omega) b
          have := rq.2.2.2.2 ins.toNat
          omega
        · have ek : (k : Int) = ins := by
            by_cases e1 : (k : Int) < ins
            · exact absurd rfl (e ins.toNat (by omega) (by omega))
            · by_cases e2 : ins < (k : Int)
              · have := g1 k e2 b; omega
              · omega
          rw [hend]
          unfold aLast
          rw [show k = ins.toNat by omega]
          omega
        · exact absurd rfl (w ins.toNat (by omega) (by omega))
