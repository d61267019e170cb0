/-! PURE 39: one name after the other -/
theorem low_inj {f g : Nat → Int} {a : Int} (hf : ∀ x, 0 ≤ f x ∧ f x ≤ 255) (hg : ∀ x, 0 ≤ g x ∧ g x ≤ 255) (h : mLow f a 4 = mLow g a 4) (ha : 0 ≤ a) : ∀ y : Nat, a ≤ y → (y : Int) < a + 4 → f y = g y := by
  intro y y1 y2
  rw [mLow4, mLow4] at h
  have f0 := hf (a + 0).toNat
  have f1 := hf (a + 1).toNat
  have f2 := hf (a + 2).toNat
  have f3 := hf (a + 3).toNat
  have g0 := hg (a + 0).toNat
  have g1 := hg (a + 1).toNat
  have g2 := hg (a + 2).toNat
  have g3 := hg (a + 3).toNat
  rcases (show y = (a + 0).toNat ∨ y = (a + 1).toNat ∨ y = (a + 2).toNat ∨ y = (a + 3).toNat by omega) with e | e | e | e
  · rw [e]; omega
  · rw [e]; omega
  · rw [e]; omega
  · rw [e]; omega
/-- the first of them goes last -/
theorem bk_front {C : Nat → Bool} {pos le va : Nat → Int} {lo : Nat} : ∀ (m : Nat) (f : Nat → Int), bk C pos le va lo (m + 1) f = (if C lo = true then h0 (bk C pos le va (lo + 1) m f) (pos lo) (le lo) (eD (va lo)) (bDigits (va lo)) else bk C pos le va (lo + 1) m f) ∧ bz C le va lo (m + 1) = bz C le va (lo + 1) m + (if C lo = true then bDigits (va lo) - le lo else 0) := by
  intro m
  induction m with
  | zero =>
    intro f
    unfold bk bz
    rw [Nat.add_zero]
    unfold bk bz
    exact ⟨rfl, rfl⟩
  | succ m ih =>
    intro f
    have e : lo + (m + 1) = lo + 1 + m := by omega
    refine ⟨?_, ?_⟩
    · show bk C pos le va lo (m + 1) _ = _
      rw [(ih _).1, e]
      rfl
    · have i := (ih f).2
      show bz C le va lo (m + 1) + _ = bz C le va (lo + 1) m + _ + _
      rw [i, e]
      omega
/-- what lies ahead of them all is not looked at -/
theorem bk_out {C : Nat → Bool} {pos le va : Nat → Int} {lo : Nat} {Fl : Nat → Prop} {P : Int} (hP : 0 ≤ P) (hFl : ∀ y : Nat, Fl y → (y : Int) < P) : ∀ (m : Nat) (M : Int) (f g : Nat → Int), (∀ i, i < m → C (lo + i) = true → P ≤ pos (lo + i) ∧ 0 ≤ le (lo + i)) → (∀ i, i < m → C (lo + i) = true → pos (lo + i) + le (lo + i) ≤ M + (bz C le va lo m - bz C le va lo (i + 1))) → (∀ y : Nat, ¬ Fl y → (y : Int) < M → f y = g y) → ∀ y : Nat, ¬ Fl y → (y : Int) < M + bz C le va lo m → bk C pos le va lo m f y = bk C pos le va lo m g y := by
  intro m
  induction m with
  | zero => intro M f g _ _ h y y1 y2; exact h y y1 (by unfold bz at y2; omega)
  | succ m ih =>
    intro M f g h1 h2 h3 y y1 y2
    unfold bk
    have ez : bz C le va lo (m + 1) = bz C le va lo m + (if C (lo + m) = true then bDigits (va (lo + m)) - le (lo + m) else 0) := rfl
    cases hc : C (lo + m)
    · rw [if_neg (by decide), if_neg (by decide)]
      rw [hc, if_neg (by decide), Int.add_zero] at ez
      refine ih M f g (fun i hi => h1 i (by omega)) (fun i hi w => by have := h2 i (by omega) w; omega) h3 y y1 (by omega)
    · rw [if_pos rfl, if_pos rfl]
      rw [hc, if_pos rfl] at ez
      have q := h1 m (by omega) hc
      have q2 := h2 m (by omega) hc
      have hd := bDigits_r (va (lo + m))
      refine ih (M + (bDigits (va (lo + m)) - le (lo + m))) _ _ (fun i hi => h1 i (by omega)) (fun i hi w => by have := h2 i (by omega) w; omega) (fun y y1 y2 => ?_) y y1 (by omega)
      unfold h0
      by_cases c1 : (y : Int) < pos (lo + m)
      · rw [if_pos c1, if_pos c1]; exact h3 y y1 (by omega)
      · rw [if_neg c1, if_neg c1]
        by_cases c2 : (y : Int) < pos (lo + m) + bDigits (va (lo + m))
        · rw [if_pos c2, if_pos c2]
        · rw [if_neg c2, if_neg c2]
          refine h3 _ (fun w => ?_) (by omega)
          have := hFl _ w
          omega
theorem mIt_s {S : MS} {T : Nat → Nat → Int} {c : Nat} {bx nu : Int} (hr : ∀ k : Nat, k < c → S.a 4 k = T 1 k) : ∀ (N k : Nat), k + N = c → (mItN S bx nu N k (cC T bx k) = -1 ∧ ∀ j : Nat, k ≤ j → j < c → ¬ (T 1 j = bx ∧ cC T bx j = nu)) ∨ ∃ j : Nat, k ≤ j ∧ j < c ∧ T 1 j = bx ∧ cC T bx j = nu ∧ mItN S bx nu N k (cC T bx k) = j := by
  intro N
  induction N with
  | zero => intro k h; exact Or.inl ⟨rfl, fun j a b => by omega⟩
  | succ N ih =>
    intro k h
    unfold mItN
    rw [show ((k : Int)).toNat = k by omega, hr k (by omega), show ((k : Int) + 1) = ((k + 1 : Nat) : Int) by omega]
    have ec : cC T bx (k + 1) = cC T bx k + (if T 1 k = bx then 1 else 0) := rfl
    by_cases e : T 1 k = bx
    · rw [if_pos e]
      rw [if_pos e] at ec
      by_cases e2 : cC T bx k = nu
      · rw [if_pos e2]
        exact Or.inr ⟨k, Nat.le_refl k, by omega, e, e2, rfl⟩
      · rw [if_neg e2, ← ec]
        rcases ih (k + 1) (by omega) with ⟨w1, w2⟩ | ⟨j, w1, w2, w3⟩
        · refine Or.inl ⟨w1, fun j a b z => ?_⟩
          by_cases ej : j = k
          · subst ej; exact e2 z.2
          · exact w2 j (by omega) b z
        · exact Or.inr ⟨j, by omega, w2, w3⟩
    · rw [if_neg e]
      rw [if_neg e, Int.add_zero] at ec
      rw [← ec]
      rcases ih (k + 1) (by omega) with ⟨w1, w2⟩ | ⟨j, w1, w2, w3⟩
      · refine Or.inl ⟨w1, fun j a b z => ?_⟩
        by_cases ej : j = k
        · subst ej; exact e z.1
        · exact w2 j (by omega) b z
      · exact Or.inr ⟨j, by omega, w2, w3⟩
theorem mItem_s {S : MS} {T : Nat → Nat → Int} {c : Nat} {bx nu : Int} (hb : 0 ≤ bx) (h0 : T 1 0 = -1) (h3 : S.f 3 = c) (hc : 1 ≤ c) (hr : ∀ k : Nat, k < c → S.a 4 k = T 1 k) : (mItem bx nu S = -1 ∧ ∀ j : Nat, j < c → ¬ (T 1 j = bx ∧ cC T bx j = nu)) ∨ ∃ j : Nat, 1 ≤ j ∧ j < c ∧ T 1 j = bx ∧ cC T bx j = nu ∧ mItem bx nu S = j := by
  have e1 : cC T bx 1 = 0 := by
    unfold cC cC
    rw [h0, if_neg (by omega)]
    rfl
  have q := mIt_s (S := S) (T := T) (c := c) (bx := bx) (nu := nu) hr (c - 1) 1 (by omega)
  unfold mItem mItF
  rw [h3, show ((c : Int) - 1).toNat = c - 1 by omega]
  rw [e1, show ((1 : Nat) : Int) = 1 from rfl] at q
  rcases q with ⟨w1, w2⟩ | ⟨j, w1, w2, w3, w4, w5⟩
  · refine Or.inl ⟨w1, fun j a z => ?_⟩
    by_cases e : j = 0
    · subst e; omega
    · exact w2 j (by omega) a z
  · exact Or.inr ⟨j, w1, w2, w3, w4, w5⟩
theorem cC_mono {T : Nat → Nat → Int} {k : Int} {a : Nat} : ∀ (m : Nat), cC T k a ≤ cC T k (a + m) := by
  intro m
  induction m with
  | zero => exact Int.le_refl _
  | succ m ih =>
    show _ ≤ cC T k (a + m) + _
    split <;> omega
/-- numbers name children -/
theorem cC_inj {T : Nat → Nat → Int} {bx : Int} {j k : Nat} (hj : T 1 j = bx) (hk : T 1 k = bx) (h : cC T bx j = cC T bx k) : j = k := by
  have key : ∀ a b : Nat, a < b → T 1 a = bx → cC T bx a < cC T bx b := by
    intro a b hab ha
    have := cC_mono (T := T) (k := bx) (a := a + 1) (b - (a + 1))
    rw [show a + 1 + (b - (a + 1)) = b by omega] at this
    have e : cC T bx (a + 1) = cC T bx a + 1 := by
      show cC T bx a + (if T 1 a = bx then 1 else 0) = _
      rw [if_pos ha]
    omega
  by_cases c1 : j < k
  · have := key j k c1 hj; omega
  · by_cases c2 : k < j
    · have := key k j c2 hk; omega
    · omega
