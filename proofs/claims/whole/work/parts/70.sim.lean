/-! PURE 11: steps in a row, and one step over bytes that lie elsewhere -/
def aSt (f : Nat → Int) (ln : Bool) : Nat → sS → sS → Prop
  | 0, s, s1 => s1 = s
  | N + 1, s, s1 => 0 ≤ s.2.1 ∧ (aF f ln s).1 = 0 ∧ aSt f ln N (aN f s) s1
theorem aSt_t {f : Nat → Int} {ln : Bool} : ∀ {N M : Nat} {s s1 s2 : sS}, aSt f ln N s s1 → aSt f ln M s1 s2 → aSt f ln (N + M) s s2 := by
  intro N
  induction N with
  | zero =>
    intro M s s1 s2 h h2
    have e : s1 = s := h
    subst e
    rw [Nat.zero_add]
    exact h2
  | succ N ih =>
    intro M s s1 s2 h h2
    rw [Nat.succ_add]
    exact ⟨h.1, h.2.1, ih h.2.2 h2⟩
theorem aSt_1 {f : Nat → Int} {ln : Bool} {s : sS} (h1 : 0 ≤ s.2.1) (h2 : (aF f ln s).1 = 0) : aSt f ln 1 s (aN f s) := ⟨h1, h2, rfl⟩
theorem PC_st {f : Nat → Int} (hf : ∀ x, 0 ≤ f x ∧ f x ≤ 255) {ln : Bool} {n : Int} : ∀ {N : Nat} {s s1 : sS}, PC f ln n s → aSt f ln N s s1 → PC f ln n s1 := by
  intro N
  induction N with
  | zero => intro s s1 h h2; rw [show s1 = s from h2]; exact h
  | succ N ih =>
    intro s s1 h h2
    obtain ⟨t, ins, T, c⟩ := s
    exact ih (PC_step hf h h2.1 h2.2.1).1 h2.2.2
/-- what a row keeps as the run goes on; what is new lies ahead -/
theorem aN_old {f : Nat → Int} {s : sS} : s.2.2.2 ≤ (aN f s).2.2.2 ∧ (∀ co k, k < s.2.2.2 → co < 6 → (aN f s).2.2.1 co k = s.2.2.1 co k) ∧ ∀ k : Nat, s.2.2.2 ≤ k → k < (aN f s).2.2.2 → (aN f s).2.2.1 3 k - 1 = s.1 := by
  unfold aN
  split
  · exact ⟨Nat.le_refl _, fun _ _ _ _ => rfl, fun k a b => by dsimp only at b; omega⟩
  · refine ⟨by dsimp only; omega, fun co k a b => nA_o (by omega) b, fun k a b => ?_⟩
    have e : k = s.2.2.2 := by dsimp only at b; omega
    dsimp only
    rw [e, nA_3]
    omega
theorem aSt_old {f : Nat → Int} (hf : ∀ x, 0 ≤ f x ∧ f x ≤ 255) {ln : Bool} {n : Int} : ∀ {N : Nat} {s s1 : sS}, PC f ln n s → aSt f ln N s s1 → s.1 ≤ s1.1 ∧ s.2.2.2 ≤ s1.2.2.2 ∧ (∀ co k, k < s.2.2.2 → co < 6 → s1.2.2.1 co k = s.2.2.1 co k) ∧ ∀ k : Nat, s.2.2.2 ≤ k → k < s1.2.2.2 → s.1 ≤ s1.2.2.1 3 k - 1 := by
  intro N
  induction N with
  | zero =>
    intro s s1 h h2
    rw [show s1 = s from h2]
    exact ⟨Int.le_refl _, Nat.le_refl _, fun _ _ _ _ => rfl, fun k a b => by omega⟩
  | succ N ih =>
    intro s s1 h h2
    obtain ⟨t, ins, T, c⟩ := s
    have hp := PC_step hf h h2.1 h2.2.1
    obtain ⟨a1, a2, a3, a4⟩ := ih hp.1 h2.2.2
    obtain ⟨b2, b3, b4⟩ := aN_old (f := f) (s := (t, ins, T, c))
    dsimp only at *
    refine ⟨by omega, by omega, fun co k q r => by rw [a3 co k (by omega) r, b3 co k q r], fun k q r => ?_⟩
    by_cases e : k < (aN f (t, ins, T, c)).2.2.2
    · rw [a3 3 k e (by decide)]
      have := b4 k q e
      omega
    · have := a4 k (by omega) r
      omega
/-- rows in their order on the bytes; what is closed lies behind -/
def hd (T : Nat → Nat → Int) (k : Nat) : Int := T 4 k + (if kHold (T 0 k) = true then 4 else T 5 k)
def pcH (s : sS) : Prop := (∀ k, k < s.2.2.2 → hd s.2.2.1 k ≤ s.1) ∧ (∀ k j, k < j → j < s.2.2.2 → hd s.2.2.1 k ≤ s.2.2.1 3 j - 1) ∧ ∀ k, k < s.2.2.2 → ¬ opn s.2.2.1 s.2.2.2 s.2.1 k → tE s.2.2.1 k ≤ s.1
theorem hd_ext {T T1 : Nat → Nat → Int} {k : Nat} (h : ∀ co, co < 6 → T1 co k = T co k) : hd T1 k = hd T k := by
  unfold hd
  rw [h 0 (by decide), h 4 (by decide), h 5 (by decide)]
theorem pcH_start {n : Int} {T : Nat → Nat → Int} : pcH (aStart n T) := by
  unfold pcH aStart
  dsimp only
  refine ⟨fun k a => ?_, fun k j a b => by omega, fun k a z => ?_⟩
  · have e : k = 0 := by omega
    subst e
    unfold hd
    rw [nA_0, nA_4, if_pos (show kHold 3 = true from rfl)]
    decide
  · have e : k = 0 := by omega
    subst e
    exact absurd ⟨by omega, fun j a b => by omega⟩ z
theorem pcH_step {f : Nat → Int} (hf : ∀ x, 0 ≤ f x ∧ f x ≤ 255) {ln : Bool} {n t ins : Int} {T : Nat → Nat → Int} {c : Nat} (h : PC f ln n (t, ins, T, c)) (hi : 0 ≤ ins) (hF : (aF f ln (t, ins, T, c)).1 = 0) (g : pcH (t, ins, T, c)) : pcH (aN f (t, ins, T, c)) := by
  have hlt := (PC_step hf h hi hF).2
  have hin := PC_ins h hi
  obtain ⟨g1, g2, g3⟩ := g
  dsimp only at g1 g2 g3
  unfold aN at hlt ⊢
  dsimp only at hlt ⊢
  by_cases c0 : t = aLast T ins
  · rw [if_pos c0] at hlt ⊢
    refine ⟨fun k a => by have := g1 k a; dsimp only; omega, g2, fun k a z => ?_⟩
    dsimp only at a z ⊢
    rcases opn_close h hi z with w | w
    · have := g3 k a w; omega
    · have ek : k = ins.toNat := by omega
      rw [c0, ek]
      unfold aLast
      omega
  · rw [if_neg c0] at hlt ⊢
    dsimp only at hlt
    refine ⟨fun k a => ?_, fun k j a b => ?_, fun k a z => ?_⟩
    · dsimp only at a ⊢
      by_cases e : k = c
      · subst e
        unfold hd
        rw [nA_0, nA_4, nA_5]
        exact Int.le_refl _
      · rw [hd_ext (T := T) (fun co hco => nA_o e hco)]
        have := g1 k (by omega)
        omega
    · dsimp only at b ⊢
      rw [hd_ext (T := T) (fun co hco => nA_o (by omega) hco)]
      by_cases e : j = c
      · subst e
        rw [nA_3]
        have := g1 k (by omega)
        omega
      · rw [nA_o e (by decide)]
        exact g2 k j a (by omega)
    · dsimp only at a z ⊢
      by_cases e : k = c
      · subst e
        by_cases hh : kHold (f t.toNat) = true
        · rw [if_pos hh] at z
          exact absurd ⟨by omega, fun j x y => by omega⟩ z
        · rw [nA_Ec, if_neg hh]
          exact Int.le_refl _
      · rw [nA_E e]
        have := g3 k (by omega) (fun w => z ((opn_app h hi (by split <;> omega) (by omega)).mpr w))
        omega
theorem pcH_st {f : Nat → Int} (hf : ∀ x, 0 ≤ f x ∧ f x ≤ 255) {ln : Bool} {n : Int} : ∀ {N : Nat} {s s1 : sS}, PC f ln n s → pcH s → aSt f ln N s s1 → pcH s1 := by
  intro N
  induction N with
  | zero => intro s s1 h g h2; rw [show s1 = s from h2]; exact g
  | succ N ih =>
    intro s s1 h g h2
    obtain ⟨t, ins, T, c⟩ := s
    exact ih (PC_step hf h h2.1 h2.2.1).1 (pcH_step hf h h2.1 h2.2.1 g) h2.2.2
/-- what is closed stays so -/
theorem opn_step {f : Nat → Int} {ln : Bool} {n t ins : Int} {T : Nat → Nat → Int} {c : Nat} (h : PC f ln n (t, ins, T, c)) (hi : 0 ≤ ins) {k : Nat} (hk : k < c) (z : opn (aN f (t, ins, T, c)).2.2.1 (aN f (t, ins, T, c)).2.2.2 (aN f (t, ins, T, c)).2.1 k) : opn T c ins k := by
  unfold aN at z
  dsimp only at z
  by_cases c0 : t = aLast T ins
  · rw [if_pos c0] at z
    dsimp only at z
    have hp : T 1 ins.toNat < ins := by
      by_cases e : ins = 0
      · subst e; have := h.1.2.1.2.1; dsimp only at this; rw [show (0 : Int).toNat = 0 from rfl, this]; decide
      · have := (h.2.1 ins.toNat (by omega) (by have := (PC_ins h hi).1.1; dsimp only; omega)).1.1.1
        dsimp only at this
        omega
    exact ⟨by have := z.1; omega, z.2⟩
  · rw [if_neg c0] at z
    dsimp only at z
    exact (opn_app h hi (by split <;> omega) hk).mp z
theorem opn_st {f : Nat → Int} (hf : ∀ x, 0 ≤ f x ∧ f x ≤ 255) {ln : Bool} {n : Int} : ∀ {N : Nat} {s s1 : sS} {k : Nat}, PC f ln n s → aSt f ln N s s1 → k < s.2.2.2 → opn s1.2.2.1 s1.2.2.2 s1.2.1 k → opn s.2.2.1 s.2.2.2 s.2.1 k := by
  intro N
  induction N with
  | zero => intro s s1 k h h2 _ z; rw [show s1 = s from h2] at z; exact z
  | succ N ih =>
    intro s s1 k h h2 hk z
    obtain ⟨t, ins, T, c⟩ := s
    have hp := PC_step hf h h2.1 h2.2.1
    exact opn_step h h2.1 hk (ih hp.1 h2.2.2 (by have := (aN_old (f := f) (s := (t, ins, T, c))).1; dsimp only at *; omega) z)
/-- an element's step over bytes h, which at d further on are f's -/
theorem eStep {f h : Nat → Int} {ln : Bool} {t ins : Int} {T : Nat → Nat → Int} {c : Nat} {d i1 : Int} {T1 : Nat → Nat → Int} {c1 : Nat} {v k l1 : Int} (hl : t < aLast T ins) (hF : (aF f ln (t, ins, T, c)).1 = 0) (h0 : 0 ≤ t) (hd0 : 0 ≤ t + d)
    (hv : v = aV f (t, ins, T, c)) (hk : k = f t.toNat) (e1 : sEq f h t v d) (e2 : kHold k = false → sEq f h v (v + aVl f k v) d)
    (hl1 : kHold k = true → mLow h (v + d) 4 = l1 ∧ 5 ≤ l1) (hl2 : kHold k = false → l1 = aVl f k v) (hlast : v + d + l1 ≤ aLast T1 i1) (hnm : aNm h ln (t + d) (v - 1 + d) i1 T1 c1 = true) (hdep : kHold k = true → T1 2 i1.toNat < 16) :
    (aF h ln (t + d, i1, T1, c1)).1 = 0 ∧ aN h (t + d, i1, T1, c1) = (v + (if kHold k = true then 4 else l1) + d, (if kHold k = true then (c1 : Int) else i1), nApp T1 c1 k i1 (t + 1 + d) (v + d) l1, c1 + 1) ∧ v + (if kHold k = true then 4 else l1) + d ≤ aLast T1 i1 := by
  rcases aF_ok hF (by omega) with ⟨q, _⟩ | ⟨_, r2, r3, r4, r5, r6⟩
  · omega
  · have hve : aV f (t, ins, T, c) = mNz f (aLast T ins) (t + 1) + 1 := rfl
    rw [hve] at hv
    obtain ⟨z1, z2, z3, z4⟩ := mNz_spec (f := f) (last := aLast T ins) _ (t + 1) rfl (by omega)
    have z5 := z4 r3
    generalize mNz f (aLast T ins) (t + 1) = z at *
    have hz : z = v - 1 := by omega
    rw [hz] at z1 z2 z3 z5 r3 r4 r5 r6
    rw [show v - 1 + 1 = v by omega] at r6
    obtain ⟨v1, v2, v3⟩ := aFv_ok r6
    have hkt : h (t + d).toNat = k := by rw [e1 t (Int.le_refl t) (by omega)]; exact hk.symm
    rw [← hk] at r2 v1 v2 v3
    have hl0 : 0 ≤ l1 := by
      cases hh : kHold k
      · rw [hl2 hh]
        by_cases h2 : k = 2
        · rw [aVl_2 h2]; have := v2 h2; omega
        · rw [aVl_n (by rw [hh]; decide) h2]; exact (kWidth_r k).1
      · have := (hl1 hh).2; omega
    have hmz : mNz h (aLast T1 i1) (t + d + 1) = v - 1 + d := by
      refine mNz_eq (by omega) (by omega) (fun x x1 x2 => ?_) ?_
      · have := e1 (x - d) (by omega) (by omega)
        rw [show x - d + d = x by omega] at this
        rw [this]
        exact z3 (x - d) (by omega) (by omega)
      · rw [e1 (v - 1) (by omega) (by omega)]
        exact z5
    have hbad : mBad h (t + d + 1) (v - 1 + d) = -1 := by
      rw [show t + d + 1 = t + 1 + d by omega]
      exact (mBad_sh (sEq_sub e1 (by omega) (by omega)) (by omega) (by omega)).mpr r4
    have hfv : aFv h k (v + d) (aLast T1 i1) (T1 2 i1.toNat) = (0, -1) := by
      refine aFv_0 (fun w => ?_) (fun w => ?_) (fun w w2 => ?_)
      · have a := hl1 w
        have b := hdep w
        rw [a.1]
        omega
      · have hh : kHold k = false := by rw [w]; rfl
        have a := v2 w
        have eL := hl2 hh
        rw [aVl_2 w] at eL
        have e3 := e2 hh
        rw [aVl_2 w] at e3
        have eLow : mLow h (v + d) 4 = mLow f v 4 := mLow_sh (by decide) (sEq_sub e3 (Int.le_refl v) (by omega))
        rw [eLow]
        refine ⟨by omega, by omega, by omega, ?_, ?_⟩
        · rw [show v + d + 4 + mLow f v 4 - 1 = v + 4 + mLow f v 4 - 1 + d by omega, e3 _ (by omega) (by omega)]
          exact a.2.2.2.1
        · rw [show v + d + 4 + mLow f v 4 - 1 = v + 4 + mLow f v 4 - 1 + d by omega, show v + d + 4 = v + 4 + d by omega]
          exact (mBad_sh (sEq_sub e3 (by omega) (by omega)) (by omega) (by omega)).mpr a.2.2.2.2
      · have a := v3 w w2
        have eL := hl2 w
        rw [aVl_n (by rw [w]; decide) w2] at eL
        refine ⟨by omega, fun w8 => ?_⟩
        have e3 := e2 w
        rw [aVl_n (by rw [w]; decide) w2, w8] at e3
        have e4 : kWidth 8 = 1 := rfl
        rw [e3 v (Int.le_refl v) (by omega)]
        exact a.2 w8
    have hne : ¬ t + d = aLast T1 i1 := by omega
    refine ⟨?_, ?_, ?_⟩
    · unfold aF
      dsimp only
      rw [if_neg hne]
      unfold aFe
      rw [hkt, if_neg (kIs_0 r2), if_neg (by rw [r2]; decide), hmz, if_neg (by omega), if_neg (fun w => w hbad), hnm, if_neg (by decide), show v - 1 + d + 1 = v + d by omega, hfv]
    · unfold aN aV
      dsimp only
      rw [if_neg hne, hmz, hkt, show v - 1 + d + 1 = v + d by omega, show t + d + 1 = t + 1 + d by omega]
      have eA : aVl h k (v + d) = l1 := by
        cases hh : kHold k
        · rw [hl2 hh]
          by_cases h2 : k = 2
          · rw [aVl_2 h2, aVl_2 h2]
            have e3 := e2 hh
            rw [aVl_2 h2] at e3
            have := v2 h2
            rw [mLow_sh (by decide) (sEq_sub e3 (Int.le_refl v) (by omega))]
          · rw [aVl_n (by rw [hh]; decide) h2, aVl_n (by rw [hh]; decide) h2]
        · rw [aVl_h hh]; exact (hl1 hh).1
      rw [eA]
      refine Prod.ext ?_ rfl
      dsimp only
      split <;> omega
    · cases hh : kHold k
      · rw [if_neg (by decide)]; omega
      · rw [if_pos rfl]; have := (hl1 hh).2; omega
