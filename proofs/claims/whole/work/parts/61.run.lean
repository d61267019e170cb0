/-! PURE 2: the run over bytes f, as both sides make it. State: at, inside, the table. ln: names in rows are not looked at -/
def tE (T : Nat → Nat → Int) (k : Nat) : Int := T 4 k + T 5 k
def aLast (T : Nat → Nat → Int) (ins : Int) : Int := tE T ins.toNat - 1
def aSame (T : Nat → Nat → Int) (f : Nat → Int) (ins p w : Int) (k : Nat) : Bool := decide (T 1 k = ins ∧ T 4 k - 1 - T 3 k = w) && mSm f (T 3 k) f p w 0
def aDup (T : Nat → Nat → Int) (f : Nat → Int) (ins p w : Int) : Nat → Bool
  | 0 => false
  | N + 1 => aSame T f ins p w N || aDup T f ins p w N
def aNm (f : Nat → Int) (ln : Bool) (t e ins : Int) (T : Nat → Nat → Int) (c : Nat) : Bool :=
  if T 0 ins.toNat = 4 then (ln || mNum f (t + 1) e (T 6 ins.toNat)) else !(aDup T f ins (t + 1) (e - (t + 1)) c)
def aFv (f : Nat → Int) (k v last dep : Int) : Int × Int :=
  if kHold k = true then (if last - v < 4 then (1, v) else if mLow f v 4 < 5 then (2, v) else if last - v < mLow f v 4 then (1, v) else if 16 ≤ dep then (8, v) else (0, -1))
  else if k = 2 then (if last - v < 4 then (1, v) else if mLow f v 4 < 1 then (6, v) else if last - v - 4 < mLow f v 4 then (1, v) else if ¬ f (v + 4 + mLow f v 4 - 1).toNat = 0 then (6, v + 4 + mLow f v 4 - 1) else if ¬ mBad f (v + 4) (v + 4 + mLow f v 4 - 1) = -1 then (4, mBad f (v + 4) (v + 4 + mLow f v 4 - 1)) else (0, -1))
  else if last - v < kWidth k then (1, v) else if k = 8 ∧ 1 < f v.toNat then (5, v) else (0, -1)
def aFe (f : Nat → Int) (ln : Bool) (last t ins : Int) (T : Nat → Nat → Int) (c : Nat) : Int × Int :=
  if f t.toNat = 0 then (2, t) else if kIs (f t.toNat) = false then (3, t) else if last ≤ mNz f last (t + 1) then (1, t + 1)
  else if ¬ mBad f (t + 1) (mNz f last (t + 1)) = -1 then (4, mBad f (t + 1) (mNz f last (t + 1)))
  else if aNm f ln t (mNz f last (t + 1)) ins T c = false then (7, t + 1) else aFv f (f t.toNat) (mNz f last (t + 1) + 1) last (T 2 ins.toNat)
def aF (f : Nat → Int) (ln : Bool) (s : sS) : Int × Int :=
  if s.1 = aLast s.2.2.1 s.2.1 then (if f s.1.toNat = 0 then (0, -1) else (2, s.1)) else aFe f ln (aLast s.2.2.1 s.2.1) s.1 s.2.1 s.2.2.1 s.2.2.2
def aVl (f : Nat → Int) (k v : Int) : Int := if k = 2 then 4 + mLow f v 4 else if kHold k = true then mLow f v 4 else kWidth k
def aV (f : Nat → Int) (s : sS) : Int := mNz f (aLast s.2.2.1 s.2.1) (s.1 + 1) + 1
def aN (f : Nat → Int) (s : sS) : sS :=
  if s.1 = aLast s.2.2.1 s.2.1 then (s.1 + 1, s.2.2.1 1 s.2.1.toNat, s.2.2.1, s.2.2.2)
  else (aV f s + (if kHold (f s.1.toNat) = true then 4 else aVl f (f s.1.toNat) (aV f s)), (if kHold (f s.1.toNat) = true then (s.2.2.2 : Int) else s.2.1), nApp s.2.2.1 s.2.2.2 (f s.1.toNat) s.2.1 (s.1 + 1) (aV f s) (aVl f (f s.1.toNat) (aV f s)), s.2.2.2 + 1)
def aGo (f : Nat → Int) (ln : Bool) : Nat → sS → sS × Int × Int
  | 0, s => (s, 0, -1)
  | N + 1, s => if s.2.1 < 0 then (s, 0, -1) else if ¬ (aF f ln s).1 = 0 then (s, aF f ln s) else aGo f ln N (aN f s)
def aStart (n : Int) (T : Nat → Nat → Int) : sS := (4, 0, nApp T 0 3 (-1) (-1) 0 n, 1)
def aF0 (f : Nat → Int) (n : Int) : Int × Int := if n < 4 then (1, 0) else if mLow f 0 4 < 5 ∨ mLow f 0 4 < n then (2, 0) else if n < mLow f 0 4 then (1, 0) else (0, -1)
theorem aDup_iff {T : Nat → Nat → Int} {f : Nat → Int} {ins p w : Int} : ∀ {N : Nat}, aDup T f ins p w N = true ↔ ∃ k, k < N ∧ aSame T f ins p w k = true := by
  intro N
  induction N with
  | zero => exact ⟨fun h => (by cases h), fun ⟨k, h, _⟩ => absurd h (Nat.not_lt_zero k)⟩
  | succ N ih =>
    unfold aDup
    rw [Bool.or_eq_true, ih]
    constructor
    · rintro (h | ⟨k, h, h2⟩)
      · exact ⟨N, by omega, h⟩
      · exact ⟨k, by omega, h2⟩
    · rintro ⟨k, h, h2⟩
      by_cases e : k = N
      · subst e; exact Or.inl h2
      · exact Or.inr ⟨k, by omega, h2⟩
theorem mSmN_iff {f h : Nat → Int} {p q : Int} : ∀ (N : Nat) (i : Int), mSmN f p h q N i = true ↔ ∀ j : Int, i ≤ j → j < i + N → f (p + j).toNat = h (q + j).toNat := by
  intro N
  induction N with
  | zero => intro i; exact ⟨fun _ j h1 h2 => by omega, fun _ => rfl⟩
  | succ N ih =>
    intro i
    unfold mSmN
    by_cases e : f (p + i).toNat = h (q + i).toNat
    · rw [if_pos e, ih]
      constructor
      · intro g j h1 h2
        by_cases e2 : j = i
        · subst e2; exact e
        · exact g j (by omega) (by omega)
      · intro g j h1 h2
        exact g j (by omega) (by omega)
    · rw [if_neg e]
      exact ⟨fun g => (by cases g), fun g => absurd (g i (by omega) (by omega)) e⟩
theorem mSm_iff {f h : Nat → Int} {p q w : Int} : mSm f p h q w 0 = true ↔ ∀ j : Int, 0 ≤ j → j < w → f (p + j).toNat = h (q + j).toNat := by
  unfold mSm
  rw [mSmN_iff]
  constructor
  · intro g j h1 h2; exact g j h1 (by omega)
  · intro g j h1 h2; exact g j h1 (by omega)
theorem aSame_iff {T : Nat → Nat → Int} {f : Nat → Int} {ins p w : Int} {k : Nat} : aSame T f ins p w k = true ↔ (T 1 k = ins ∧ T 4 k - 1 - T 3 k = w) ∧ ∀ j : Int, 0 ≤ j → j < w → f (T 3 k + j).toNat = f (p + j).toNat := by
  unfold aSame
  rw [Bool.and_eq_true, decide_eq_true_iff, mSm_iff]
/-- the rows of k in a table -/
def cC (T : Nat → Nat → Int) (k : Int) : Nat → Int
  | 0 => 0
  | N + 1 => cC T k N + (if T 1 N = k then 1 else 0)
theorem cC_r (T : Nat → Nat → Int) (k : Int) : ∀ N, 0 ≤ cC T k N ∧ cC T k N ≤ N := by
  intro N
  induction N with
  | zero => exact ⟨Int.le_refl 0, Int.le_refl 0⟩
  | succ N ih => unfold cC; split <;> omega
theorem cC_ext {T T1 : Nat → Nat → Int} {k : Int} : ∀ {N : Nat}, (∀ x, x < N → T1 1 x = T 1 x) → cC T1 k N = cC T k N := by
  intro N
  induction N with
  | zero => intro _; rfl
  | succ N ih =>
    intro h
    unfold cC
    rw [ih (fun x hx => h x (by omega)), h N (by omega)]
theorem cC_0 {T : Nat → Nat → Int} {k : Int} : ∀ {N : Nat}, (∀ x, x < N → ¬ T 1 x = k) → cC T k N = 0 := by
  intro N
  induction N with
  | zero => intro _; rfl
  | succ N ih =>
    intro h
    unfold cC
    rw [ih (fun x hx => h x (by omega)), if_neg (h N (by omega))]
    rfl
/-! rows of a table: what each keeps to -/
def pcR (f : Nat → Int) (T : Nat → Nat → Int) (k : Nat) : Prop :=
  ((0 ≤ T 1 k ∧ T 1 k < k) ∧ kHold (T 0 (T 1 k).toNat) = true) ∧ (kIs (T 0 k) = true ∧ f (T 3 k - 1).toNat = T 0 k) ∧ (5 ≤ T 3 k ∧ T 3 k ≤ T 4 k - 1 ∧ 0 ≤ T 5 k ∧ tE T k ≤ tE T (T 1 k).toNat - 1)
  ∧ (∀ x : Int, T 3 k ≤ x → x < T 4 k - 1 → ¬ f x.toNat = 0) ∧ (f (T 4 k - 1).toNat = 0 ∧ mBad f (T 3 k) (T 4 k - 1) = -1) ∧ (T 2 k = T 2 (T 1 k).toNat + bI (kHold (T 0 k)) ∧ T 2 k ≤ 16)
def pcV (f : Nat → Int) (T : Nat → Nat → Int) (k : Nat) : Prop :=
  aVl f (T 0 k) (T 4 k) = T 5 k ∧ (T 0 k = 2 → 5 ≤ T 5 k ∧ f (tE T k - 1).toNat = 0 ∧ mBad f (T 4 k + 4) (tE T k - 1) = -1) ∧ (T 0 k = 8 → f (T 4 k).toNat ≤ 1) ∧ (kHold (T 0 k) = true → 5 ≤ T 5 k)
def pcN (f : Nat → Int) (T : Nat → Nat → Int) (k : Nat) : Prop := ¬ T 0 (T 1 k).toNat = 4 → aDup T f (T 1 k) (T 3 k) (T 4 k - 1 - T 3 k) k = false
def pcM (f : Nat → Int) (ln : Bool) (T : Nat → Nat → Int) (k : Nat) : Prop := T 0 (T 1 k).toNat = 4 → ln = true ∨ mNum f (T 3 k) (T 4 k - 1) (cC T (T 1 k) k) = true
def pcO (T : Nat → Nat → Int) (k : Nat) : Prop := ∀ j : Nat, T 1 k < j → j < k → T 1 k ≤ T 1 j
def pcK (f : Nat → Int) (ln : Bool) (T : Nat → Nat → Int) (k : Nat) : Prop := pcR f T k ∧ pcV f T k ∧ pcN f T k ∧ pcM f ln T k ∧ pcO T k
def pc0 (f : Nat → Int) (n : Int) (T : Nat → Nat → Int) (c : Nat) : Prop := 1 ≤ c ∧ (T 0 0 = 3 ∧ T 1 0 = -1 ∧ T 2 0 = 1 ∧ T 3 0 = -1 ∧ T 4 0 = 0 ∧ T 5 0 = n) ∧ (5 ≤ n ∧ n ≤ 2000) ∧ mLow f 0 4 = n
/-- where rows begin -/
def pcB (T : Nat → Nat → Int) (c : Nat) : Prop :=
  (∀ q : Nat, 1 ≤ q → q < c → (∀ j : Nat, T 1 q < j → j < q → ¬ T 1 j = T 1 q) → T 3 q - 1 = T 4 (T 1 q).toNat + 4)
  ∧ ∀ k q : Nat, 1 ≤ k → k < q → q < c → T 1 q = T 1 k → (∀ j : Nat, k < j → j < q → ¬ T 1 j = T 1 k) → T 3 q - 1 = tE T k
def opn (T : Nat → Nat → Int) (c : Nat) (ins : Int) (p : Nat) : Prop := p ≤ ins ∧ ∀ j : Nat, p < j → j < c → p ≤ T 1 j
/-- where they end -/
def pcL (t ins : Int) (T : Nat → Nat → Int) (c : Nat) : Prop :=
  (∀ k : Nat, 1 ≤ k → k < c → (∀ j : Nat, k < j → j < c → ¬ T 1 j = T 1 k) → (¬ opn T c ins (T 1 k).toNat → tE T k = tE T (T 1 k).toNat - 1) ∧ (T 1 k = ins → tE T k = t))
  ∧ ∀ p : Nat, p < c → kHold (T 0 p) = true → (∀ j : Nat, p < j → j < c → ¬ T 1 j = p) → (¬ opn T c ins p → T 4 p + 4 = tE T p - 1) ∧ ((p : Int) = ins → t = T 4 p + 4)
def pcZ (f : Nat → Int) (ins : Int) (T : Nat → Nat → Int) (c : Nat) : Prop := ∀ p : Nat, p < c → kHold (T 0 p) = true → ¬ opn T c ins p → f (tE T p - 1).toNat = 0
def pcS (n t ins : Int) (T : Nat → Nat → Int) (c : Nat) : Prop :=
  ((ins = -1 ∧ t = n) ∨ ((0 ≤ ins ∧ ins < c) ∧ kHold (T 0 ins.toNat) = true ∧ 4 ≤ t ∧ t ≤ aLast T ins)) ∧ ∀ j : Nat, ins < j → j < c → ins ≤ T 1 j
def pcP (ln : Bool) (t ins : Int) (T : Nat → Nat → Int) (c : Nat) : Prop :=
  2 * (c : Int) + 2 ≤ t ∧ (ln = false → 3 * (c : Int) ≤ t ∧ (0 ≤ ins → (∀ j : Nat, j < c → T 1 j = ins → ¬ T 4 j - 1 = T 3 j) → 3 * (c : Int) + 1 ≤ t))
def PC (f : Nat → Int) (ln : Bool) (n : Int) (s : sS) : Prop :=
  pc0 f n s.2.2.1 s.2.2.2 ∧ (∀ k : Nat, 1 ≤ k → k < s.2.2.2 → pcK f ln s.2.2.1 k) ∧ pcB s.2.2.1 s.2.2.2 ∧ pcL s.1 s.2.1 s.2.2.1 s.2.2.2 ∧ pcZ f s.2.1 s.2.2.1 s.2.2.2
  ∧ (∀ k : Nat, k < s.2.2.2 → s.2.2.1 6 k = cC s.2.2.1 k s.2.2.2) ∧ pcS n s.1 s.2.1 s.2.2.1 s.2.2.2 ∧ pcP ln s.1 s.2.1 s.2.2.1 s.2.2.2
/-- right bytes, and their table -/
def Cert (f : Nat → Int) (ln : Bool) (n : Int) (T : Nat → Nat → Int) (c : Nat) : Prop := PC f ln n (n, -1, T, c)
/-- a row more, cell by cell -/
theorem nA_o {T : Nat → Nat → Int} {c : Nat} {k pa nm va vl : Int} {co x : Nat} (h : x ≠ c) (h6 : co < 6) : nApp T c k pa nm va vl co x = T co x := by
  unfold nApp
  rw [if_neg h, if_neg (fun z => by omega)]
theorem nA_0 {T : Nat → Nat → Int} {c : Nat} {k pa nm va vl : Int} : nApp T c k pa nm va vl 0 c = k := by unfold nApp; simp
theorem nA_1 {T : Nat → Nat → Int} {c : Nat} {k pa nm va vl : Int} : nApp T c k pa nm va vl 1 c = pa := by unfold nApp; simp
theorem nA_2 {T : Nat → Nat → Int} {c : Nat} {k pa nm va vl : Int} (h : 0 ≤ pa ∧ pa < c) : nApp T c k pa nm va vl 2 c = bI (kHold k) + T 2 pa.toNat := by unfold nApp; simp [h]
theorem nA_3 {T : Nat → Nat → Int} {c : Nat} {k pa nm va vl : Int} : nApp T c k pa nm va vl 3 c = nm := by unfold nApp; simp
theorem nA_4 {T : Nat → Nat → Int} {c : Nat} {k pa nm va vl : Int} : nApp T c k pa nm va vl 4 c = va := by unfold nApp; simp
theorem nA_5 {T : Nat → Nat → Int} {c : Nat} {k pa nm va vl : Int} : nApp T c k pa nm va vl 5 c = vl := by unfold nApp; simp
theorem nA_6 {T : Nat → Nat → Int} {c : Nat} {k pa nm va vl : Int} : nApp T c k pa nm va vl 6 c = 0 := by unfold nApp; simp
theorem nA_6o {T : Nat → Nat → Int} {c : Nat} {k pa nm va vl : Int} {x : Nat} (h : x ≠ c) (hp : 0 ≤ pa ∧ pa < c) : nApp T c k pa nm va vl 6 x = T 6 x + (if x = pa.toNat then 1 else 0) := by
  unfold nApp
  rw [if_neg h]
  by_cases e : x = pa.toNat
  · rw [if_pos ⟨rfl, hp.1, hp.2, e⟩, if_pos e]
  · rw [if_neg (fun z => e z.2.2.2), if_neg e]; omega
theorem nA_E {T : Nat → Nat → Int} {c : Nat} {k pa nm va vl : Int} {x : Nat} (h : x ≠ c) : tE (nApp T c k pa nm va vl) x = tE T x := by
  unfold tE
  rw [nA_o h (by decide), nA_o h (by decide)]
theorem nA_Ec {T : Nat → Nat → Int} {c : Nat} {k pa nm va vl : Int} : tE (nApp T c k pa nm va vl) c = va + vl := by
  unfold tE
  rw [nA_4, nA_5]
/-- a predicate of a row hangs on the rows up to it alone -/
theorem aDup_ext {T T1 : Nat → Nat → Int} {f : Nat → Int} {ins p w : Int} : ∀ {N : Nat}, (∀ co x, x < N → co < 6 → T1 co x = T co x) → aDup T1 f ins p w N = aDup T f ins p w N := by
  intro N
  induction N with
  | zero => intro _; rfl
  | succ N ih =>
    intro h
    unfold aDup aSame
    rw [ih (fun co x hx hc => h co x (by omega) hc), h 1 N (by omega) (by decide), h 4 N (by omega) (by decide), h 3 N (by omega) (by decide)]
theorem tE_ext {T T1 : Nat → Nat → Int} {x : Nat} (h : ∀ co, co < 6 → T1 co x = T co x) : tE T1 x = tE T x := by
  unfold tE
  rw [h 4 (by decide), h 5 (by decide)]
theorem pcK_ext {f : Nat → Int} {ln : Bool} {T T1 : Nat → Nat → Int} {k : Nat} (hk : 1 ≤ k) (h : ∀ co x, x ≤ k → co < 6 → T1 co x = T co x) (g : pcK f ln T k) : pcK f ln T1 k := by
  obtain ⟨gR, gV, gN, gM, gO⟩ := g
  have p0 := gR.1.1
  have pk : (T 1 k).toNat ≤ k := by omega
  have e1 := h 1 k (Nat.le_refl k) (by decide)
  have eE := tE_ext (fun co hc => h co k (Nat.le_refl k) hc)
  have eP := tE_ext (fun co hc => h co (T 1 k).toNat pk hc)
  refine ⟨?_, ?_, ?_, ?_, ?_⟩
  · unfold pcR
    rw [e1, eE, eP, h 0 _ pk (by decide), h 2 _ pk (by decide), h 0 k (Nat.le_refl k) (by decide), h 2 k (Nat.le_refl k) (by decide), h 3 k (Nat.le_refl k) (by decide), h 4 k (Nat.le_refl k) (by decide), h 5 k (Nat.le_refl k) (by decide)]
    exact gR
  · unfold pcV
    rw [eE, h 0 k (Nat.le_refl k) (by decide), h 4 k (Nat.le_refl k) (by decide), h 5 k (Nat.le_refl k) (by decide)]
    exact gV
  · unfold pcN
    rw [e1, h 0 _ pk (by decide), h 3 k (Nat.le_refl k) (by decide), h 4 k (Nat.le_refl k) (by decide), aDup_ext (fun co x hx hc => h co x (by omega) hc)]
    exact gN
  · unfold pcM
    rw [e1, h 0 _ pk (by decide), h 3 k (Nat.le_refl k) (by decide), h 4 k (Nat.le_refl k) (by decide), cC_ext (fun x hx => h 1 x (by omega) (by decide))]
    exact gM
  · unfold pcO
    intro j h1 h2
    rw [e1] at h1 ⊢
    rw [h 1 j (by omega) (by decide)]
    exact gO j h1 h2
