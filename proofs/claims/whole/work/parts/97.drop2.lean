/-! PURE 38: names put anew, from the last back -/
def eD (v : Int) : Nat → Int := fun y => mDigit v y
theorem h0_comm {f e1 e2 : Nat → Int} {p L N q M K : Int} (hp : 0 ≤ p) (hL : 0 ≤ L) (hN : 0 ≤ N) (hM : 0 ≤ M) (hK : 0 ≤ K) (h : p + L ≤ q) : ∀ y : Nat, h0 (h0 f q M e2 K) p L e1 N y = h0 (h0 f p L e1 N) (q + N - L) M e2 K y := by
  intro y
  unfold h0
  by_cases c1 : (y : Int) < p
  · rw [if_pos c1, if_pos (show (y : Int) < q by omega), if_pos (show (y : Int) < q + N - L by omega), if_pos c1]
  · rw [if_neg c1]
    by_cases c2 : (y : Int) < p + N
    · rw [if_pos c2, if_pos (show (y : Int) < q + N - L by omega), if_neg c1, if_pos c2]
    · rw [if_neg c2]
      have t1 : ((((y : Int) - N + L).toNat : Nat) : Int) = (y : Int) - N + L := by omega
      rw [t1]
      by_cases c3 : (y : Int) < q + N - L
      · rw [if_pos (show (y : Int) - N + L < q by omega), if_pos c3, if_neg c1, if_neg c2]
      · rw [if_neg (show ¬ (y : Int) - N + L < q by omega), if_neg c3]
        by_cases c4 : (y : Int) < q + N - L + K
        · rw [if_pos (show (y : Int) - N + L < q + K by omega), if_pos c4]
          congr 1
          omega
        · rw [if_neg (show ¬ (y : Int) - N + L < q + K by omega), if_neg c4]
          have t2 : ((((y : Int) - K + M).toNat : Nat) : Int) = (y : Int) - K + M := by omega
          rw [t2, if_neg (show ¬ (y : Int) - K + M < p by omega), if_neg (show ¬ (y : Int) - K + M < p + N by omega)]
          congr 1
          omega
/-- rows lo .. lo + m - 1, from the last back: where C, the ln bytes at pos become the number va -/
def bk (C : Nat → Bool) (pos le va : Nat → Int) (lo : Nat) : Nat → (Nat → Int) → Nat → Int
  | 0, f => f
  | m + 1, f => bk C pos le va lo m (if C (lo + m) = true then h0 f (pos (lo + m)) (le (lo + m)) (eD (va (lo + m))) (bDigits (va (lo + m))) else f)
/-- and how many bytes that makes more -/
def bz (C : Nat → Bool) (le va : Nat → Int) (lo : Nat) : Nat → Int
  | 0 => 0
  | m + 1 => bz C le va lo m + (if C (lo + m) = true then bDigits (va (lo + m)) - le (lo + m) else 0)
theorem bk_ext {C : Nat → Bool} {pos le va : Nat → Int} {lo : Nat} : ∀ (m : Nat) (f g : Nat → Int), f = g → bk C pos le va lo m f = bk C pos le va lo m g := fun m f g h => by rw [h]
theorem bk_fn {C C2 : Nat → Bool} {pos pos2 le le2 va va2 : Nat → Int} {lo lo2 : Nat} : ∀ (m : Nat) (f : Nat → Int), (∀ i, i < m → C (lo + i) = C2 (lo2 + i) ∧ (C (lo + i) = true → pos (lo + i) = pos2 (lo2 + i) ∧ le (lo + i) = le2 (lo2 + i) ∧ va (lo + i) = va2 (lo2 + i))) → bk C pos le va lo m f = bk C2 pos2 le2 va2 lo2 m f ∧ bz C le va lo m = bz C2 le2 va2 lo2 m := by
  intro m
  induction m with
  | zero => intro f _; exact ⟨rfl, rfl⟩
  | succ m ih =>
    intro f h
    obtain ⟨a, b⟩ := h m (by omega)
    unfold bk bz
    rw [← a]
    cases hc : C (lo + m)
    · rw [if_neg (by decide), if_neg (by decide), if_neg (by decide), if_neg (by decide)]
      have i := ih f (fun i hi => h i (by omega))
      exact ⟨i.1, by rw [i.2]⟩
    · obtain ⟨b1, b2, b3⟩ := b hc
      rw [if_pos rfl, if_pos rfl, if_pos rfl, if_pos rfl, b1, b2, b3]
      have i := ih (h0 f (pos2 (lo2 + m)) (le2 (lo2 + m)) (eD (va2 (lo2 + m))) (bDigits (va2 (lo2 + m)))) (fun i hi => h i (by omega))
      exact ⟨i.1, by rw [i.2]⟩
/-- an edit ahead of them all goes first or last -/
theorem bk_comm {C : Nat → Bool} {pos le va : Nat → Int} {lo : Nat} {e : Nat → Int} {p L N : Int} (hp : 0 ≤ p) (hL : 0 ≤ L) (hN : 0 ≤ N) : ∀ (m : Nat) (f : Nat → Int), (∀ i, i < m → C (lo + i) = true → p + L ≤ pos (lo + i) ∧ 0 ≤ le (lo + i)) → h0 (bk C pos le va lo m f) p L e N = bk C (fun k => pos k + N - L) le va lo m (h0 f p L e N) := by
  intro m
  induction m with
  | zero => intro f _; rfl
  | succ m ih =>
    intro f h
    unfold bk
    rw [ih _ (fun i hi => h i (by omega))]
    cases hc : C (lo + m)
    · rw [if_neg (by decide), if_neg (by decide)]
    · rw [if_pos rfl, if_pos rfl]
      have q := h m (by omega) hc
      have := bDigits_r (va (lo + m))
      congr 1
      exact funext fun y => h0_comm hp hL hN q.2 (by omega) q.1 y
theorem op_v {b : Nat → Int} {sz : Nat} {a L v : Int} (hb : ∀ x, 0 ≤ b x ∧ b x < 256) (ha : 0 ≤ a) (hL : bDigits v ≤ L) (hs : a + L ≤ sz) : (∀ y : Nat, (y : Int) < sz - (L - bDigits v) → bPd (sz - (L - bDigits v).toNat) a (bDigits v - 1) v (bCut b sz a (L - bDigits v)) y = h0 b a L (eD v) (bDigits v) y) ∧ ∀ y, 0 ≤ bPd (sz - (L - bDigits v).toNat) a (bDigits v - 1) v (bCut b sz a (L - bDigits v)) y ∧ bPd (sz - (L - bDigits v).toNat) a (bDigits v - 1) v (bCut b sz a (L - bDigits v)) y < 256 := by
  have hd := bDigits_r v
  refine ⟨fun y hy => ?_, bPdN_r _ _ _ (bCut_r hb _ _ _)⟩
  rw [bPd_v ha (by omega)]
  unfold h0
  by_cases c1 : (y : Int) < a
  · rw [if_neg (by omega), if_pos c1, bCut_v (e := b) ha (by omega) (by omega) y (by omega)]
    unfold h0
    rw [if_pos c1]
  · rw [if_neg c1]
    by_cases c2 : (y : Int) < a + bDigits v
    · rw [if_pos (by omega), if_pos c2]
      unfold eD
      congr 1
      omega
    · rw [if_neg (by omega), if_neg c2, bCut_v (e := b) ha (by omega) (by omega) y (by omega)]
      unfold h0
      rw [if_neg c1, if_neg (by omega)]
      congr 1
      omega
theorem h0_ag {f g e : Nat → Int} {p L N m : Int} (hp : 0 ≤ p) (hL : 0 ≤ L) (hN : 0 ≤ N) (hm : p + L ≤ m) (h : ∀ y : Nat, (y : Int) < m → f y = g y) : ∀ y : Nat, (y : Int) < m + (N - L) → h0 f p L e N y = h0 g p L e N y := by
  intro y hy
  unfold h0
  by_cases c1 : (y : Int) < p
  · rw [if_pos c1, if_pos c1]; exact h y (by omega)
  · rw [if_neg c1, if_neg c1]
    by_cases c2 : (y : Int) < p + N
    · rw [if_pos c2, if_pos c2]
    · rw [if_neg c2, if_neg c2]; exact h _ (by omega)
/-- the program's renumbering -/
theorem rn_bk {T TF : Nat → Nat → Int} {cnt : Nat} (ha : tAg T TF cnt) {row : Int} {x : Nat} : ∀ (N : Nat) (ix : Int) (sz : Nat) (b f : Nat → Int), x + N < cnt → ix = cC TF row (x + N + 1) - 1 → (∀ k : Nat, x < k → k ≤ x + N → (0 ≤ TF 3 k ∧ TF 3 k ≤ TF 4 k - 1) ∧ (TF 1 k = row → 1 ≤ cC TF row k ∧ bDigits (cC TF row k - 1) ≤ TF 4 k - 1 - TF 3 k)) → (∀ k : Nat, x < k → k < x + N → TF 4 k ≤ TF 3 (k + 1) - 1) → (N = 0 ∨ TF 4 (x + N) ≤ sz) → cnt ≤ 700 → (∀ y, 0 ≤ b y ∧ b y < 256) → (∀ y : Nat, y < sz → b y = f y) →
    rnGood T cnt row N (x + N : Nat) ix sz ∧ ((rnN T cnt row N (x + N : Nat) ix sz b).1 : Int) = sz + bz (fun k => decide (TF 1 k = row)) (fun k => TF 4 k - 1 - TF 3 k) (fun k => cC TF row k - 1) (x + 1) N ∧ (∀ y : Nat, y < (rnN T cnt row N (x + N : Nat) ix sz b).1 → (rnN T cnt row N (x + N : Nat) ix sz b).2 y = bk (fun k => decide (TF 1 k = row)) (TF 3) (fun k => TF 4 k - 1 - TF 3 k) (fun k => cC TF row k - 1) (x + 1) N f y) ∧ ∀ y, 0 ≤ (rnN T cnt row N (x + N : Nat) ix sz b).2 y ∧ (rnN T cnt row N (x + N : Nat) ix sz b).2 y < 256 := by
  intro N
  induction N with
  | zero =>
    intro ix sz b f h1 h2 h3 h4 h5 h6 h7 h8
    exact ⟨trivial, by unfold rnN bz; simp, fun y hy => h8 y hy, h7⟩
  | succ N ih =>
    intro ix sz b f h1 h2 h3 h4 h5 h6 h7 h8
    have hk := h3 (x + (N + 1)) (by omega) (Nat.le_refl _)
    have hsz : TF 4 (x + (N + 1)) ≤ sz := by
      rcases h5 with w | w
      · omega
      · exact w
    have ek : ((x + (N + 1) : Nat) : Int) + (-1) = ((x + N : Nat) : Int) := by omega
    have hin : (0 : Int) ≤ ((x + (N + 1) : Nat) : Int) ∧ ((x + (N + 1) : Nat) : Int) < cnt := ⟨by omega, by omega⟩
    have et : (((x + (N + 1) : Nat) : Int)).toNat = x + (N + 1) := by omega
    have c1 := lk_c ha (co := 1) (by decide) hin
    have c3 := lk_c ha (co := 3) (by decide) hin
    have c4 := lk_c ha (co := 4) (by decide) hin
    rw [et] at c1 c3 c4
    have enl : nNameLen T cnt ((x + (N + 1) : Nat) : Int) = TF 4 (x + (N + 1)) - 1 - TF 3 (x + (N + 1)) := by unfold nNameLen; rw [c3, c4]
    have ecc : cC TF row (x + (N + 1) + 1) = cC TF row (x + (N + 1)) + (if TF 1 (x + (N + 1)) = row then 1 else 0) := rfl
    have elo : x + 1 + N = x + (N + 1) := by omega
    unfold rnGood rnN bk bz
    rw [c1, elo]
    by_cases e : TF 1 (x + (N + 1)) = row
    · obtain ⟨k1, k2⟩ := hk.2 e
      rw [if_pos e] at ecc
      have hix : ix + (-1) = cC TF row (x + (N + 1)) - 1 := by omega
      have hcr := cC_r TF row (x + (N + 1))
      have hdr := bDigits_r (cC TF row (x + (N + 1)) - 1)
      rw [if_pos e, if_pos e, decide_eq_true e, if_pos rfl, if_pos rfl, hix, enl, c3, ek]
      have hop := op_v (b := b) (sz := sz) (a := TF 3 (x + (N + 1))) (L := TF 4 (x + (N + 1)) - 1 - TF 3 (x + (N + 1))) (v := cC TF row (x + (N + 1)) - 1) h7 hk.1.1 k2 (by omega)
      have i := ih (cC TF row (x + (N + 1)) - 1) (sz - (TF 4 (x + (N + 1)) - 1 - TF 3 (x + (N + 1)) - bDigits (cC TF row (x + (N + 1)) - 1)).toNat) (bPd (sz - (TF 4 (x + (N + 1)) - 1 - TF 3 (x + (N + 1)) - bDigits (cC TF row (x + (N + 1)) - 1)).toNat) (TF 3 (x + (N + 1))) (bDigits (cC TF row (x + (N + 1)) - 1) - 1) (cC TF row (x + (N + 1)) - 1) (bCut b sz (TF 3 (x + (N + 1))) (TF 4 (x + (N + 1)) - 1 - TF 3 (x + (N + 1)) - bDigits (cC TF row (x + (N + 1)) - 1)))) (h0 f (TF 3 (x + (N + 1))) (TF 4 (x + (N + 1)) - 1 - TF 3 (x + (N + 1))) (eD (cC TF row (x + (N + 1)) - 1)) (bDigits (cC TF row (x + (N + 1)) - 1))) (by omega) rfl (fun k a b => h3 k a (by omega)) (fun k a b => h4 k a (by omega)) (by
        by_cases z : N = 0
        · exact Or.inl z
        · have := h4 (x + N) (by omega) (by omega)
          rw [show x + N + 1 = x + (N + 1) by omega] at this
          exact Or.inr (by omega)) h6 hop.2 (fun y hy => by
        rw [hop.1 y (by omega)]
        exact h0_ag hk.1.1 (by omega) (by omega) (m := sz) (by omega) (fun y hy => h8 y (by omega)) y (by omega))
      refine ⟨⟨⟨by omega, by omega, hk.1.1, k2, by omega⟩, i.1⟩, ?_, i.2.2.1, i.2.2.2⟩
      rw [i.2.1]
      omega
    · rw [if_neg e] at ecc
      rw [if_neg e, if_neg e, decide_eq_false e, if_neg (by decide), if_neg (by decide), ek]
      have i := ih ix sz b f (by omega) (by rw [h2, ecc, Int.add_zero]; rfl) (fun k a b => h3 k a (by omega)) (fun k a b => h4 k a (by omega)) (by
        by_cases z : N = 0
        · exact Or.inl z
        · have := h4 (x + N) (by omega) (by omega)
          rw [show x + N + 1 = x + (N + 1) by omega] at this
          exact Or.inr (by omega)) h6 h7 h8
      exact ⟨i.1, by rw [i.2.1]; omega, i.2.2.1, i.2.2.2⟩
