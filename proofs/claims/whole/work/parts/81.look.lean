/-! PURE 22: both sides look at the same table -/
theorem lk_c {T TF : Nat → Nat → Int} {cnt : Nat} (ha : tAg T TF cnt) {co : Nat} (hco : co < 7) {x : Int} (hx : 0 ≤ x ∧ x < cnt) : nCell T cnt co x = TF co x.toNat := by
  rw [nCell_in hx]
  exact ha co x.toNat (by omega) hco
theorem lk_kind {f : Nat → Int} {ln : Bool} {n : Int} {TF : Nat → Nat → Int} {cnt : Nat} {S : MS} (hC : Cert f ln n TF cnt) (hL : mLd f n TF cnt S) {x : Int} (hx : 0 ≤ x ∧ x < cnt) : mKind x S = TF 0 x.toNat := by
  unfold mKind
  by_cases e : x = 0
  · subst e
    rw [if_pos rfl]
    exact hC.1.2.1.1.symm
  · rw [if_neg e, ((hL.2.1 x.toNat (by omega)).2.2.1 (by omega)).1]
    have r := (hC.2.1 x.toNat (by omega) (by dsimp only; omega)).1
    dsimp only at r
    have hE := (PC_nm hC).2 x.toNat (by omega) (by dsimp only; omega)
    dsimp only at hE
    rw [hL.1.2.2 _ (by omega)]
    exact r.2.1.2
theorem lk_val {f : Nat → Int} {ln : Bool} {n : Int} {TF : Nat → Nat → Int} {cnt : Nat} {S : MS} (hC : Cert f ln n TF cnt) (hL : mLd f n TF cnt S) {x : Int} (hx : 0 ≤ x ∧ x < cnt) : mVal x S = TF 4 x.toNat := by
  unfold mVal
  by_cases e : x = 0
  · subst e
    rw [if_pos rfl]
    exact hC.1.2.1.2.2.2.2.1.symm
  · rw [if_neg e, ((hL.2.1 x.toNat (by omega)).2.2.1 (by omega)).2]
    omega
theorem nBehN_s {T : Nat → Nat → Int} {cnt : Nat} {x : Int} : ∀ (N : Nat) (k : Int), (cnt - k).toNat = N → k ≤ cnt → k ≤ nBehF T cnt x k ∧ nBehF T cnt x k ≤ cnt ∧ (∀ j : Int, k ≤ j → j < nBehF T cnt x k → x ≤ nCell T cnt 1 j) ∧ (nBehF T cnt x k < cnt → nCell T cnt 1 (nBehF T cnt x k) < x) := by
  intro N
  induction N with
  | zero =>
    intro k h h2
    rw [nBehF_end (by omega)]
    exact ⟨h2, Int.le_refl _, fun j a b => by omega, fun w => by omega⟩
  | succ N ih =>
    intro k h h2
    rw [nBehF_step (by omega)]
    by_cases c : nCell T cnt 1 k < x
    · rw [if_pos c]
      exact ⟨Int.le_refl _, h2, fun j a b => by omega, fun _ => c⟩
    · rw [if_neg c]
      obtain ⟨a1, a2, a3, a4⟩ := ih (k + 1) (by omega) (by omega)
      refine ⟨by omega, a2, fun j j1 j2 => ?_, a4⟩
      by_cases e : j = k
      · subst e; omega
      · exact a3 j (by omega) j2
/-- the first row behind x and all that is in it -/
theorem nBeh_s {T TF : Nat → Nat → Int} {cnt : Nat} (ha : tAg T TF cnt) {x : Nat} (hx : x < cnt) : ∃ fi : Nat, nBeh T cnt x = fi ∧ (x < fi ∧ fi ≤ cnt) ∧ (∀ j : Nat, x < j → j < fi → x ≤ TF 1 j) ∧ (fi < cnt → TF 1 fi < x) := by
  obtain ⟨a1, a2, a3, a4⟩ := nBehN_s (T := T) (cnt := cnt) (x := (x : Int)) _ ((x : Int) + 1) rfl (by omega)
  refine ⟨(nBeh T cnt x).toNat, ?_, ⟨?_, ?_⟩, fun j b c => ?_, fun w => ?_⟩
  · unfold nBeh; omega
  · unfold nBeh; omega
  · unfold nBeh; omega
  · unfold nBeh at c
    have := a3 j (by omega) (by omega)
    rw [lk_c ha (by decide) ⟨by omega, by omega⟩, show ((j : Int)).toNat = j by omega] at this
    exact this
  · unfold nBeh at w ⊢
    have := a4 (by omega)
    rw [lk_c ha (by decide) ⟨by omega, by omega⟩] at this
    exact this
theorem mNx_no {S : MS} {bx : Int} : ∀ (N : Nat) (k : Int), (∀ j : Int, k ≤ j → j < k + N → ¬ S.a 4 j.toNat = bx) → mNxN S bx N k = -1 := by
  intro N
  induction N with
  | zero => intro k _; rfl
  | succ N ih =>
    intro k h
    unfold mNxN
    rw [if_neg (h k (by omega) (by omega))]
    exact ih (k + 1) (fun j a b => h j (by omega) (by omega))
theorem mNx_at {S : MS} {bx q : Int} : ∀ (N : Nat) (k : Int), k ≤ q → q < k + N → (∀ j : Int, k ≤ j → j < q → ¬ S.a 4 j.toNat = bx) → S.a 4 q.toNat = bx → mNxN S bx N k = q := by
  intro N
  induction N with
  | zero => intro k a b; omega
  | succ N ih =>
    intro k a b h h2
    unfold mNxN
    by_cases e : k = q
    · subst e; rw [if_pos h2]
    · rw [if_neg (h k (by omega) (by omega))]
      exact ih (k + 1) (by omega) (by omega) (fun j c d => h j (by omega) d) h2
theorem cC_pos {T : Nat → Nat → Int} {k : Int} : ∀ {N : Nat} {q : Nat}, q < N → T 1 q = k → 0 < cC T k N := by
  intro N
  induction N with
  | zero => intro q h; omega
  | succ N ih =>
    intro q h h2
    have := cC_r T k N
    unfold cC
    by_cases e : q = N
    · subst e; rw [if_pos h2]; omega
    · have := ih (q := q) (by omega) h2
      split <;> omega
theorem mElsN_c {S : MS} {TF : Nat → Nat → Int} {cnt : Nat} {nd : Int} (hr : ∀ k : Nat, k < cnt → S.a 4 k = TF 1 k) : ∀ (N k : Nat) (acc : Int), k + N ≤ cnt → mElsN S nd N k acc = acc + (cC TF nd (k + N) - cC TF nd k) := by
  intro N
  induction N with
  | zero => intro k acc _; unfold mElsN; simp
  | succ N ih =>
    intro k acc h
    unfold mElsN
    rw [show ((k : Int) + 1) = ((k + 1 : Nat) : Int) by omega, ih (k + 1) _ (by omega), show ((k : Int)).toNat = k by omega, hr k (by omega)]
    have e : cC TF nd (k + 1) = cC TF nd k + (if TF 1 k = nd then 1 else 0) := rfl
    rw [e, show k + 1 + N = k + (N + 1) by omega]
    omega
theorem mEls_c {f : Nat → Int} {ln : Bool} {n : Int} {TF : Nat → Nat → Int} {cnt : Nat} {S : MS} (hC : Cert f ln n TF cnt) (hL : mLd f n TF cnt S) {x : Int} (hx : 0 ≤ x) : mEls x S = cC TF x cnt := by
  have c1 := hC.1.1
  dsimp only at c1
  unfold mEls mElsF
  rw [hL.1.1, show ((cnt : Int) - 1).toNat = cnt - 1 by omega]
  have := mElsN_c (S := S) (TF := TF) (cnt := cnt) (nd := x) (fun k hk => (hL.2.1 k hk).1) (cnt - 1) 1 0 (by omega)
  rw [show ((1 : Nat) : Int) = 1 from rfl, show 1 + (cnt - 1) = cnt by omega] at this
  rw [this]
  have e : cC TF x 1 = 0 := by
    unfold cC cC
    have := hC.1.2.1.2.1
    dsimp only at this
    rw [this, if_neg (by omega)]
    rfl
  rw [e]
  omega
theorem noKids {f : Nat → Int} {ln : Bool} {n : Int} {TF : Nat → Nat → Int} {cnt : Nat} (hC : Cert f ln n TF cnt) {x : Nat} (h : ¬ kHold (TF 0 x) = true) : ∀ j, j < cnt → ¬ TF 1 j = x := by
  intro j hj w
  by_cases e : j = 0
  · subst e; have := hC.1.2.1.2.1; dsimp only at this; omega
  · have r := (hC.2.1 j (by omega) hj).1.1.2
    dsimp only at r
    rw [w, show ((x : Int)).toNat = x by omega] at r
    exact h r
theorem nDeepN_s {T : Nat → Nat → Int} {cnt : Nat} : ∀ (N : Nat) (k acc : Int), acc ≤ nDeepN T cnt N k acc ∧ (∀ j : Int, k ≤ j → j < k + N → nCell T cnt 2 j ≤ nDeepN T cnt N k acc) ∧ (nDeepN T cnt N k acc = acc ∨ ∃ j : Int, k ≤ j ∧ j < k + N ∧ nDeepN T cnt N k acc = nCell T cnt 2 j) := by
  intro N
  induction N with
  | zero => intro k acc; exact ⟨Int.le_refl _, fun j a b => by omega, Or.inl rfl⟩
  | succ N ih =>
    intro k acc
    unfold nDeepN
    obtain ⟨a1, a2, a3⟩ := ih (k + 1) (if acc < nCell T cnt 2 k then nCell T cnt 2 k else acc)
    have hm : acc ≤ (if acc < nCell T cnt 2 k then nCell T cnt 2 k else acc) ∧ nCell T cnt 2 k ≤ (if acc < nCell T cnt 2 k then nCell T cnt 2 k else acc) := by split <;> omega
    refine ⟨Int.le_trans hm.1 a1, fun j b c => ?_, ?_⟩
    · by_cases e : j = k
      · subst e; exact Int.le_trans hm.2 a1
      · exact a2 j (by omega) (by omega)
    · rcases a3 with w | ⟨j, w1, w2, w3⟩
      · by_cases e : acc < nCell T cnt 2 k
        · refine Or.inr ⟨k, by omega, by omega, ?_⟩
          rw [w, if_pos e]
        · exact Or.inl (by rw [w, if_neg e])
      · exact Or.inr ⟨j, by omega, by omega, w3⟩
theorem lk_deep {f : Nat → Int} {ln : Bool} {n : Int} {T TF : Nat → Nat → Int} {cnt : Nat} {S : MS} (hC : Cert f ln n TF cnt) (ha : tAg T TF cnt) (hL : mLd f n TF cnt S) : nDeep T cnt 0 = S.f 4 := by
  have c1 := hC.1.1
  dsimp only at c1
  obtain ⟨fi, e1, e2, e3, e4⟩ := nBeh_s ha (x := 0) (by omega)
  have hfi : fi = cnt := by
    by_cases e : fi < cnt
    · have := e4 e
      have := (hC.2.1 fi (by omega) e).1.1.1
      dsimp only at this
      omega
    · omega
  unfold nDeep nDeepF
  rw [show (0 : Int) = ((0 : Nat) : Int) from rfl, e1, hfi]
  obtain ⟨a1, a2, a3⟩ := nDeepN_s (T := T) (cnt := cnt) ((cnt : Int) - (((0 : Nat) : Int) + 1)).toNat (((0 : Nat) : Int) + 1) (nCell T cnt 2 ((0 : Nat) : Int))
  have h0 : nCell T cnt 2 ((0 : Nat) : Int) = TF 2 0 := lk_c ha (by decide) ⟨by omega, by omega⟩
  rw [h0] at a1 a2 a3 ⊢
  generalize nDeepN T cnt ((cnt : Int) - (((0 : Nat) : Int) + 1)).toNat (((0 : Nat) : Int) + 1) (TF 2 0) = r at *
  obtain ⟨d1, k, d2, d3⟩ := hL.2.2
  have h1 : S.f 4 ≤ r := by
    rw [← d3]
    by_cases e : k = 0
    · subst e; exact a1
    · have := a2 k (by omega) (by omega)
      rw [lk_c ha (by decide) ⟨by omega, by omega⟩, show ((k : Int)).toNat = k by omega] at this
      exact this
  have h2 : r ≤ S.f 4 := by
    rcases a3 with w | ⟨j, w1, w2, w3⟩
    · rw [w]; exact d1 0 (by omega)
    · rw [w3, lk_c ha (by decide) ⟨by omega, by omega⟩]
      exact d1 j.toNat (by omega)
  omega
theorem look_eq {f : Nat → Int} {ln : Bool} {n : Int} {T TF : Nat → Nat → Int} {cnt : Nat} {S : MS} (hC : Cert f ln n TF cnt) (ha : tAg T TF cnt) (hL : mLd f n TF cnt S) {x : Int} (hx : 0 ≤ x ∧ x < cnt) (w : Int) :
    (if w = 0 then nCell T cnt 0 x else if w = 1 then nCell T cnt 1 x else if w = 2 then (if 0 < nCell T cnt 6 x then x + 1 else -1) else if w = 3 then nNext T cnt x else if w = 4 then nNameLen T cnt x else if w = 5 then nCell T cnt 5 x else if w = 6 then nTextLen T cnt x else if w = 7 then nCell T cnt 6 x else if w = 8 then nCell T cnt 2 x else -1) = mLk x w S := by
  obtain ⟨xn, rfl⟩ : ∃ xn : Nat, x = xn := ⟨x.toNat, by omega⟩
  have hxn : xn < cnt := by omega
  have ec : ∀ co, co < 7 → nCell T cnt co xn = TF co xn := fun co hco => by rw [lk_c ha hco hx, show ((xn : Int)).toNat = xn by omega]
  have et : ((xn : Int)).toNat = xn := by omega
  have hk := lk_kind hC hL hx
  have hv := lk_val hC hL hx
  rw [et] at hk hv
  obtain ⟨m4, m8, m56, m0, m7⟩ := hL.2.1 xn hxn
  have h6 := hC.2.2.2.2.2.1 xn hxn
  dsimp only at h6
  have hpar : ∀ j : Nat, j < cnt → 1 ≤ j → 0 ≤ TF 1 j ∧ TF 1 j < j := fun j a b => by have := (hC.2.1 j b a).1.1.1; dsimp only at this; exact this
  unfold mLk
  rw [ec 0 (by decide), ec 1 (by decide), ec 6 (by decide), ec 5 (by decide), ec 2 (by decide), hk, hv, et, m4, m8, m7]
  by_cases w0 : w = 0
  · rw [if_pos w0, if_pos w0]
  · rw [if_neg w0, if_neg w0]
    by_cases w1 : w = 1
    · rw [if_pos w1, if_pos w1]
    · rw [if_neg w1, if_neg w1]
      by_cases w2 : w = 2
      · rw [if_pos w2, if_pos w2, h6]
        unfold mNx
        rw [hL.1.1]
        by_cases hc : 0 < cC TF xn cnt
        · rw [if_pos hc]
          have hex : ∃ q : Nat, q < cnt ∧ TF 1 q = xn := by
            by_cases e : ∃ q : Nat, q < cnt ∧ TF 1 q = xn
            · exact e
            · have := cC_0 (T := TF) (k := (xn : Int)) (N := cnt) (fun q hq z => e ⟨q, hq, z⟩)
              omega
          obtain ⟨q, q1, q2⟩ := hex
          have q0 : 1 ≤ q := by
            by_cases e : q = 0
            · subst e; have := hC.1.2.1.2.1; dsimp only at this; omega
            · omega
          have hq := hpar q q1 q0
          have hx1 : TF 1 (xn + 1) = xn := by
            by_cases e : q = xn + 1
            · rw [← e]; exact q2
            · have := (hC.2.1 q q0 q1).2.2.2.2 (xn + 1) (by dsimp only; omega) (by omega)
              have := hpar (xn + 1) (by omega) (by omega)
              dsimp only at *
              omega
          refine (mNx_at _ 1 (by omega) (by omega) (fun j a b => ?_) ?_).symm
          · rw [(hL.2.1 j.toNat (by omega)).1]
            have := hpar j.toNat (by omega) (by omega)
            omega
          · rw [show ((xn : Int) + 1).toNat = xn + 1 by omega, (hL.2.1 (xn + 1) (by omega)).1]
            exact hx1
        · rw [if_neg hc]
          refine (mNx_no _ 1 (fun j a b z => ?_)).symm
          rw [(hL.2.1 j.toNat (by omega)).1] at z
          have := cC_pos (T := TF) (N := cnt) (q := j.toNat) (by omega) z
          omega
      · rw [if_neg w2, if_neg w2]
        by_cases w3 : w = 3
        · rw [if_pos w3, if_pos w3]
          unfold nNext
          obtain ⟨fi, e1, e2, e3, e4⟩ := nBeh_s ha hxn
          rw [e1, ec 1 (by decide)]
          by_cases x0 : (xn : Int) = 0
          · rw [if_pos x0]
            have x0n : xn = 0 := by omega
            subst x0n
            have hfi : fi = cnt := by
              by_cases e : fi < cnt
              · have := e4 e
                have := hpar fi e (by omega)
                omega
              · omega
            rw [if_neg (by omega)]
          · rw [if_neg x0]
            have hpx := hpar xn hxn (by omega)
            unfold mNx
            rw [hL.1.1]
            by_cases hc : (fi : Int) < cnt ∧ nCell T cnt 1 fi = TF 1 xn
            · rw [if_pos hc]
              have hc2 := hc.2
              rw [lk_c ha (by decide) ⟨by omega, by omega⟩, show ((fi : Int)).toNat = fi by omega] at hc2
              refine (mNx_at _ ((xn : Int) + 1) (by omega) (by omega) (fun j a b => ?_) ?_).symm
              · rw [(hL.2.1 j.toNat (by omega)).1]
                have := e3 j.toNat (by omega) (by omega)
                omega
              · rw [show ((fi : Int)).toNat = fi by omega, (hL.2.1 fi (by omega)).1]
                exact hc2
            · rw [if_neg hc]
              refine (mNx_no _ ((xn : Int) + 1) (fun j a b z => ?_)).symm
              rw [(hL.2.1 j.toNat (by omega)).1] at z
              have hjc : j.toNat < cnt := by omega
              by_cases e : j.toNat < fi
              · have := e3 j.toNat (by omega) e
                omega
              · have hfc : fi < cnt := by omega
                have hlt := e4 hfc
                have hne : ¬ TF 1 fi = TF 1 xn := fun w => hc ⟨by omega, by rw [lk_c ha (by decide) ⟨by omega, by omega⟩, show ((fi : Int)).toNat = fi by omega]; exact w⟩
                have hpf := hpar fi hfc (by omega)
                have n1 := (hC.2.1 fi (by omega) hfc).2.2.2.2 xn
                dsimp only at n1
                by_cases e5 : j.toNat = fi
                · rw [e5] at z; exact hne z
                · have n2 := (hC.2.1 j.toNat (by omega) hjc).2.2.2.2 fi
                  dsimp only at n2
                  have := n1 hlt (by omega)
                  have := n2 (by omega) (by omega)
                  omega
        · rw [if_neg w3, if_neg w3]
          by_cases w4 : w = 4
          · rw [if_pos w4, if_pos w4]
            unfold nNameLen
            rw [ec 4 (by decide), ec 3 (by decide)]
            by_cases x0 : (xn : Int) = 0
            · rw [if_pos x0]
              have x0n : xn = 0 := by omega
              subst x0n
              have z := hC.1.2.1
              dsimp only at z
              omega
            · rw [if_neg x0]
              have := m56 (by omega)
              omega
          · rw [if_neg w4, if_neg w4]
            by_cases w5 : w = 5
            · rw [if_pos w5, if_pos w5]
              unfold tE
              omega
            · rw [if_neg w5, if_neg w5]
              by_cases w6 : w = 6
              · rw [if_pos w6, if_pos w6]
                unfold nTextLen tE
                rw [ec 0 (by decide), ec 5 (by decide)]
                by_cases e : TF 0 xn = 2
                · rw [if_pos e, if_pos e]; omega
                · rw [if_neg e, if_neg e]
              · rw [if_neg w6, if_neg w6]
                by_cases w7 : w = 7
                · rw [if_pos w7, if_pos w7, h6]
                  unfold mBox
                  rw [hk, mEls_c hC hL (by omega)]
                  by_cases e : TF 0 xn = 3 ∨ TF 0 xn = 4
                  · rw [decide_eq_true e, if_pos rfl]
                  · rw [decide_eq_false e, if_neg (by decide)]
                    exact cC_0 (noKids hC (fun z => e (kH34.mp z)))
                · rw [if_neg w7, if_neg w7]
