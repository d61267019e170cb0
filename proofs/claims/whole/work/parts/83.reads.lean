/-! PURE 24: calls that change no bytes -/
theorem Inv_tab {scn fpl : Int} {zT : Nat} {bT : Nat → Int} {T T1 : Nat → Nat → Int} {cnt c1 : Nat} {zS : Nat → Nat} {bS : Nat → Nat → Int} {S : MS} (hI : Inv scn fpl zT bT T cnt zS bS S) {a : Int} (ha : -1 ≤ a ∧ a < 8) (hT : 0 ≤ a → ∃ TF, Cert (bS a.toNat) false (zS a.toNat) TF c1 ∧ tAg T1 TF c1) : Inv a fpl zT bT T1 c1 zS bS S := ⟨hI.1, hI.2.1, hI.2.2.1, ha, hT⟩
theorem Inv_dTab {scn fpl : Int} {zT : Nat} {bT : Nat → Int} {T : Nat → Nat → Int} {cnt d : Nat} {zS : Nat → Nat} {bS : Nat → Nat → Int} {S : MS} (hI : Inv scn fpl zT bT T cnt zS bS S) (hR : Rg bT bS S) (s : Int) : dOK scn s T zS bS ∧ Inv (dTab scn s T cnt d zS bS).1 fpl zT bT (dTab scn s T cnt d zS bS).2.1 (dTab scn s T cnt d zS bS).2.2.1 zS bS S := by
  by_cases hs : 0 ≤ s ∧ s < 8
  · have q := dTab_in (d := d) hI hR hs
    exact ⟨q.1, Inv_tab hI (by rw [q.2.1]; omega) (fun _ => by rw [q.2.1]; exact q.2.2)⟩
  · have q := dTab_out (scn := scn) (T := T) (cnt := cnt) (d := d) (zS := zS) (bS := bS) hs
    rw [q.2]
    exact ⟨q.1, hI⟩
theorem pA_ld {scn fpl : Int} {zT : Nat} {bT : Nat → Int} {T : Nat → Nat → Int} {cnt : Nat} {zS : Nat → Nat} {bS : Nat → Nat → Int} {S : MS} (hI : Inv scn fpl zT bT T cnt zS bS S) (hR : Rg bT bS S) {s : Int} (hs : 0 ≤ s ∧ s < 8) {TF : Nat → Nat → Int} {c : Nat} (hL : mLd (bS s.toNat) (zS s.toNat) TF c (mLoad s S)) : pA (bS s.toNat) (zS s.toNat) (zS s.toNat) ((mLoad s S).a 3) ∧ ∀ x, 0 ≤ (mLoad s S).a 3 x ∧ (mLoad s S).a 3 x ≤ 255 := by
  have hr : ∀ x, 0 ≤ (mLoad s S).a 3 x ∧ (mLoad s S).a 3 x ≤ 255 := by
    intro x
    have e : (mLoad s S).a 3 = (mLoad0 s S).a 3 := (mFr_over (S := mLoad0 s S) (S.a 1 s.toNat)).1 3 (by decide)
    rw [e, mLoad0_k.2.2.2]
    split
    · exact hR.2.2 2 _ (by decide)
    · exact hR.2.2 3 _ (by decide)
  exact ⟨⟨⟨Nat.le_refl _, fun x hx => (hL.1.2.2 x (by omega)).symm⟩, (fun x => hR.2.1 s.toNat x (by omega)), hr⟩, hr⟩
theorem node_in {s x : Int} {S : MS} {c : Nat} (hs : 0 ≤ s ∧ s < 8) (h3 : (mLoad s S).f 3 = c) : mIsNode s x S = (decide (0 ≤ x ∧ x < c), mLoad s S) ∧ dHas s x c = decide (0 ≤ x ∧ x < c) := by
  unfold mIsNode dHas
  rw [if_neg (by rw [mSlot_iff.mpr hs]; decide), h3]
  refine ⟨rfl, ?_⟩
  by_cases e : 0 ≤ x ∧ x < c
  · rw [decide_eq_true e, decide_eq_true ⟨hs, e⟩]
  · rw [decide_eq_false e, decide_eq_false (fun w => e w.2)]
theorem node_out {s x : Int} {S : MS} {c : Nat} (hs : ¬ (0 ≤ s ∧ s < 8)) : mIsNode s x S = (false, S) ∧ dHas s x c = false := by
  unfold mIsNode dHas
  rw [if_pos (mSlot_ff.mpr hs), decide_eq_false (fun w => hs w.1)]
  exact ⟨rfl, rfl⟩
theorem r_byte {scn fpl : Int} {zT : Nat} {bT : Nat → Int} {T : Nat → Nat → Int} {cnt : Nat} {zS : Nat → Nat} {bS : Nat → Nat → Int} {S : MS} (hI : Inv scn fpl zT bT T cnt zS bS S) (s i : Int) : dByte s i zS bS = mByteAt s i S := by
  unfold dByte mByteAt
  by_cases hs : 0 ≤ s ∧ s < 8
  · obtain ⟨z1, z2, _⟩ := hI.2.2.1 s.toNat (by omega)
    rw [if_pos (dSlot_iff.mpr hs), ← z1]
    by_cases e : 0 ≤ i ∧ i < zS s.toNat
    · rw [bGet_in e.1 e.2, if_neg (by rw [mSlot_iff.mpr hs]; simp; omega), z2 i.toNat (by omega)]
      congr 1
      omega
    · rw [bGet_out (by omega), if_pos (by omega)]
  · rw [if_neg (by rw [dSlot_ff.mpr hs]; decide), if_pos (Or.inl (mSlot_ff.mpr hs))]
theorem r_many {scn fpl : Int} {zT : Nat} {bT : Nat → Int} {T : Nat → Nat → Int} {cnt d : Nat} {zS : Nat → Nat} {bS : Nat → Nat → Int} {S : MS} (hI : Inv scn fpl zT bT T cnt zS bS S) (hR : Rg bT bS S) (s w : Int) :
    dMany s w (dTab scn s T cnt d zS bS).2.1 (dTab scn s T cnt d zS bS).2.2.1 zS = (mMany s w S).1 ∧ Inv (dTab scn s T cnt d zS bS).1 fpl zT bT (dTab scn s T cnt d zS bS).2.1 (dTab scn s T cnt d zS bS).2.2.1 zS bS (mMany s w S).2 := by
  have hd := (Inv_dTab (d := d) hI hR s).2
  by_cases hs : 0 ≤ s ∧ s < 8
  · obtain ⟨q1, q2, TF, hC, ha⟩ := dTab_in (d := d) hI hR hs
    generalize dTab scn s T cnt d zS bS = dt at *
    have hl := mLoad_in hI hR hs hC
    have c1 := hC.1.1
    dsimp only at c1
    have n := node_in (x := 0) hs hl.2.1.1.1
    obtain ⟨z1, _⟩ := hI.2.2.1 s.toNat (by omega)
    unfold dMany mMany
    rw [n.2, decide_eq_true ⟨Int.le_refl 0, by omega⟩, if_pos rfl]
    by_cases e : mSlot s = false ∨ w < 0 ∨ 2 < w
    · rw [if_pos e]
      rw [mSlot_iff.mpr hs] at e
      have ew : w < 0 ∨ 2 < w := by
        rcases e with e | e
        · cases e
        · exact e
      refine ⟨?_, hd⟩
      rw [if_neg (by omega), if_neg (by omega), if_neg (by omega)]
    · rw [if_neg e]
      rw [mSlot_iff.mpr hs] at e
      have ew : 0 ≤ w ∧ w ≤ 2 := by
        refine ⟨?_, ?_⟩
        · by_cases c : w < 0
          · exact absurd (Or.inr (Or.inl c)) e
          · omega
        · by_cases c : 2 < w
          · exact absurd (Or.inr (Or.inr c)) e
          · omega
      refine ⟨?_, Inv_load hI s hd.2.2.2.1 hd.2.2.2.2⟩
      dsimp only
      rw [mLoad_k.1 1 (by decide), ← z1, hl.2.1.1.1]
      by_cases e0 : w = 0
      · rw [if_pos e0, if_pos e0]
      · rw [if_neg e0, if_neg e0]
        by_cases e1 : w = 1
        · rw [if_pos e1, if_pos e1]
        · rw [if_neg e1, if_neg e1, if_pos (by omega), lk_deep hC ha hl.2.1]
  · obtain ⟨_, q2⟩ := dTab_out (scn := scn) (T := T) (cnt := cnt) (d := d) (zS := zS) (bS := bS) hs
    rw [q2]
    unfold dMany mMany
    dsimp only
    rw [(node_out (x := 0) (S := S) hs).2, if_neg (by decide), if_pos (Or.inl (mSlot_ff.mpr hs))]
    exact ⟨rfl, hI⟩
theorem r_look {scn fpl : Int} {zT : Nat} {bT : Nat → Int} {T : Nat → Nat → Int} {cnt d : Nat} {zS : Nat → Nat} {bS : Nat → Nat → Int} {S : MS} (hI : Inv scn fpl zT bT T cnt zS bS S) (hR : Rg bT bS S) (s x w : Int) :
    dLook s x w (dTab scn s T cnt d zS bS).2.1 (dTab scn s T cnt d zS bS).2.2.1 = (mLook s x w S).1 ∧ Inv (dTab scn s T cnt d zS bS).1 fpl zT bT (dTab scn s T cnt d zS bS).2.1 (dTab scn s T cnt d zS bS).2.2.1 zS bS (mLook s x w S).2 := by
  have hd := (Inv_dTab (d := d) hI hR s).2
  by_cases hs : 0 ≤ s ∧ s < 8
  · obtain ⟨q1, q2, TF, hC, ha⟩ := dTab_in (d := d) hI hR hs
    generalize dTab scn s T cnt d zS bS = dt at *
    have hl := mLoad_in hI hR hs hC
    have n := node_in (x := x) hs hl.2.1.1.1
    have hIl := Inv_load hI s hd.2.2.2.1 hd.2.2.2.2
    unfold dLook mLook
    rw [n.1, n.2]
    by_cases e : 0 ≤ x ∧ x < dt.2.2.1
    · rw [decide_eq_true e, if_pos rfl, if_neg (show ¬ true = false by decide)]
      exact ⟨look_eq hC ha hl.2.1 e w, hIl⟩
    · rw [decide_eq_false e, if_neg (by decide), if_pos rfl]
      exact ⟨rfl, hIl⟩
  · obtain ⟨_, q2⟩ := dTab_out (scn := scn) (T := T) (cnt := cnt) (d := d) (zS := zS) (bS := bS) hs
    rw [q2]
    unfold dLook mLook
    dsimp only
    rw [(node_out (x := x) (S := S) (c := cnt) hs).1, (node_out (x := x) (S := S) hs).2, if_neg (by decide), if_pos rfl]
    exact ⟨rfl, hI⟩
theorem num_eq {b : Nat → Int} {nn : Nat} {ln : Bool} {T TF : Nat → Nat → Int} {cnt : Nat} {S : MS} (hC : Cert b ln nn TF cnt) (ha : tAg T TF cnt) (hL : mLd b nn TF cnt S) (hA : pA b nn nn (S.a 3)) {x : Int} (hx : 0 ≤ x ∧ x < cnt) :
    (if nCell T cnt 0 x = 16 then (bNum b nn (nCell T cnt 4 x) (kWidth (nCell T cnt 0 x) - 1) 0 + 2147483648) % 4294967296 - 2147483648 else bNum b nn (nCell T cnt 4 x) (kWidth (nCell T cnt 0 x) - 1) 0) = mNumOf x S := by
  rw [lk_c ha (by decide) hx, lk_c ha (by decide) hx]
  unfold mNumOf
  rw [lk_kind hC hL hx, lk_val hC hL hx]
  have hE := PC_E hC x.toNat (by dsimp only; omega)
  dsimp only at hE
  have hEE : tE TF x.toNat = TF 4 x.toNat + TF 5 x.toNat := rfl
  have hw : 0 < kWidth (TF 0 x.toNat) → TF 5 x.toNat = kWidth (TF 0 x.toNat) := by
    intro w
    have e0 : x.toNat ≠ 0 := by
      intro e
      have := hC.1.2.1.1
      dsimp only at this
      rw [e, this] at w
      exact absurd w (by decide)
    have v := (hC.2.1 x.toNat (by omega) (by dsimp only; omega)).2.1.1
    dsimp only at v
    have hn2 : ¬ TF 0 x.toNat = 2 := fun e => by rw [e] at w; exact absurd w (by decide)
    have hnh : ¬ kHold (TF 0 x.toNat) = true := fun e => by
      rcases kH34.mp e with e | e <;> (rw [e] at w; exact absurd w (by decide))
    rw [aVl_n hnh hn2] at v
    exact v.symm
  by_cases e16 : TF 0 x.toNat = 16
  · rw [if_pos e16, if_pos e16]
    have e4 : kWidth (TF 0 x.toNat) = 4 := by rw [e16]; rfl
    rw [e4] at hw ⊢
    have := hw (by decide)
    rw [pNum hA (by omega) (by omega) (by omega)]
  · rw [if_neg e16, if_neg e16]
    by_cases e18 : TF 0 x.toNat = 18
    · rw [if_pos e18]
      have e4 : kWidth (TF 0 x.toNat) = 8 := by rw [e18]; rfl
      rw [e4] at hw ⊢
      have := hw (by decide)
      rw [pNum hA (by omega) (by omega) (by omega)]
    · rw [if_neg e18]
      by_cases e8 : TF 0 x.toNat = 8
      · rw [if_pos e8]
        have e4 : kWidth (TF 0 x.toNat) = 1 := by rw [e8]; rfl
        rw [e4] at hw ⊢
        have := hw (by decide)
        rw [pNum hA (by omega) (by omega) (by omega)]
        unfold mLow
        show mLowN (S.a 3) (TF 4 x.toNat) 1 0 = _
        unfold mLowN mLowN
        simp
      · rw [if_neg e8]
        have e4 : kWidth (TF 0 x.toNat) = 0 := by
          unfold kWidth
          rw [if_neg e8, if_neg e16, if_neg e18]
        rw [e4]
        exact bNum_end (by omega)
theorem r_number {scn fpl : Int} {zT : Nat} {bT : Nat → Int} {T : Nat → Nat → Int} {cnt d : Nat} {zS : Nat → Nat} {bS : Nat → Nat → Int} {S : MS} (hI : Inv scn fpl zT bT T cnt zS bS S) (hR : Rg bT bS S) (s x : Int) :
    dNumber s x (dTab scn s T cnt d zS bS).2.1 (dTab scn s T cnt d zS bS).2.2.1 zS bS = (mNumber s x S).1 ∧ Inv (dTab scn s T cnt d zS bS).1 fpl zT bT (dTab scn s T cnt d zS bS).2.1 (dTab scn s T cnt d zS bS).2.2.1 zS bS (mNumber s x S).2 := by
  have hd := (Inv_dTab (d := d) hI hR s).2
  by_cases hs : 0 ≤ s ∧ s < 8
  · obtain ⟨q1, q2, TF, hC, ha⟩ := dTab_in (d := d) hI hR hs
    generalize dTab scn s T cnt d zS bS = dt at *
    have hl := mLoad_in hI hR hs hC
    have n := node_in (x := x) hs hl.2.1.1.1
    have hIl := Inv_load hI s hd.2.2.2.1 hd.2.2.2.2
    have hA := (pA_ld hI hR hs hl.2.1).1
    unfold dNumber mNumber
    rw [n.1, n.2]
    by_cases e : 0 ≤ x ∧ x < dt.2.2.1
    · rw [decide_eq_true e, if_pos rfl, if_neg (show ¬ true = false by decide)]
      exact ⟨num_eq hC ha hl.2.1 hA e, hIl⟩
    · rw [decide_eq_false e, if_neg (by decide), if_pos rfl]
      exact ⟨rfl, hIl⟩
  · obtain ⟨_, q2⟩ := dTab_out (scn := scn) (T := T) (cnt := cnt) (d := d) (zS := zS) (bS := bS) hs
    rw [q2]
    unfold dNumber mNumber
    dsimp only
    rw [(node_out (x := x) (S := S) (c := cnt) hs).1, (node_out (x := x) (S := S) hs).2, if_neg (by decide), if_pos rfl]
    exact ⟨rfl, hI⟩
theorem let_eq {b : Nat → Int} {nn : Nat} {ln : Bool} {T TF : Nat → Nat → Int} {cnt : Nat} {S : MS} (hC : Cert b ln nn TF cnt) (ha : tAg T TF cnt) (hL : mLd b nn TF cnt S) (hA : pA b nn nn (S.a 3)) {x : Int} (hx : 0 ≤ x ∧ x < cnt) (t : Bool) {i : Int} (hi : 0 ≤ i) :
    (if t = true then (if i < nTextLen T cnt x then bGet b nn (nCell T cnt 4 x + 4 + i) else -1) else (if i < nNameLen T cnt x then bGet b nn (nCell T cnt 3 x + i) else -1)) = mLet x t i S := by
  have hE := PC_E hC x.toNat (by dsimp only; omega)
  dsimp only at hE
  have hEE : tE TF x.toNat = TF 4 x.toNat + TF 5 x.toNat := rfl
  obtain ⟨m4, m8, m56, m0, m7⟩ := hL.2.1 x.toNat (by omega)
  unfold mLet nTextLen nNameLen
  rw [lk_c ha (by decide) hx, lk_c ha (by decide) hx, lk_c ha (by decide) hx, lk_c ha (by decide) hx, lk_kind hC hL hx, lk_val hC hL hx, m7]
  cases t
  · simp only [if_neg (show ¬ false = true by decide)]
    by_cases e0 : x.toNat = 0
    · have z := hC.1.2.1
      dsimp only at z
      rw [e0, z.2.2.2.1, z.2.2.2.2.1, if_neg (by omega), if_neg (by omega)]
    · have := m56 (by omega)
      have hN := (PC_nm hC).2 x.toNat (by omega) (by dsimp only; omega)
      dsimp only at hN
      rw [this.1, this.2]
      by_cases e : i < TF 4 x.toNat - 1 - TF 3 x.toNat
      · rw [if_pos e, if_pos (by omega), pGet hA (by omega) (by omega)]
        congr 1
        omega
      · rw [if_neg e, if_neg (by omega)]
  · simp only [if_true]
    by_cases e2 : TF 0 x.toNat = 2
    · rw [if_pos e2]
      by_cases e : i < TF 5 x.toNat - 5
      · rw [if_pos e, if_pos ⟨e2, by omega⟩, pGet hA (by omega) (by omega)]
      · rw [if_neg e, if_neg (by omega)]
    · rw [if_neg e2, if_neg (by omega), if_neg (fun w => e2 w.1)]
theorem r_letter {scn fpl : Int} {zT : Nat} {bT : Nat → Int} {T : Nat → Nat → Int} {cnt d : Nat} {zS : Nat → Nat} {bS : Nat → Nat → Int} {S : MS} (hI : Inv scn fpl zT bT T cnt zS bS S) (hR : Rg bT bS S) (s x : Int) (t : Bool) (i : Int) :
    dLetter s x t i (dTab scn s T cnt d zS bS).2.1 (dTab scn s T cnt d zS bS).2.2.1 zS bS = (mLetter s x t i S).1 ∧ Inv (dTab scn s T cnt d zS bS).1 fpl zT bT (dTab scn s T cnt d zS bS).2.1 (dTab scn s T cnt d zS bS).2.2.1 zS bS (mLetter s x t i S).2 := by
  have hd := (Inv_dTab (d := d) hI hR s).2
  by_cases hs : 0 ≤ s ∧ s < 8
  · obtain ⟨q1, q2, TF, hC, ha⟩ := dTab_in (d := d) hI hR hs
    generalize dTab scn s T cnt d zS bS = dt at *
    have hl := mLoad_in hI hR hs hC
    have n := node_in (x := x) hs hl.2.1.1.1
    have hIl := Inv_load hI s hd.2.2.2.1 hd.2.2.2.2
    have hA := (pA_ld hI hR hs hl.2.1).1
    unfold dLetter mLetter
    rw [n.1, n.2]
    by_cases e : 0 ≤ x ∧ x < dt.2.2.1
    · rw [decide_eq_true e, if_neg (show ¬ true = false by decide)]
      by_cases ei : i < 0
      · rw [if_neg (by omega), if_pos ei]
        exact ⟨rfl, hIl⟩
      · rw [if_pos ⟨rfl, by omega⟩, if_neg ei]
        exact ⟨let_eq hC ha hl.2.1 hA e t (by omega), hIl⟩
    · rw [decide_eq_false e, if_neg (fun w => by cases w.1), if_pos rfl]
      exact ⟨rfl, hIl⟩
  · obtain ⟨_, q2⟩ := dTab_out (scn := scn) (T := T) (cnt := cnt) (d := d) (zS := zS) (bS := bS) hs
    rw [q2]
    unfold dLetter mLetter
    dsimp only
    rw [(node_out (x := x) (S := S) (c := cnt) hs).1, (node_out (x := x) (S := S) hs).2, if_neg (fun w => by cases w.1), if_pos rfl]
    exact ⟨rfl, hI⟩
