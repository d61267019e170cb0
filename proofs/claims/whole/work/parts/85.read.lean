/-! PURE 26: read -/
theorem mStore_k {s : Int} {S : MS} (hs : 0 ≤ s ∧ s < 8) : (∀ q, q ≠ 1 → q ≠ 2 → (mStore s S).a q = S.a q) ∧ (mStore s S).f = S.f ∧ (∀ x, (mStore s S).a 1 x = if x = s.toNat then S.f 2 else S.a 1 x) ∧ ∀ x, (mStore s S).a 2 x = if (2000 * s).toNat ≤ x ∧ x < (2000 * s).toNat + (S.f 2).toNat then S.a 3 (x - (2000 * s).toNat) else S.a 2 x := by
  unfold mStore
  refine ⟨fun q h1 h2 => ?_, rfl, fun x => ?_, fun x => ?_⟩
  · rw [st_ne h1]
    funext y
    rw [cp_a, if_neg (fun w => h2 w.1)]
  · rw [st_eq, cp_a, if_neg (show ¬ (1 = 2 ∧ (2000 * s).toNat ≤ x ∧ x < (2000 * s).toNat + (S.f 2).toNat) from fun w => absurd w.1 (by decide))]
  · rw [st_ne (by decide), cp_a]
    by_cases e : (2000 * s).toNat ≤ x ∧ x < (2000 * s).toNat + (S.f 2).toNat
    · rw [if_pos ⟨rfl, e⟩, if_pos e, Nat.zero_add]
    · rw [if_neg (fun w => e w.2), if_neg e]
/-- a slot's new bytes, on both sides -/
theorem Inv_store {scn fpl : Int} {zT : Nat} {bT : Nat → Int} {T : Nat → Nat → Int} {cnt : Nat} {zS : Nat → Nat} {bS : Nat → Nat → Int} {S S1 : MS} (hI : Inv scn fpl zT bT T cnt zS bS S) {s : Int} (hs : 0 ≤ s ∧ s < 8) {z1 : Nat} {b1 : Nat → Int} {fpl1 : Int} {zT1 : Nat} {T1 : Nat → Nat → Int} {c1 : Nat}
    (h0 : (zT1 : Int) = S1.f 0) (ht : zT1 ≤ 2000) (hb0 : ∀ x : Nat, x < zT1 → bT x = S1.a 0 x) (h1 : fpl1 = S1.f 1) (h6 : S1.f 6 = 0) (ha1 : S1.a 1 = S.a 1) (ha2 : S1.a 2 = S.a 2) (h2 : S1.f 2 = z1) (h3 : ∀ x : Nat, x < z1 → b1 x = S1.a 3 x) (hC : ∃ TF c, Cert b1 false z1 TF c) :
    Inv (-1) fpl1 zT1 bT T1 c1 (va_up zS s.toNat z1) (va_up bS s.toNat b1) (mStore s S1) := by
  obtain ⟨q1, q2, q3, q4⟩ := mStore_k (S := S1) hs
  refine ⟨⟨by rw [q2]; exact h0, ht, fun x hx => by rw [q1 0 (by decide) (by decide)]; exact hb0 x hx⟩, ⟨by rw [q2]; exact h1, by rw [q2]; exact h6⟩, fun k hk => ?_, by omega, fun w => by omega⟩
  have hz1 : z1 ≤ 2000 := by
    obtain ⟨TF, c, h⟩ := hC
    have := h.1.2.2.1
    omega
  by_cases e : k = s.toNat
  · subst e
    rw [va_up_self, va_up_self, q3, if_pos rfl, h2]
    refine ⟨rfl, fun x hx => ?_, hC⟩
    rw [q4, h2, if_pos (by omega), h3 x hx]
    congr 1
    omega
  · rw [va_up_ne _ _ e, va_up_ne _ _ e, q3, if_neg e, ha1]
    obtain ⟨w1, w2, w3⟩ := hI.2.2.1 k hk
    refine ⟨w1, fun x hx => ?_, w3⟩
    have hzk : zS k ≤ 2000 := by
      obtain ⟨TF, c, h⟩ := w3
      have := h.1.2.2.1
      omega
    rw [q4, h2, if_neg (by omega), ha2]
    exact w2 x hx
theorem r_read {scn fpl : Int} {zT : Nat} {bT : Nat → Int} {T : Nat → Nat → Int} {cnt : Nat} {zS : Nat → Nat} {bS : Nat → Nat → Int} {S : MS} (hI : Inv scn fpl zT bT T cnt zS bS S) (hR : Rg bT bS S) (s n : Int) :
    ((bHas zT n 0 = true → rGood bT zT 2000 (rStart bT zT n T)) ∧ (mSlot s = true → 0 ≤ n → n ≤ S.f 0 → mGoGood 4000 (mGoS n (mRd0 n S))) ∧ ((0 ≤ s ∧ s < 8) → (0 ≤ n ∧ n ≤ S.f 0) → 0 ≤ (mGoOver n (mRd0 n S)).f 2 ∧ (mGoOver n (mRd0 n S)).f 2 ≤ 2000))
    ∧ ((dSlot s = false ∨ bHas zT n 0 = false) → mRead s n S = (-1, S))
    ∧ (dSlot s = true → bHas zT n 0 = true → (rGo bT zT 2000 (rStart bT zT n T)).2.2.1 = (mRead s n S).1 ∧ (¬ (rGo bT zT 2000 (rStart bT zT n T)).2.2.1 = 0 → ∀ T1 c1, Inv (-1) (rGo bT zT 2000 (rStart bT zT n T)).2.2.2.1 0 bT T1 c1 zS bS (mRead s n S).2) ∧ ((rGo bT zT 2000 (rStart bT zT n T)).2.2.1 = 0 → ∀ T1 c1, Inv (-1) (rGo bT zT 2000 (rStart bT zT n T)).2.2.2.1 0 bT T1 c1 (va_up zS s.toNat (0 + n.toNat)) (va_up bS s.toNat (bApp (bS s.toNat) 0 bT 0 n)) (mRead s n S).2)) := by
  have hz := hI.1.1
  have hz2 := hI.1.2.1
  have core : 0 ≤ n → n ≤ zT → ∃ nn : Nat, n = nn ∧ nn ≤ zT ∧ pA bT zT nn ((mRd0 n S).a 3) ∧ (mRd0 n S).f 6 = bI false ∧ (∀ q, q ≠ 3 → (mRd0 n S).a q = S.a q) ∧ (mRd0 n S).f 0 = 0 ∧ (mRd0 n S).f 2 = n ∧ (mRd0 n S).f 6 = 0 ∧ ∀ x : Nat, x < nn → (mRd0 n S).a 3 x = bT x := by
    intro a b
    have hv : ∀ x : Nat, (mRd0 n S).a 3 x = if x < n.toNat then S.a 0 x else S.a 3 x := by
      intro x
      unfold mRd0
      rw [pf_a, pf_a, cp_a]
      by_cases e : x < n.toNat
      · rw [if_pos ⟨rfl, by omega, by omega⟩, if_pos e, Nat.zero_add, Nat.sub_zero]
      · rw [if_neg (by omega), if_neg e]
    have he : ∀ x : Nat, x < n.toNat → (mRd0 n S).a 3 x = bT x := fun x hx => by rw [hv, if_pos hx, hI.1.2.2 x (by omega)]
    refine ⟨n.toNat, by omega, by omega, ⟨⟨by omega, fun x hx => (he x hx).symm⟩, hR.1, fun x => ?_⟩, hI.2.1.2, fun q hq => ?_, rfl, rfl, hI.2.1.2, he⟩
    · rw [hv]
      split
      · exact hR.2.2 0 x (by decide)
      · exact hR.2.2 3 x (by decide)
    · unfold mRd0
      rw [pf_a, pf_a]
      funext x
      rw [cp_a, if_neg (fun w => hq w.1)]
  refine ⟨⟨fun w => ?_, fun w a b => ?_, fun w a => ?_⟩, fun w => ?_, fun w1 w2 => ?_⟩
  · have hn := bHas_iff.mp w
    obtain ⟨nn, e, e2, hA, _⟩ := core hn.1 hn.2.2.1
    rw [e]
    rw [e] at hA
    exact (rRun_a hA (by omega) T).1
  · obtain ⟨nn, e, e2, hA, h6, _⟩ := core a (by omega)
    exact (mGoOver_a hA.2.2 h6 (by omega) T).1
  · obtain ⟨nn, e, e2, hA, h6, _, _, h2, _⟩ := core a.1 (by omega)
    rw [(mFr_over (S := mRd0 n S) n).2 2 (by decide), h2]
    omega
  · unfold mRead
    rw [if_pos ?_]
    rcases w with w | w
    · exact Or.inl (mSlot_ff.mpr (dSlot_ff.mp w))
    · have : ¬ (0 ≤ n ∧ (0 : Int) ≤ 0 ∧ n ≤ zT ∧ (0 : Int) ≤ zT - n) := of_decide_eq_false w
      omega
  · have hs := dSlot_iff.mp w1
    have hn := bHas_iff.mp w2
    obtain ⟨nn, e, e2, hA, h6, hk, h0, h2, h6b, he⟩ := core hn.1 hn.2.2.1
    have hm := mGoOver_a (n := n) hA.2.2 h6 (by omega) T
    have hfr := mFr_over (S := mRd0 n S) n
    have hr := rRun_a (nn := nn) hA (by omega) T
    rw [← e] at hr
    unfold mRead
    rw [if_neg (show ¬ (mSlot s = false ∨ n < 0 ∨ S.f 0 < n) by rw [mSlot_iff.mpr hs]; simp; omega)]
    rw [hr.2.1, hr.2.2]
    by_cases c : (aRun ((mRd0 n S).a 3) false n T).2.1 = 0
    · obtain ⟨hC, u, op, hmR⟩ := hm.2.1 c
      have f5 : (mGoOver n (mRd0 n S)).f 5 = 0 := hmR.1.2.2.1
      have f1 : (mGoOver n (mRd0 n S)).f 1 = -1 := hmR.1.2.2.2.1
      rw [if_neg (fun w => w f5), c, if_pos rfl]
      refine ⟨?_, fun w => absurd rfl w, fun _ T1 c1 => ?_⟩
      · show 0 = (mStore s (mGoOver n (mRd0 n S))).f 5
        rw [(mStore_k hs).2.1, f5]
      · have hbr : ∀ x, 0 ≤ bApp (bS s.toNat) 0 bT 0 n x ∧ bApp (bS s.toNat) 0 bT 0 n x ≤ 255 := by
          intro x
          unfold bApp bCopy
          rw [bGap_0]
          have := cpy_r hR.1 (fun y => hR.2.1 s.toNat y (by omega)) (0 : Int).toNat ((0 : Nat) : Int).toNat n.toNat x
          omega
        have hbe : ∀ x : Nat, x < nn → bApp (bS s.toNat) 0 bT 0 n x = bT x := by
          intro x hx
          unfold bApp bCopy va_cpy
          rw [if_pos (by omega)]
          congr 1
          omega
        obtain ⟨T2, w3, _⟩ := Cert_ext (h := bApp (bS s.toNat) 0 bT 0 n) hA.2.2 hbr hC (fun x hx => by rw [hbe x (by omega), he x (by omega)])
        refine Inv_store hI hs (by rw [hfr.2 0 (by decide), h0]; rfl) (by omega) (fun x hx => by omega) f1.symm (by rw [hfr.2 6 (by decide)]; exact h6b) (by rw [hfr.1 1 (by decide), hk 1 (by decide)]) (by rw [hfr.1 2 (by decide), hk 2 (by decide)]) (by rw [hfr.2 2 (by decide), h2]; omega) (fun x hx => ?_) ⟨T2, (aRun ((mRd0 n S).a 3) false n T).1.2.2.2, ?_⟩
        · rw [hfr.1 3 (by decide), hbe x (by omega), he x (by omega)]
        · rw [show ((0 + n.toNat : Nat) : Int) = n by omega]
          exact w3
    · have hb := hm.2.2 c
      have f5 : ¬ (mGoOver n (mRd0 n S)).f 5 = 0 := by rw [hb.1]; exact c
      rw [if_pos f5, if_neg c]
      refine ⟨hb.1.symm, fun _ T1 c1 => ?_, fun w => absurd w c⟩
      refine ⟨⟨?_, by omega, fun x hx => by omega⟩, ⟨hb.2.symm, ?_⟩, fun k hk2 => ?_, by omega, fun w => by omega⟩
      · rw [hfr.2 0 (by decide), h0]; rfl
      · rw [hfr.2 6 (by decide)]; exact h6b
      · rw [hfr.1 1 (by decide), hfr.1 2 (by decide), hk 1 (by decide), hk 2 (by decide)]
        exact hI.2.2.1 k hk2
