/-! PURE 8: the reference's whole run -/
theorem mGoC_a {f : Nat → Int} (hf : ∀ x, 0 ≤ f x ∧ f x ≤ 255) {ln : Bool} {n t ins : Int} {T : Nat → Nat → Int} {c : Nat} {S : MS} {op : Int} (h : PC f ln n (t, ins, T, c)) (hR : mR f ln n (t, ins, T, c) (S, t, op)) (hi : 0 ≤ ins) : mGoC (S, t, op) := by
  obtain ⟨_, o1, o2, o3, o4, o5, o6⟩ := mR_in h hR hi
  have hin := PC_ins h hi
  have hnm := PC_nm h
  have hc := h.2.2.2.2.2.2.2.1
  have hn := h.1.2.2.1
  have h6 := h.2.2.2.2.2.1 ins.toNat (by have := hin.1.1; dsimp only; omega)
  have e3 := hR.1.2.1
  have e5 := hR.1.2.2.1
  have hS3 := hR.2.1
  have hrw := mR_rw hR
  dsimp only at hnm hc hn h6 e3 e5 hS3 hrw
  have hl : aLast T ins < n := by have := hin.2.2.2.2.2; unfold aLast; omega
  have h3n : (S.f 3).toNat = c := by omega
  have hcr := cC_r T ((ins.toNat : Nat) : Int) c
  unfold mGoC
  dsimp only
  rw [o3, o2, o4, h6]
  refine ⟨o1, by omega, by omega, by omega, ⟨by omega, fun k a b => ?_⟩, by omega, fun hlt => ?_⟩
  · obtain ⟨_, r5, r6⟩ := hrw.2 k a (by omega)
    have := hnm.2 k a (by omega)
    have := (h.2.1 k a (by dsimp only; omega)).1.2.2.1
    dsimp only at this
    rw [r5, r6]
    omega
  · have hE := mGoE_e h hR hi
    obtain ⟨z1, z2, z3, z4⟩ := mNz_spec (f := f) (last := aLast T ins) _ (t + 1) rfl (by omega)
    by_cases c3 : aLast T ins ≤ mNz f (aLast T ins) (t + 1)
    · rw [if_pos c3] at hE
      rw [hE]
      exact ⟨by dsimp only; omega, fun w => absurd w (mStop_nz (by decide))⟩
    · rw [if_neg c3] at hE
      generalize hzz : mNz f (aLast T ins) (t + 1) = z at *
      by_cases c4 : mBad f (t + 1) z = -1
      · rw [if_neg (fun w => w c4)] at hE
        by_cases c5 : aNm f ln t z ins T c = false
        · rw [if_pos c5] at hE
          rw [hE]
          exact ⟨by dsimp only; omega, fun w => absurd w (mStop_nz (by decide))⟩
        · rw [if_neg c5] at hE
          rw [hE]
          dsimp only
          obtain ⟨b3, b9, b10, b12, b7, b4, b5, b6, b11, b8, bf⟩ := mElC_a (t := t) (z := z) (op := op) (S := S)
          have hC3 : (mElC t z op S).a 3 = f := by rw [b3]; exact hS3
          have hvr := mValue_r (k := S.a 3 t.toNat) (a := z + 1) (last := aLast T ins) (S := mElC t z op S) (by rw [hC3]; exact hf)
          have bf5 : (mElC t z op S).f 5 = 0 := by rw [bf, if_neg (by decide)]; exact e5
          have bf3 : (mElC t z op S).f 3 = c + 1 := by rw [bf, if_pos rfl]; omega
          refine ⟨?_, fun w => ?_⟩
          · unfold mElR mElE
            split
            · omega
            · rw [st_eq, if_pos rfl]
              unfold mElD
              omega
          · have hD : mElD t z (aLast T ins) op S = mValue (f t.toNat) (z + 1) (aLast T ins) (mElC t z op S) := by
              unfold mElD
              rw [hS3]
            have w2 : (mElD t z (aLast T ins) op S).2.f 5 = 0 := w
            have hval : (mElD t z (aLast T ins) op S).2 = mElC t z op S := by
              rw [hD] at w2 ⊢
              by_cases hk : f t.toNat = 16 ∨ f t.toNat = 18 ∨ f t.toNat = 8 ∨ f t.toNat = 2
              · have hki : kIs (f t.toNat) = true := decide_eq_true (by omega)
                have hva := mValue_a (S := mElC t z op S) hC3 bf5 (v := z + 1) (last := aLast T ins) (dep := 0) hki (fun q => by have := kH34.mp q; omega) (by omega) (by omega)
                by_cases hv : (aFv f (f t.toNat) (z + 1) (aLast T ins) 0).1 = 0
                · rw [hva.1 hv]
                · exact absurd w2 (by rw [(hva.2 hv).1]; exact hv)
              · unfold mValue
                rw [if_neg (by omega), if_neg (by omega)]
            unfold mElE
            rw [hval, st_f, bf3, st_ne (by decide), b5, if_pos (by omega)]
            omega
      · rw [if_pos c4] at hE
        rw [hE]
        exact ⟨by dsimp only; omega, fun w => absurd w (mStop_nz (by decide))⟩
theorem mGoGood_v {M : Nat} {g : mG} (h : ¬ (0 < g.2.2 ∧ g.1.f 5 = 0)) : mGoGood M g := by
  cases M with
  | zero => exact h
  | succ M => exact fun w => absurd w h
theorem mGo_a {f : Nat → Int} (hf : ∀ x, 0 ≤ f x ∧ f x ≤ 255) {ln : Bool} {n : Int} : ∀ (N M : Nat) (s : sS) (g : mG), PC f ln n s → mR f ln n s g → n - s.1 < N → N ≤ M →
    mGoGood M g ∧ ((aGo f ln N s).2.1 = 0 → mR f ln n (aGo f ln N s).1 (mGo M g)) ∧ (¬ (aGo f ln N s).2.1 = 0 → (mGo M g).1.f 5 = (aGo f ln N s).2.1 ∧ (mGo M g).1.f 1 = (aGo f ln N s).2.2) := by
  intro N
  induction N with
  | zero =>
    intro M s g h _ h2 _
    have := PC_at h
    omega
  | succ N ih =>
    intro M s g h hR h2 h3
    obtain ⟨t, ins, T, c⟩ := s
    obtain ⟨S, u, op⟩ := g
    have eu : u = t := hR.1.1
    subst eu
    have p1 := PC_at h
    dsimp only at p1 h2
    by_cases hi : ins < 0
    · have e2 : aGo f ln (N + 1) (u, ins, T, c) = ((u, ins, T, c), 0, -1) := if_pos hi
      have ho : op = 0 := by
        rcases hR.2.2.2.2.1 with a | a
        · exact a.2
        · have := a.1; dsimp only at this; omega
      have hno : ¬ (0 < op ∧ S.f 5 = 0) := fun w => by omega
      rw [e2, mGo_e hno]
      exact ⟨mGoGood_v hno, fun _ => hR, fun w => absurd rfl w⟩
    · have hi0 : 0 ≤ ins := by omega
      have hop := (mR_in h hR hi0).2.1
      have hgo : 0 < op ∧ S.f 5 = 0 := ⟨by omega, hR.1.2.2.1⟩
      have hC := mGoC_a hf h hR hi0
      have hq := mGoStep_a hf h hR hi0
      obtain ⟨M1, rfl⟩ : ∃ M1, M = M1 + 1 := ⟨M - 1, by omega⟩
      have eG : mGo (M1 + 1) (S, u, op) = mGo M1 (mGoStep (S, u, op)) := mGo_s hgo
      by_cases hz : (aF f ln (u, ins, T, c)).1 = 0
      · have e2 : aGo f ln (N + 1) (u, ins, T, c) = aGo f ln N (aN f (u, ins, T, c)) := by
          show (if ins < 0 then _ else if ¬ (aF f ln (u, ins, T, c)).1 = 0 then _ else _) = _
          rw [if_neg hi, if_neg (fun w => w hz)]
        have hP := PC_step hf h hi0 hz
        have q := ih M1 (aN f (u, ins, T, c)) (mGoStep (S, u, op)) hP.1 (hq.2 hz) (by omega) (by omega)
        rw [e2, eG]
        exact ⟨fun _ => ⟨hC, q.1⟩, q.2⟩
      · have e2 : aGo f ln (N + 1) (u, ins, T, c) = ((u, ins, T, c), aF f ln (u, ins, T, c)) := by
          show (if ins < 0 then _ else if ¬ (aF f ln (u, ins, T, c)).1 = 0 then _ else _) = _
          rw [if_neg hi, if_pos hz]
        have hb := hq.1 hz
        have hno : ¬ (0 < (mGoStep (S, u, op)).2.2 ∧ (mGoStep (S, u, op)).1.f 5 = 0) := fun w => hz (by rw [← hb.1]; exact w.2)
        rw [e2, eG, mGo_e hno]
        exact ⟨fun _ => ⟨hC, mGoGood_v hno⟩, fun w => absurd w hz, fun _ => hb⟩
/-! the start -/
theorem mGo0_a {n : Int} {S : MS} : (mGo0 n S).a 3 = S.a 3 ∧ (mGo0 n S).a 4 0 = -1 ∧ (mGo0 n S).a 5 0 = 0 ∧ (mGo0 n S).a 6 0 = 0 ∧ (mGo0 n S).a 7 0 = n ∧ (mGo0 n S).a 8 0 = 1 ∧ (mGo0 n S).f 5 = 0 ∧ (mGo0 n S).f 1 = -1 ∧ (mGo0 n S).f 4 = 0 ∧ (mGo0 n S).f 3 = 1 ∧ (mGo0 n S).f 6 = S.f 6 := by
  unfold mGo0
  refine ⟨?_, ?_, ?_, ?_, ?_, ?_, rfl, rfl, rfl, rfl, rfl⟩
  · rw [st_ne (by decide), st_ne (by decide), st_ne (by decide), st_ne (by decide), st_ne (by decide)]; rfl
  · rw [st_ne (by decide), st_ne (by decide), st_ne (by decide), st_ne (by decide), st_eq, if_pos rfl]
  · rw [st_ne (by decide), st_ne (by decide), st_ne (by decide), st_eq, if_pos rfl]
  · rw [st_ne (by decide), st_ne (by decide), st_eq, if_pos rfl]
  · rw [st_ne (by decide), st_eq, if_pos rfl]
  · rw [st_eq, if_pos rfl]
theorem mGoS_a {ln : Bool} {n : Int} {S : MS} {T : Nat → Nat → Int} (h6 : S.f 6 = bI ln) : ((aF0 (S.a 3) n).1 = 0 → mR (S.a 3) ln n (aStart n T) (mGoS n S)) ∧ (¬ (aF0 (S.a 3) n).1 = 0 → (mGoS n S).2.2 = 0 ∧ (mGoS n S).1.f 5 = (aF0 (S.a 3) n).1 ∧ (mGoS n S).1.f 1 = (aF0 (S.a 3) n).2) := by
  obtain ⟨a3, a4, a5, a6, a7, a8, f5, f1, f4, f3, f6⟩ := mGo0_a (n := n) (S := S)
  unfold mGoS mOpens aF0
  by_cases c1 : n < 4
  · rw [if_pos c1, if_pos c1]
    exact ⟨fun w => (by cases w), fun _ => ⟨rfl, mStop_v f5⟩⟩
  · rw [if_neg c1, if_neg c1]
    unfold mOpA
    rw [a3]
    by_cases c2 : mLow (S.a 3) 0 4 < 5 ∨ mLow (S.a 3) 0 4 < n
    · rw [if_pos c2, if_pos (show mLow (S.a 3) 0 4 < 5 ∨ (0 : Int) = 0 ∧ mLow (S.a 3) 0 4 < n by omega), if_pos (mStop_nz (by decide))]
      exact ⟨fun w => (by cases w), fun _ => ⟨rfl, mStop_v f5⟩⟩
    · rw [if_neg c2, if_neg (show ¬ (mLow (S.a 3) 0 4 < 5 ∨ (0 : Int) = 0 ∧ mLow (S.a 3) 0 4 < n) by omega)]
      by_cases c3 : n < mLow (S.a 3) 0 4
      · rw [if_pos c3, if_pos c3, if_pos (mStop_nz (by decide))]
        exact ⟨fun w => (by cases w), fun _ => ⟨rfl, mStop_v f5⟩⟩
      · rw [if_neg c3, if_neg c3, if_neg (show ¬ (0 : Int) = 16 by decide), if_neg (fun w => w f5)]
        refine ⟨fun _ => ?_, fun w => absurd rfl w⟩
        have hn : mLow (S.a 3) 0 4 = n := by omega
        dsimp only
        rw [if_pos rfl, hn]
        generalize hS0 : mGo0 n S = S0 at *
        have m9 : (mOpB 0 n 0 0 false S0).a 9 0 = n := by
          unfold mOpB
          rw [pf_a, st_ne (by decide), st_ne (by decide), st_ne (by decide), st_eq, if_pos (show 0 = (0 : Int).toNat from rfl)]; omega
        have m10 : (mOpB 0 n 0 0 false S0).a 10 0 = 0 := by
          unfold mOpB
          rw [pf_a, st_ne (by decide), st_ne (by decide), st_eq, if_pos (show 0 = (0 : Int).toNat from rfl)]
        have m11 : (mOpB 0 n 0 0 false S0).a 11 0 = 0 := by
          unfold mOpB
          rw [pf_a, st_ne (by decide), st_eq, if_pos (show 0 = (0 : Int).toNat from rfl)]
        have m12 : (mOpB 0 n 0 0 false S0).a 12 0 = 0 := by
          unfold mOpB
          rw [pf_a, st_eq, if_pos (show 0 = (0 : Int).toNat from rfl)]; rfl
        have mo : ∀ q, q ≠ 9 → q ≠ 10 → q ≠ 11 → q ≠ 12 → (mOpB 0 n 0 0 false S0).a q = S0.a q := by
          intro q q9 q10 q11 q12
          unfold mOpB
          rw [pf_a, st_ne q12, st_ne q11, st_ne q10, st_ne q9]
        have q2 : nApp T 0 3 (-1) (-1) 0 n 2 0 = 1 := by unfold nApp; simp; rfl
        unfold mR aStart
        dsimp only
        refine ⟨⟨rfl, f3, f5, f1, by rw [← h6]; exact f6⟩, ?_, fun k hk => ?_, fun i hio => ?_, Or.inr ⟨by decide, by decide, by rw [show ((1 : Int) - 1).toNat = 0 from rfl, m10]⟩, ⟨fun k hk => ?_, 0, by decide, ?_⟩⟩
        · rw [mo 3 (by decide) (by decide) (by decide) (by decide)]; exact a3
        · have e : k = 0 := by omega
          subst e
          unfold mRow
          rw [mo 4 (by decide) (by decide) (by decide) (by decide), mo 8 (by decide) (by decide) (by decide) (by decide), mo 5 (by decide) (by decide) (by decide) (by decide), mo 6 (by decide) (by decide) (by decide) (by decide), mo 7 (by decide) (by decide) (by decide) (by decide), a4, a5, a6, a7, a8, nA_1, q2, nA_Ec]
          exact ⟨rfl, rfl, fun w => by omega, fun _ => ⟨rfl, rfl, rfl⟩, fun _ => by omega⟩
        · have e : i = 0 := by omega
          subst e
          unfold mStk
          rw [m9, m10, m11, m12, if_pos rfl, show (0 : Int).toNat = 0 from rfl, nA_Ec, nA_6, nA_0, nA_1, q2]
          exact ⟨⟨by decide, by decide⟩, by omega, rfl, rfl, rfl, rfl⟩
        · have e : k = 0 := by omega
          subst e
          rw [q2]
          show 1 ≤ (if S0.f 4 < 0 + 1 then (0 : Int) + 1 else S0.f 4)
          rw [f4]
          decide
        · rw [q2]
          show 1 = (if S0.f 4 < 0 + 1 then (0 : Int) + 1 else S0.f 4)
          rw [f4]
          decide
/-- the run as a whole -/
def aRun (f : Nat → Int) (ln : Bool) (n : Int) (T : Nat → Nat → Int) : sS × Int × Int := if ¬ (aF0 f n).1 = 0 then (aStart n T, aF0 f n) else aGo f ln 2000 (aStart n T)
theorem mGoOver_a {S : MS} (hf : ∀ x, 0 ≤ S.a 3 x ∧ S.a 3 x ≤ 255) {ln : Bool} {n : Int} (h6 : S.f 6 = bI ln) (hn : n ≤ 2000) (T : Nat → Nat → Int) :
    mGoGood 4000 (mGoS n S) ∧ ((aRun (S.a 3) ln n T).2.1 = 0 → Cert (S.a 3) ln n (aRun (S.a 3) ln n T).1.2.2.1 (aRun (S.a 3) ln n T).1.2.2.2 ∧ ∃ u op, mR (S.a 3) ln n (n, -1, (aRun (S.a 3) ln n T).1.2.2.1, (aRun (S.a 3) ln n T).1.2.2.2) (mGoOver n S, u, op))
    ∧ (¬ (aRun (S.a 3) ln n T).2.1 = 0 → (mGoOver n S).f 5 = (aRun (S.a 3) ln n T).2.1 ∧ (mGoOver n S).f 1 = (aRun (S.a 3) ln n T).2.2) := by
  have hs := mGoS_a (n := n) (T := T) h6
  unfold aRun mGoOver
  by_cases c : (aF0 (S.a 3) n).1 = 0
  · rw [if_neg (fun w => w c)]
    have hP : PC (S.a 3) ln n (aStart n T) := PC_start c hn
    have q := mGo_a hf 2000 4000 _ _ hP (hs.1 c) (by show n - 4 < _; omega) (by decide)
    refine ⟨q.1, fun w => ?_, q.2.2⟩
    have hC := aGo_end hf 2000 _ hP (by show n - 4 < _; omega) w
    have hm := q.2.1 w
    refine ⟨hC, (mGo 4000 (mGoS n S)).2.1, (mGo 4000 (mGoS n S)).2.2, ?_⟩
    have e : (aGo (S.a 3) ln 2000 (aStart n T)).1 = (n, -1, (aGo (S.a 3) ln 2000 (aStart n T)).1.2.2.1, (aGo (S.a 3) ln 2000 (aStart n T)).1.2.2.2) := by
      have := aGo_in hf 2000 _ hP (by show n - 4 < _; omega) w
      rw [Prod.ext_iff, Prod.ext_iff]
      exact ⟨this.2, this.1, rfl⟩
    rw [e] at hm
    exact hm
  · rw [if_pos c]
    have q := hs.2 c
    have hno : ¬ (0 < (mGoS n S).2.2 ∧ (mGoS n S).1.f 5 = 0) := fun w => by have := w.1; omega
    rw [mGo_e hno]
    exact ⟨mGoGood_v hno, fun w => absurd w c, fun _ => q.2⟩
