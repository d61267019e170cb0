/-! PURE 3: the run keeps what it has found -/
theorem PC_start {f : Nat → Int} {ln : Bool} {n : Int} {T : Nat → Nat → Int} (h : (aF0 f n).1 = 0) (h2 : n ≤ 2000) : PC f ln n (aStart n T) := by
  have hn : 5 ≤ n ∧ mLow f 0 4 = n := by
    unfold aF0 at h
    by_cases c1 : n < 4
    · rw [if_pos c1] at h; cases h
    · rw [if_neg c1] at h
      by_cases c2 : mLow f 0 4 < 5 ∨ mLow f 0 4 < n
      · rw [if_pos c2] at h; cases h
      · rw [if_neg c2] at h
        by_cases c3 : n < mLow f 0 4
        · rw [if_pos c3] at h; cases h
        · omega
  have q1 : nApp T 0 3 (-1) (-1) 0 n 1 0 = -1 := nA_1
  have qh : kHold (nApp T 0 3 (-1) (-1) 0 n 0 0) = true := by rw [nA_0]; rfl
  have qE : tE (nApp T 0 3 (-1) (-1) 0 n) 0 = n := by rw [nA_Ec]; omega
  have q2 : nApp T 0 3 (-1) (-1) 0 n 2 0 = 1 := by unfold nApp; simp; rfl
  unfold PC aStart
  dsimp only
  refine ⟨⟨Nat.le_refl 1, ⟨nA_0, nA_1, q2, nA_3, nA_4, nA_5⟩, ⟨hn.1, h2⟩, hn.2⟩, fun k a b => by omega, ⟨fun q a b => by omega, fun k q a b c => by omega⟩, ⟨fun k a b => by omega, fun p a _ _ => ?_⟩, fun p a b z => ?_, fun k a => ?_, ⟨Or.inr ⟨⟨by decide, by decide⟩, qh, by omega, ?_⟩, fun j a b => by omega⟩, by omega, fun _ => ⟨by omega, fun _ _ => by omega⟩⟩
  · have e : p = 0 := by omega
    subst e
    exact ⟨fun z => absurd ⟨by omega, fun j a b => by omega⟩ z, fun _ => by rw [nA_4]; rfl⟩
  · have e : p = 0 := by omega
    subst e
    exact absurd ⟨by omega, fun j a b => by omega⟩ z
  · have e : k = 0 := by omega
    subst e
    rw [nA_6]
    unfold cC cC
    rw [q1]
    rfl
  · unfold aLast
    rw [show (0 : Int).toNat = 0 from rfl, qE]
    omega
theorem PC_ins {f : Nat → Int} {ln : Bool} {n t ins : Int} {T : Nat → Nat → Int} {c : Nat} (h : PC f ln n (t, ins, T, c)) (hi : 0 ≤ ins) : (ins < c ∧ kHold (T 0 ins.toNat) = true) ∧ (4 ≤ t ∧ t ≤ aLast T ins) ∧ (1 ≤ T 2 ins.toNat ∧ T 2 ins.toNat ≤ 16) ∧ (5 ≤ T 5 ins.toNat ∧ 0 ≤ T 4 ins.toNat ∧ tE T ins.toNat ≤ n) := by
  obtain ⟨h0, h1, _, _, _, _, hS, _⟩ := h
  dsimp only at h0 h1 hS
  rcases hS.1 with ⟨a, _⟩ | ⟨a, b, d⟩
  · omega
  · refine ⟨⟨a.2, b⟩, d, ?_⟩
    obtain ⟨_, ⟨z0, z1, z2, z3, z4, z5⟩, zn, _⟩ := h0
    have key : ∀ N : Nat, N < c → (1 ≤ T 2 N + 1 - bI (kHold (T 0 N)) ∧ T 2 N ≤ 16) ∧ tE T N ≤ n ∧ 0 ≤ T 4 N := by
      intro N
      induction N using Nat.strongRecOn with
      | _ N ih =>
        intro hN
        by_cases e : N = 0
        · subst e
          have := bI_r (kHold (T 0 0))
          unfold tE
          omega
        · have r := (h1 N (by omega) hN).1
          obtain ⟨⟨r1, _⟩, _, r3, _, _, r6⟩ := r
          have i1 := ih (T 1 N).toNat (by omega) (by omega)
          have := bI_r (kHold (T 0 N))
          have := bI_r (kHold (T 0 (T 1 N).toNat))
          omega
    have k1 := key ins.toNat (by omega)
    rw [b] at k1
    have e5 : 5 ≤ T 5 ins.toNat := by
      by_cases e : ins.toNat = 0
      · rw [e]; omega
      · exact (h1 ins.toNat (by omega) (by omega)).2.1.2.2.2 b
    have : bI true = 1 := rfl
    omega
theorem PC_close {f : Nat → Int} {ln : Bool} {n t ins : Int} {T : Nat → Nat → Int} {c : Nat} (h : PC f ln n (t, ins, T, c)) (hi : 0 ≤ ins) (hl : t = aLast T ins) (hz : f t.toNat = 0) : PC f ln n (t + 1, T 1 ins.toNat, T, c) := by
  have hin := PC_ins h hi
  obtain ⟨h0, h1, hB, hL, hZ, hC, hS, hP⟩ := h
  dsimp only at h0 h1 hB hL hZ hC hS hP
  have hlt : ins < c := hin.1.1
  have hp : (ins = 0 ∧ T 1 ins.toNat = -1) ∨ (1 ≤ ins ∧ 0 ≤ T 1 ins.toNat ∧ T 1 ins.toNat < ins) := by
    by_cases e : ins = 0
    · subst e; exact Or.inl ⟨rfl, h0.2.1.2.1⟩
    · have := (h1 ins.toNat (by omega) (by omega)).1.1.1
      exact Or.inr (by omega)
  have hnest : ∀ j : Nat, T 1 ins.toNat < j → j < c → T 1 ins.toNat ≤ T 1 j := by
    intro j a b
    by_cases e : (j : Int) < ins
    · rcases hp with ⟨p1, p2⟩ | p
      · omega
      · exact (h1 ins.toNat (by omega) (by omega)).2.2.2.2 j a (by omega)
    · by_cases e2 : (j : Int) = ins
      · rw [← e2]; rw [show ((j : Int)).toNat = j by omega]; omega
      · have := hS.2 j (by omega) b
        omega
  have hnew : ∀ p : Nat, ¬ opn T c (T 1 ins.toNat) p → ¬ opn T c ins p ∨ (p : Int) = ins := by
    intro p a
    by_cases e : (p : Int) = ins
    · exact Or.inr e
    · refine Or.inl (fun z => a ⟨?_, z.2⟩)
      have := z.2 ins.toNat (by have := z.1; omega) (by omega)
      exact this
  unfold PC
  dsimp only
  refine ⟨h0, h1, hB, ⟨fun k a b d => ⟨fun z => ?_, fun z => ?_⟩, fun p a b d => ⟨fun z => ?_, fun z => ?_⟩⟩, fun p a b z => ?_, hC, ⟨?_, hnest⟩, ?_⟩
  · have r := (h1 k a b).1.1.1
    rcases hnew _ z with z2 | z2
    · exact (hL.1 k a b d).1 z2
    · have e : T 1 k = ins := by omega
      rw [(hL.1 k a b d).2 e, e, hl]
      rfl
  · have r := (h1 k a b).1.1.1
    have e : (k : Int) = ins := by
      rcases hp with ⟨p1, p2⟩ | p
      · omega
      · by_cases e1 : (k : Int) < ins
        · exact absurd z.symm (d ins.toNat (by omega) (by omega))
        · by_cases e2 : ins < (k : Int)
          · have := hS.2 k e2 b; omega
          · omega
    rw [hl]
    unfold aLast
    rw [show k = ins.toNat by omega]
    omega
  · rcases hnew _ z with z2 | z2
    · exact (hL.2 p a b d).1 z2
    · have := (hL.2 p a b d).2 z2
      rw [hl] at this
      unfold aLast at this
      have ep : p = ins.toNat := by omega
      rw [ep] at this ⊢
      omega
  · exfalso
    rcases hp with ⟨p1, p2⟩ | q
    · omega
    · exact d ins.toNat (by omega) (by omega) z.symm
  · rcases hnew _ z with z2 | z2
    · exact hZ p a b z2
    · have : tE T p - 1 = t := by
        rw [hl]; unfold aLast; rw [show p = ins.toNat by omega]
      rw [this]
      exact hz
  · rcases hp with ⟨p1, p2⟩ | q
    · refine Or.inl ⟨p2, ?_⟩
      subst p1
      rw [hl]
      unfold aLast tE
      rw [show (0 : Int).toNat = 0 from rfl, h0.2.1.2.2.2.2.1, h0.2.1.2.2.2.2.2]
      omega
    · have r := (h1 ins.toNat (by omega) (by omega)).1
      refine Or.inr ⟨⟨q.2.1, by omega⟩, r.1.2, by omega, ?_⟩
      have := r.2.2.1.2.2.2
      rw [hl]
      unfold aLast
      omega
  · refine ⟨by have := hP.1; omega, fun e => ⟨by have := (hP.2 e).1; omega, fun _ _ => by have := (hP.2 e).1; omega⟩⟩
theorem aNm_row {f : Nat → Int} {ln : Bool} {t e ins : Int} {T : Nat → Nat → Int} {c : Nat} (h : aNm f ln t e ins T c = true) : (¬ T 0 ins.toNat = 4 → aDup T f ins (t + 1) (e - (t + 1)) c = false) ∧ (T 0 ins.toNat = 4 → ln = true ∨ mNum f (t + 1) e (T 6 ins.toNat) = true) := by
  unfold aNm at h
  by_cases e4 : T 0 ins.toNat = 4
  · rw [if_pos e4, Bool.or_eq_true] at h
    exact ⟨fun z => absurd e4 z, fun _ => h⟩
  · rw [if_neg e4] at h
    refine ⟨fun _ => ?_, fun z => absurd z e4⟩
    cases hd : aDup T f ins (t + 1) (e - (t + 1)) c
    · rfl
    · rw [hd] at h; cases h
theorem PC_app {f : Nat → Int} {ln : Bool} {n t ins : Int} {T : Nat → Nat → Int} {c : Nat} (h : PC f ln n (t, ins, T, c)) (hi : 0 ≤ ins) {k v vl : Int} (hk : k = f t.toNat) (hvl : vl = aVl f k v)
    (hK : kIs k = true) (hv : t + 1 ≤ v - 1) (hnz : ∀ x : Int, t + 1 ≤ x → x < v - 1 → ¬ f x.toNat = 0) (hz : f (v - 1).toNat = 0) (hb : mBad f (t + 1) (v - 1) = -1) (hnm : aNm f ln t (v - 1) ins T c = true)
    (h5 : 0 ≤ vl) (hE : v + vl ≤ aLast T ins) (hT : k = 2 → 5 ≤ vl ∧ f (v + vl - 1).toNat = 0 ∧ mBad f (v + 4) (v + vl - 1) = -1) (h8 : k = 8 → f v.toNat ≤ 1) (hH : kHold k = true → 5 ≤ vl ∧ T 2 ins.toNat < 16) :
    PC f ln n (v + (if kHold k = true then 4 else vl), (if kHold k = true then (c : Int) else ins), nApp T c k ins (t + 1) v vl, c + 1) := by
  have hin := PC_ins h hi
  obtain ⟨h0, h1, hB, hL, hZ, hC, hS, hP⟩ := h
  dsimp only at h0 h1 hB hL hZ hC hS hP
  have ip : 0 ≤ ins ∧ ins < c := ⟨hi, hin.1.1⟩
  have o : ∀ co x, x < c → co < 6 → nApp T c k ins (t + 1) v vl co x = T co x := fun co x a b => nA_o (by omega) b
  have oE : ∀ x, x < c → tE (nApp T c k ins (t + 1) v vl) x = tE T x := fun x a => nA_E (by omega)
  have hopi : opn T c ins ins.toNat := ⟨by omega, fun j a b => by have := hS.2 j (by omega) b; omega⟩
  have hop : ∀ p : Nat, p < c → (opn (nApp T c k ins (t + 1) v vl) (c + 1) (if kHold k = true then (c : Int) else ins) p ↔ opn T c ins p) := by
    intro p hp
    constructor
    · rintro ⟨a, b⟩
      refine ⟨?_, fun j x y => ?_⟩
      · have := b c hp (by omega); rw [nA_1] at this; exact this
      · have := b j x (by omega); rw [o 1 j y (by decide)] at this; exact this
    · rintro ⟨a, b⟩
      refine ⟨?_, fun j x y => ?_⟩
      · split <;> omega
      · by_cases e : j = c
        · subst e; rw [nA_1]; exact a
        · rw [o 1 j (by omega) (by decide)]; exact b j x (by omega)
  have hnmr := aNm_row hnm
  unfold PC
  dsimp only
  refine ⟨⟨by omega, ?_, h0.2.2.1, h0.2.2.2⟩, fun q a b => ?_, ⟨fun q a b d => ?_, fun q r a b d e g => ?_⟩, ⟨fun q a b d => ?_, fun p a b d => ?_⟩, fun p a b z => ?_, fun q a => ?_, ⟨Or.inr ?_, fun j a b => ?_⟩, ?_⟩
  · have c0 : 0 < c := h0.1
    rw [o 0 0 c0 (by decide), o 1 0 c0 (by decide), o 2 0 c0 (by decide), o 3 0 c0 (by decide), o 4 0 c0 (by decide), o 5 0 c0 (by decide)]
    exact h0.2.1
  · by_cases e : q = c
    · subst e
      have pi : ins.toNat < q := by omega
      refine ⟨?_, ?_, ?_, ?_, ?_⟩
      · unfold pcR
        rw [nA_Ec, nA_0, nA_1, nA_3, nA_4, nA_5, nA_2 ip, oE _ pi, o 0 _ pi (by decide), o 2 _ pi (by decide)]
        refine ⟨⟨ip, hin.1.2⟩, ⟨hK, by rw [show t + 1 - 1 = t by omega]; exact hk.symm⟩, ⟨by omega, hv, h5, by unfold aLast at hE; exact hE⟩, hnz, ⟨hz, hb⟩, by omega, ?_⟩
        have := bI_r (kHold k)
        cases hh : kHold k
        · have : bI false = 0 := rfl
          omega
        · have := (hH hh).2
          have : bI true = 1 := rfl
          omega
      · unfold pcV
        rw [nA_Ec, nA_0, nA_4, nA_5]
        exact ⟨hvl.symm, hT, h8, fun z => (hH z).1⟩
      · unfold pcN
        rw [nA_1, nA_3, nA_4, o 0 _ pi (by decide), aDup_ext (fun co x hx hc => o co x hx hc)]
        intro z
        exact hnmr.1 z
      · unfold pcM
        rw [nA_1, nA_3, nA_4, o 0 _ pi (by decide), cC_ext (fun x hx => o 1 x hx (by decide))]
        intro z
        have e6 := hC ins.toNat pi
        rw [show ((ins.toNat : Nat) : Int) = ins by omega] at e6
        rw [← e6]
        exact hnmr.2 z
      · unfold pcO
        intro j x y
        rw [nA_1] at x ⊢
        rw [o 1 j y (by decide)]
        exact hS.2 j x y
    · exact pcK_ext a (fun co x hx hc => o co x (by omega) hc) (h1 q a (by omega))
  · by_cases e : q = c
    · subst e
      rw [nA_1] at d ⊢
      rw [nA_3, o 4 _ (by omega) (by decide)]
      have := (hL.2 ins.toNat (by omega) hin.1.2 (fun j x y => by have := d j (by omega) y; rw [o 1 j y (by decide)] at this; intro w; exact this (by omega))).2 (by omega)
      omega
    · have qc : q < c := by omega
      have r := (h1 q a qc).1.1.1
      rw [o 1 q qc (by decide)] at d ⊢
      rw [o 3 q qc (by decide), o 4 _ (by omega) (by decide)]
      exact hB.1 q a qc (fun j x y => by have := d j x y; rw [o 1 j (by omega) (by decide)] at this; exact this)
  · have qc : q < c := by omega
    rw [o 1 q qc (by decide)] at e g
    rw [oE q qc]
    by_cases e2 : r = c
    · subst e2
      rw [nA_1] at e
      rw [nA_3]
      have := (hL.1 q a qc (fun j x y => by have := g j x y; rw [o 1 j y (by decide)] at this; exact this)).2 e.symm
      omega
    · have rc : r < c := by omega
      rw [o 1 r rc (by decide)] at e
      rw [o 3 r rc (by decide)]
      exact hB.2 q r a b rc e (fun j x y => by have := g j x y; rw [o 1 j (by omega) (by decide)] at this; exact this)
  · by_cases e : q = c
    · subst e
      rw [nA_1, nA_Ec, hop _ (by omega)]
      refine ⟨fun z => absurd hopi z, fun z => ?_⟩
      by_cases hh : kHold k = true
      · rw [if_pos hh] at z; omega
      · rw [if_neg hh]
    · have qc : q < c := by omega
      have r := (h1 q a qc).1.1.1
      have dc := d c (by omega) (by omega)
      rw [nA_1, o 1 q qc (by decide)] at dc
      rw [o 1 q qc (by decide), oE q qc, oE _ (by omega), hop _ (by omega)]
      refine ⟨(hL.1 q a qc (fun j x y => by have := d j x (by omega); rw [o 1 j y (by decide), o 1 q qc (by decide)] at this; exact this)).1, fun z => ?_⟩
      exfalso
      by_cases hh : kHold k = true
      · rw [if_pos hh] at z; omega
      · rw [if_neg hh] at z; exact dc z.symm
  · by_cases e : p = c
    · subst e
      rw [nA_0] at b
      rw [if_pos b, if_pos b, nA_4]
      refine ⟨fun z => absurd ⟨by omega, fun j x y => by omega⟩ z, fun _ => rfl⟩
    · have pc : p < c := by omega
      have dc := d c (by omega) (by omega)
      rw [nA_1] at dc
      rw [o 0 p pc (by decide)] at b
      rw [o 4 p pc (by decide), oE p pc, hop p pc]
      refine ⟨(hL.2 p pc b (fun j x y => by have := d j x (by omega); rw [o 1 j y (by decide)] at this; exact this)).1, fun z => ?_⟩
      exfalso
      by_cases hh : kHold k = true
      · rw [if_pos hh] at z; omega
      · rw [if_neg hh] at z; exact dc z.symm
  · by_cases e : p = c
    · subst e
      rw [nA_0] at b
      rw [if_pos b] at z
      exact absurd ⟨by omega, fun j x y => by omega⟩ z
    · have pc : p < c := by omega
      rw [o 0 p pc (by decide)] at b
      rw [oE p pc]
      exact hZ p pc b (fun w => z ((hop p pc).mpr w))
  · show nApp T c k ins (t + 1) v vl 6 q = cC _ _ c + _
    rw [nA_1, cC_ext (fun x hx => o 1 x hx (by decide))]
    by_cases e : q = c
    · subst e
      rw [nA_6, if_neg (by omega), cC_0 (fun x hx => ?_)]
      · rfl
      · intro w
        by_cases x0 : x = 0
        · subst x0; have := h0.2.1.2.1; omega
        · have := (h1 x (by omega) hx).1.1.1; omega
    · rw [nA_6o e ip, hC q (by omega)]
      by_cases e2 : q = ins.toNat
      · rw [if_pos e2, if_pos (by omega)]
      · rw [if_neg e2, if_neg (by omega)]
  · by_cases hh : kHold k = true
    · rw [if_pos hh, if_pos hh]
      refine ⟨⟨by omega, by omega⟩, ?_, by omega, ?_⟩
      · rw [show ((c : Int)).toNat = c by omega, nA_0]; exact hh
      · have := (hH hh).1
        unfold aLast
        rw [show ((c : Int)).toNat = c by omega, nA_Ec]
        omega
    · rw [if_neg hh, if_neg hh]
      refine ⟨⟨hi, by omega⟩, ?_, by omega, ?_⟩
      · rw [o 0 _ (by omega) (by decide)]; exact hin.1.2
      · unfold aLast at hE ⊢
        rw [oE _ (by omega)]
        exact hE
  · by_cases hh : kHold k = true
    · rw [if_pos hh] at a; omega
    · rw [if_neg hh] at a ⊢
      by_cases e : j = c
      · subst e; rw [nA_1]; exact Int.le_refl _
      · rw [o 1 j (by omega) (by decide)]; exact hS.2 j a (by omega)
  · have ha : 0 ≤ (if kHold k = true then 4 else vl) := by split <;> omega
    have p1 := hP.1
    refine ⟨by omega, fun e => ?_⟩
    have p2 := hP.2 e
    have key : 3 * ((c : Int) + 1) ≤ v + (if kHold k = true then 4 else vl) ∧ (v - 1 = t + 1 ∨ kHold k = true ∨ ((∀ j : Nat, j < c → T 1 j = ins → ¬ T 4 j - 1 = T 3 j) → 3 * ((c : Int) + 1) + 1 ≤ v + (if kHold k = true then 4 else vl))) ∧ (kHold k = true → 3 * ((c : Int) + 1) + 1 ≤ v + (if kHold k = true then 4 else vl)) := by
      by_cases hh : kHold k = true
      · rw [if_pos hh]
        exact ⟨by omega, Or.inr (Or.inl hh), fun _ => by omega⟩
      · rw [if_neg hh]
        by_cases ev : v - 1 = t + 1
        · have q := p2.2 hi (fun j x y z => ?_)
          · exact ⟨by omega, Or.inl ev, fun z => absurd z hh⟩
          · by_cases e4 : T 0 ins.toNat = 4
            · rcases hnmr.2 e4 with w | w
              · rw [e] at w; cases w
              · unfold mNum at w
                have := bDigits_r (T 6 ins.toNat)
                rw [if_pos (by omega)] at w
                cases w
            · have dd := hnmr.1 e4
              have : aDup T f ins (t + 1) (v - 1 - (t + 1)) c = true := aDup_iff.mpr ⟨j, x, aSame_iff.mpr ⟨⟨y, by omega⟩, fun i i1 i2 => by omega⟩⟩
              rw [this] at dd
              cases dd
        · refine ⟨by omega, Or.inr (Or.inr (fun hq => ?_)), fun z => absurd z hh⟩
          have := p2.2 hi hq
          omega
    refine ⟨by have := key.1; omega, fun hi2 hq => ?_⟩
    by_cases hh : kHold k = true
    · have := key.2.2 hh; omega
    · rcases key.2.1 with w | w | w
      · have := hq c (by omega) (by rw [nA_1, if_neg hh])
        rw [nA_4, nA_3] at this
        omega
      · exact absurd w hh
      · have := w (fun j x y z => hq j (by omega) (by rw [o 1 j x (by decide), if_neg hh]; exact y) (by rw [o 4 j x (by decide), o 3 j x (by decide)]; exact z))
        omega
