abbrev bxC : Nat := 0
abbrev ndC : Nat := 1
abbrev rdC : Nat := 2
abbrev dbC : Nat := 3
abbrev mdC : Nat := 4
/-- the classes of the arrays -/
abbrev tyL (g : Nat → ClassId) : List (ClassId × FieldType) := [(g 0, .byte), (g 1, .int), (g 2, .object "DocumentBytes$Bytes")]
/-- a Bytes: its object in role i, its row (n long) in role j; the first sz of b count -/
def bxs (g : Nat → ClassId) (L : Nat → Nat) (κ : Nat → Option va_E) (i j mo n sz : Nat) (b : Nat → Int) : Prop :=
  κ i = some (.inr (bxC, [.int (iI mo), .ref (L j), .int (iI sz)])) ∧ κ j = some (.inl (g 0, n, .inl (fun x => byt (b x)))) ∧ (sz ≤ n ∧ n ≤ mo ∧ mo ≤ 2005) ∧ (∀ x, 0 ≤ b x ∧ b x < 256) ∧ ∀ x, n ≤ x → b x = 0
/-- the Nodes: role 6, its columns 7 .. 13, cnt rows; the document in role d -/
def nds (g : Nat → ClassId) (L : Nat → Nat) (κ : Nat → Option va_E) (T : Nat → Nat → Int) (cnt d : Nat) : Prop :=
  κ 6 = some (.inr (ndC, [.ref (L 7), .ref (L 8), .ref (L 9), .ref (L 10), .ref (L 11), .ref (L 12), .ref (L 13), .ref (L d), .int (iI cnt)])) ∧ (∀ co, co < 7 → κ (7 + co) = some (.inl (g 1, 700, .inl (fun x => iI (T co x))))) ∧ cnt ≤ 700 ∧ (∀ co x, -1000000 ≤ T co x ∧ T co x ≤ 1000000) ∧ nInv T cnt
/-! the class Bytes in the world: object in role i, row in role j -/
theorem bxs_ne {g : Nat → ClassId} {L : Nat → Nat} {κ : Nat → Option va_E} {i j mo n sz : Nat} {b : Nat → Int} (hB : bxs g L κ i j mo n sz b) : i ≠ j := by
  intro h
  subst h
  have := hB.1.symm.trans hB.2.1
  cases this
theorem bxs_row {g : Nat → ClassId} {L : Nat → Nat} {κ κ1 : Nat → Option va_E} {i j mo n sz : Nat} {b b1 : Nat → Int} (hB : bxs g L κ i j mo n sz b) (e : κ1 j = some (.inl (g 0, n, .inl (fun x => byt (b1 x))))) (hk : ∀ r, r ≠ j → κ1 r = κ r) (h1 : ∀ x, 0 ≤ b1 x ∧ b1 x < 256) (h2 : ∀ x, n ≤ x → b1 x = 0) : bxs g L κ1 i j mo n sz b1 :=
  ⟨(hk i (bxs_ne hB)).trans hB.1, e, hB.2.2.1, h1, h2⟩
theorem bxs_sz {g : Nat → ClassId} {L : Nat → Nat} {κ κ1 : Nat → Option va_E} {i j mo n sz sz1 : Nat} {b : Nat → Int} (hB : bxs g L κ i j mo n sz b) (e : κ1 i = some (.inr (bxC, [.int (iI mo), .ref (L j), .int (iI sz1)]))) (hk : ∀ r, r ≠ i → κ1 r = κ r) (h : sz1 ≤ n) : bxs g L κ1 i j mo n sz1 b :=
  ⟨e, (hk j (Ne.symm (bxs_ne hB))).trans hB.2.1, ⟨h, hB.2.2.1.2⟩, hB.2.2.2⟩
/-- the world moved elsewhere -/
theorem bxs_keep {g : Nat → ClassId} {L L1 : Nat → Nat} {κ κ1 : Nat → Option va_E} {i j mo n sz : Nat} {b : Nat → Int} (hB : bxs g L κ i j mo n sz b) (h1 : κ1 i = κ i) (h2 : κ1 j = κ j) (h3 : L1 j = L j) : bxs g L1 κ1 i j mo n sz b :=
  ⟨by rw [h1, h3]; exact hB.1, h2.trans hB.2.1, hB.2.2⟩
/-- ends: nothing made (U), perhaps a new row (W) -/
def bxU (g : Nat → ClassId) (L : Nat → Nat) (κ : Nat → Option va_E) (i j mo n sz1 : Nat) (b1 : Nat → Int) : Option Value → (Nat → Nat) → (Nat → Option va_E) → Prop := fun v L1 κ1 =>
  v = none ∧ L = L1 ∧ bxs g L κ1 i j mo n sz1 b1 ∧ ∀ r, r ≠ i → r ≠ j → κ1 r = κ r
def bxW (g : Nat → ClassId) (L : Nat → Nat) (κ : Nat → Option va_E) (i j mo sz1 : Nat) (b1 : Nat → Int) : Option Value → (Nat → Nat) → (Nat → Option va_E) → Prop := fun v L1 κ1 =>
  ∃ n1 : Nat, v = none ∧ (∀ r, r ≠ j → L1 r = L r) ∧ bxs g L1 κ1 i j mo n1 sz1 b1 ∧ ∀ r, r ≠ i → r ≠ j → κ1 r = κ r
theorem nds_begin {g : Nat → ClassId} {L : Nat → Nat} {κ κ1 : Nat → Option va_E} {T : Nat → Nat → Int} {cnt d d2 : Nat} (hN : nds g L κ T cnt d) (e : κ1 6 = some (.inr (ndC, [.ref (L 7), .ref (L 8), .ref (L 9), .ref (L 10), .ref (L 11), .ref (L 12), .ref (L 13), .ref (L d2), .int (iI 0)]))) (hk : ∀ r, r ≠ 6 → κ1 r = κ r) : nds g L κ1 T 0 d2 :=
  ⟨e, fun co h => (hk (7 + co) (by omega)).trans (hN.2.1 co h), Nat.zero_le _, hN.2.2.2.1, hN.2.2.2.2.1, fun x hx => absurd hx (Nat.not_lt_zero x), hN.2.2.2.2.2.2⟩
theorem nds_keep {g : Nat → ClassId} {L L1 : Nat → Nat} {κ κ1 : Nat → Option va_E} {T : Nat → Nat → Int} {cnt d : Nat} (hN : nds g L κ T cnt d) (hk : ∀ r, 6 ≤ r → r < 14 → κ1 r = κ r) (hL : ∀ r, 6 ≤ r → r < 14 → L1 r = L r) (hd : L1 d = L d) : nds g L1 κ1 T cnt d :=
  ⟨by rw [hk 6 (by omega) (by omega), hL 7 (by omega) (by omega), hL 8 (by omega) (by omega), hL 9 (by omega) (by omega), hL 10 (by omega) (by omega), hL 11 (by omega) (by omega), hL 12 (by omega) (by omega), hL 13 (by omega) (by omega), hd]; exact hN.1, fun co h => (hk (7 + co) (by omega) (by omega)).trans (hN.2.1 co h), hN.2.2⟩
theorem nds_app {g : Nat → ClassId} {L : Nat → Nat} {κ κ1 : Nat → Option va_E} {T : Nat → Nat → Int} {cnt d : Nat} {k pa nm va vl : Int} {f0 f1 f2 f3 f4 f5 f6 : Nat → Int} (hN : nds g L κ T cnt d) (hc : cnt < 700)
    (e6 : κ1 6 = some (.inr (ndC, [.ref (L 7), .ref (L 8), .ref (L 9), .ref (L 10), .ref (L 11), .ref (L 12), .ref (L 13), .ref (L d), .int (iI (cnt + 1))])))
    (e7 : κ1 7 = some (.inl (g 1, 700, .inl (fun x => iI (f0 x))))) (e8 : κ1 8 = some (.inl (g 1, 700, .inl (fun x => iI (f1 x))))) (e9 : κ1 9 = some (.inl (g 1, 700, .inl (fun x => iI (f2 x))))) (e10 : κ1 10 = some (.inl (g 1, 700, .inl (fun x => iI (f3 x))))) (e11 : κ1 11 = some (.inl (g 1, 700, .inl (fun x => iI (f4 x))))) (e12 : κ1 12 = some (.inl (g 1, 700, .inl (fun x => iI (f5 x))))) (e13 : κ1 13 = some (.inl (g 1, 700, .inl (fun x => iI (f6 x)))))
    (q : (∀ x, f0 x = nApp T cnt k pa nm va vl 0 x) ∧ (∀ x, f1 x = nApp T cnt k pa nm va vl 1 x) ∧ (∀ x, f3 x = nApp T cnt k pa nm va vl 3 x) ∧ (∀ x, f4 x = nApp T cnt k pa nm va vl 4 x) ∧ ∀ x, f5 x = nApp T cnt k pa nm va vl 5 x) (q2 : (∀ x, f2 x = nApp T cnt k pa nm va vl 2 x) ∧ ∀ x, f6 x = nApp T cnt k pa nm va vl 6 x)
    (h0 : -1000000 ≤ k ∧ k ≤ 1000000) (h1 : -1000000 ≤ pa ∧ pa ≤ 1000000) (h2 : -1000000 ≤ nm ∧ nm ≤ 1000000) (h3 : -1000000 ≤ va ∧ va ≤ 1000000) (h4 : -1000000 ≤ vl ∧ vl ≤ 1000000) : nds g L κ1 (nApp T cnt k pa nm va vl) (cnt + 1) d := by
  refine ⟨e6, fun co h => ?_, hc, nApp_r hc hN.2.2.2.1 hN.2.2.2.2 h0 h1 h2 h3 h4, nApp_inv hN.2.2.2.2⟩
  rcases (show co = 0 ∨ co = 1 ∨ co = 2 ∨ co = 3 ∨ co = 4 ∨ co = 5 ∨ co = 6 by omega) with rfl | rfl | rfl | rfl | rfl | rfl | rfl
  · rw [show (fun x => iI (nApp T cnt k pa nm va vl 0 x)) = fun x => iI (f0 x) from funext fun x => by rw [q.1 x]]; exact e7
  · rw [show (fun x => iI (nApp T cnt k pa nm va vl 1 x)) = fun x => iI (f1 x) from funext fun x => by rw [q.2.1 x]]; exact e8
  · rw [show (fun x => iI (nApp T cnt k pa nm va vl 2 x)) = fun x => iI (f2 x) from funext fun x => by rw [q2.1 x]]; exact e9
  · rw [show (fun x => iI (nApp T cnt k pa nm va vl 3 x)) = fun x => iI (f3 x) from funext fun x => by rw [q.2.2.1 x]]; exact e10
  · rw [show (fun x => iI (nApp T cnt k pa nm va vl 4 x)) = fun x => iI (f4 x) from funext fun x => by rw [q.2.2.2.1 x]]; exact e11
  · rw [show (fun x => iI (nApp T cnt k pa nm va vl 5 x)) = fun x => iI (f5 x) from funext fun x => by rw [q.2.2.2.2 x]]; exact e12
  · rw [show (fun x => iI (nApp T cnt k pa nm va vl 6 x)) = fun x => iI (f6 x) from funext fun x => by rw [q2.2 x]]; exact e13
/-- the Reader: role 14; the tape's bytes are role 2 -/
def rds (L : Nat → Nat) (κ : Nat → Option va_E) (ra ri rf rp : Int) : Prop := κ 14 = some (.inr (rdC, [.ref (L 6), .ref (L 2), .int (iI ra), .int (iI ri), .int (iI rf), .int (iI rp)]))
def rdQ (g : Nat → ClassId) (L : Nat → Nat) (κ : Nat → Option va_E) (s : rS) : Option Value → (Nat → Nat) → (Nat → Option va_E) → Prop := fun v L1 κ1 =>
  v = none ∧ L = L1 ∧ rds L κ1 s.1 s.2.1 s.2.2.1 s.2.2.2.1 ∧ nds g L κ1 s.2.2.2.2.1 s.2.2.2.2.2 2 ∧ ∀ r, (r < 6 ∨ 14 < r) → κ1 r = κ r
