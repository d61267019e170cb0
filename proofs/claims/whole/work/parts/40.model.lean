/-! THE REFERENCE: its state is a family of arrays (0 tape, 1 size, 2 bytes, 3 work, 4 parent, 5 begin, 6 nameEnd, 7 end, 8 depth, 9 ends, 10 box, 11 many, 12 row, 13 part) and of numbers (0 taped, 1 place, 2 worked, 3 nodes, 4 deepest, 5 fault, 6 lenient, 7 parts, 8 thrown) -/
abbrev MS : Type := (Nat → Nat → Int) × (Nat → Int)
abbrev MS.a (S : MS) : Nat → Nat → Int := S.1
abbrev MS.f (S : MS) : Nat → Int := S.2
def MS.st (S : MS) (k i : Nat) (v : Int) : MS := ⟨fun q x => if q = k ∧ x = i then v else S.a q x, S.f⟩
def MS.pf (S : MS) (j : Nat) (v : Int) : MS := ⟨S.a, fun q => if q = j then v else S.f q⟩
/-- n cells of array ks from os on, to array kd from od on -/
def MS.cp (S : MS) (kd od ks os n : Nat) : MS := ⟨fun q x => if q = kd ∧ od ≤ x ∧ x < od + n then S.a ks (os + (x - od)) else S.a q x, S.f⟩
theorem st_a {S : MS} {k i q x : Nat} {v : Int} : (S.st k i v).a q x = if q = k ∧ x = i then v else S.a q x := rfl
theorem pf_f {S : MS} {j q : Nat} {v : Int} : (S.pf j v).f q = if q = j then v else S.f q := rfl
theorem cp_a {S : MS} {kd od ks os n q x : Nat} : (S.cp kd od ks os n).a q x = if q = kd ∧ od ≤ x ∧ x < od + n then S.a ks (os + (x - od)) else S.a q x := rfl
theorem ms_ext {S T : MS} (h1 : ∀ q x, S.a q x = T.a q x) (h2 : ∀ j, S.f j = T.f j) : S = T := Prod.ext (funext fun q => funext fun x => h1 q x) (funext fun j => h2 j)
def mdSz : Nat → Nat
  | 0 => 2000 | 1 => 8 | 2 => 16000 | 3 => 4400 | 4 => 1000 | 5 => 1000 | 6 => 1000 | 7 => 1000 | 8 => 1000 | 9 => 20 | 10 => 20 | 11 => 20 | 12 => 20 | _ => 4200
def mlo : Nat → Int
  | 0 => 0 | 2 => 0 | 3 => 0 | 13 => 0 | _ => -1000000
def mhi : Nat → Int
  | 0 => 255 | 2 => 255 | 3 => 255 | 13 => 255 | _ => 1000000
def mdFs (L : Nat → Nat) (F : Nat → Int) : List Value := [.int (iI (F 8)), .ref (L 41), .int (iI (F 0)), .int (iI (F 1)), .ref (L 42), .ref (L 43), .ref (L 44), .int (iI (F 2)), .int (iI (F 3)), .ref (L 45), .ref (L 46), .ref (L 47), .ref (L 48), .ref (L 49), .int (iI (F 4)), .int (iI (F 5)), .int (iI (F 6)), .ref (L 50), .ref (L 51), .ref (L 52), .ref (L 53), .ref (L 54), .int (iI (F 7))]
/-- the reference's object in role 40, its arrays in roles 41 .. 54 -/
def mds (g : Nat → ClassId) (L : Nat → Nat) (κ : Nat → Option va_E) (S : MS) : Prop :=
  κ 40 = some (.inr (mdC, mdFs L S.f)) ∧ (∀ k, k < 14 → κ (41 + k) = some (.inl (g 1, mdSz k, .inl (fun x => iI (S.a k x))))) ∧ (∀ k x, mlo k ≤ S.a k x ∧ S.a k x ≤ mhi k) ∧ ∀ j, -1000000 ≤ S.f j ∧ S.f j ≤ 1000000
/-- what a call of it leaves: the answer v, the state S1, all other roles as they were -/
def mdQ (g : Nat → ClassId) (L : Nat → Nat) (κ : Nat → Option va_E) (v : Option Value) (S1 : MS) : Option Value → (Nat → Nat) → (Nat → Option va_E) → Prop := fun v1 L1 κ1 =>
  v1 = v ∧ L = L1 ∧ mds g L κ1 S1 ∧ ∀ r, (r < 40 ∨ 54 < r) → κ1 r = κ r
theorem mds_st {g : Nat → ClassId} {L : Nat → Nat} {κ κ1 : Nat → Option va_E} {S : MS} (h : mds g L κ S) {k i : Nat} {v : Int} (hk : k < 14) (he : κ1 (41 + k) = some (.inl (g 1, mdSz k, .inl (fun x => iI (va_up (S.a k) i v x))))) (hf : ∀ r, r ≠ 41 + k → κ1 r = κ r) (hv : mlo k ≤ v ∧ v ≤ mhi k) : mds g L κ1 (S.st k i v) := by
  refine ⟨(hf 40 (by omega)).trans h.1, fun q hq => ?_, fun q x => ?_, h.2.2.2⟩
  · by_cases e : q = k
    · subst e
      rw [he]
      congr 6
      funext x
      rw [st_a]
      unfold va_up
      by_cases e2 : x = i <;> simp [e2]
    · rw [hf (41 + q) (by omega), h.2.1 q hq]
      congr 6
      funext x
      rw [st_a, if_neg (fun z => e z.1)]
  · rw [st_a]
    split
    · rename_i e; rw [e.1]; exact hv
    · exact h.2.2.1 q x
theorem mds_pf {g : Nat → ClassId} {L : Nat → Nat} {κ κ1 : Nat → Option va_E} {S : MS} (h : mds g L κ S) {j : Nat} {v : Int} (he : κ1 40 = some (.inr (mdC, mdFs L (S.pf j v).f))) (hf : ∀ r, r ≠ 40 → κ1 r = κ r) (hv : -1000000 ≤ v ∧ v ≤ 1000000) : mds g L κ1 (S.pf j v) := by
  refine ⟨he, fun q hq => (hf (41 + q) (by omega)).trans (h.2.1 q hq), h.2.2.1, fun q => ?_⟩
  rw [pf_f]
  split
  · exact hv
  · exact h.2.2.2 q
theorem mds_cp {g : Nat → ClassId} {L : Nat → Nat} {κ : Nat → Option va_E} {S T : MS} (h : mds g L κ S) (e : S = T) : mds g L κ T := by rw [← e]; exact h
/-- the next cell of a copy that goes up -/
theorem cp_up {S : MS} {kd od ks os n : Nat} (h : kd ≠ ks ∨ od ≤ os) : (S.cp kd od ks os n).st kd (od + n) ((S.cp kd od ks os n).a ks (os + n)) = S.cp kd od ks os (n + 1) := by
  refine ms_ext (fun q x => ?_) (fun j => rfl)
  rw [st_a, cp_a, cp_a, cp_a]
  by_cases e : q = kd
  · subst e
    by_cases e2 : x = od + n
    · subst e2
      rw [if_pos ⟨rfl, rfl⟩, if_neg (by rintro ⟨h1, h2⟩; omega), if_pos ⟨rfl, by omega, by omega⟩]
      congr 1
      omega
    · rw [if_neg (fun z => e2 z.2)]
      by_cases e3 : od ≤ x ∧ x < od + n
      · rw [if_pos ⟨rfl, e3⟩, if_pos ⟨rfl, by omega, by omega⟩]
      · rw [if_neg (fun z => e3 z.2), if_neg (by rintro ⟨_, h2⟩; omega)]
  · rw [if_neg (fun z => e z.1), if_neg (fun z => e z.1), if_neg (fun z => e z.1)]
theorem cp_0 {S : MS} {kd od ks os : Nat} : S.cp kd od ks os 0 = S := by
  refine ms_ext (fun q x => ?_) (fun j => rfl)
  rw [cp_a]
  exact if_neg (by omega)
/-- the next cell of a copy that goes down -/
theorem cp_dn {S : MS} {kd od ks os n : Nat} (h : os ≤ od) : (S.cp kd (od + 1) ks (os + 1) n).st kd od ((S.cp kd (od + 1) ks (os + 1) n).a ks os) = S.cp kd od ks os (n + 1) := by
  refine ms_ext (fun q x => ?_) (fun j => rfl)
  rw [st_a, cp_a, cp_a, cp_a]
  by_cases e : q = kd
  · subst e
    by_cases e2 : x = od
    · subst e2
      rw [if_pos ⟨rfl, rfl⟩, if_neg (by rintro ⟨h1, h2⟩; omega), if_pos ⟨rfl, by omega, by omega⟩]
      congr 1
      omega
    · rw [if_neg (fun z => e2 z.2)]
      by_cases e3 : od + 1 ≤ x ∧ x < od + 1 + n
      · rw [if_pos ⟨rfl, e3⟩, if_pos ⟨rfl, by omega, by omega⟩]
        congr 1
        omega
      · rw [if_neg (fun z => e3 z.2), if_neg (by rintro ⟨_, h2⟩; omega)]
  · rw [if_neg (fun z => e z.1), if_neg (fun z => e z.1), if_neg (fun z => e z.1)]
theorem lI_and255 (a : Int) : lI a &&& lI 255 = lI (a % 256) := by
  apply Int64.toBitVec_inj.mp
  apply BitVec.eq_of_toNat_eq
  rw [Int64.toBitVec_and, BitVec.toNat_and, lI_bv, lI_bv, lI_bv]
  rw [show ((255 : Int) % 18446744073709551616).toNat = 2 ^ 8 - 1 from rfl, Nat.and_two_pow_sub_one_eq_mod]
  omega
theorem ia_land255 {p : Program} {l : Launch} {e : Env} {R : Room} {s : State} {m : MethodId} {args : Array Value} {below : List Frame} {meth : Method} {c : Code} {H : Heap} {locs : List Loc} {cells slots : Nat} {Q : State → Prop} {cc : ByteArray} {pc : Nat} {ls : Array Slot} {rest : List Value} (hexec : p.tables.exec = Jvm.exec) (hb : c.code = cc) {a : Int} (hdg : decode cc pc = .ok (.land, 1)) (kk : W p l e R s m args below meth c H locs cells slots Q (F0 m (pc + 1) ls (.long (lI (a % 256)) :: rest))) : W p l e R s m args below meth c H locs cells slots Q (F0 m pc ls (.long (lI 255) :: .long (lI a) :: rest)) := lv_land hexec hb hdg (by rw [lI_and255 a]; exact kk)
def mPutN (v : Int) : Nat → Int → MS → MS
  | 0, _, S => S
  | N + 1, k, S => mPutN v N (k + (-8)) ((S.st 0 (S.f 0).toNat (v / 2 ^ k.toNat % 256)).pf 0 (S.f 0 + 1))
def mPut (v : Int) (S : MS) : MS := mPutN v 4 24 S
theorem mPutN_f (v : Int) : ∀ (N : Nat) (k : Int) (S : MS), (mPutN v N k S).f 0 = S.f 0 + N := by
  intro N
  induction N with
  | zero => intro k S; show S.f 0 = S.f 0 + 0; omega
  | succ N ih =>
    intro k S
    show (mPutN v N _ _).f 0 = _
    rw [ih]
    show S.f 0 + 1 + N = _
    omega
theorem mPut_f (v : Int) (S : MS) : (mPut v S).f 0 = S.f 0 + 4 := mPutN_f v 4 24 S
def mFeed (a b c d e : Int) (S : MS) : Int × MS := if 2000 < S.f 0 + 20 then (-1, S) else ((mPut e (mPut d (mPut c (mPut b (mPut a S))))).f 0, mPut e (mPut d (mPut c (mPut b (mPut a S)))))
def mStop (y x : Int) (S : MS) : MS := if ¬ S.f 5 = 0 then S else (S.pf 5 y).pf 1 x
theorem mStop_nz {y x : Int} {S : MS} (hy : y ≠ 0) : ¬ (mStop y x S).f 5 = 0 := by
  unfold mStop
  split
  · assumption
  · exact hy
theorem mStop_a {y x : Int} {S : MS} : (mStop y x S).a = S.a := by
  unfold mStop
  split <;> rfl
def mLowN (f : Nat → Int) (at_ : Int) : Nat → Int → Int
  | 0, acc => acc
  | N + 1, acc => mLowN f at_ N (acc * 256 + f (at_ + N).toNat)
def mLow (f : Nat → Int) (at_ n : Int) : Int := mLowN f at_ n.toNat 0
theorem mLow4 (f : Nat → Int) (a : Int) : mLow f a 4 = ((f (a + 3).toNat * 256 + f (a + 2).toNat) * 256 + f (a + 1).toNat) * 256 + f (a + 0).toNat := by
  unfold mLow
  rw [show (4 : Int).toNat = 4 from rfl]
  simp [mLowN]
theorem mLow4_r {f : Nat → Int} (hf : ∀ x, 0 ≤ f x ∧ f x ≤ 255) (a : Int) : 0 ≤ mLow f a 4 ∧ mLow f a 4 < 4294967296 := by
  rw [mLow4]
  have := hf (a + 3).toNat
  have := hf (a + 2).toNat
  have := hf (a + 1).toNat
  have := hf (a + 0).toNat
  omega
/-! characters -/
def mLen (x : Int) : Int := if x < 128 then 1 else if 192 ≤ x ∧ x < 224 then 2 else if 224 ≤ x ∧ x < 240 then 3 else if 240 ≤ x ∧ x < 248 then 4 else 0
def mLeast (n : Int) : Int := if n = 2 then 128 else if n = 3 then 2048 else 65536
def mBase (n : Int) : Int := if n = 2 then 192 else if n = 3 then 224 else 240
def mChE (n v : Int) : Int := if v < mLeast n ∨ 1114111 < v ∨ (55295 < v ∧ v < 57344) then 0 else n
def mChN (f : Nat → Int) (at_ n : Int) : Nat → Int → Int → Int
  | 0, _, v => mChE n v
  | N + 1, k, v => if f (at_ + k).toNat < 128 ∨ 191 < f (at_ + k).toNat then 0 else mChN f at_ n N (k + 1) (64 * v + f (at_ + k).toNat - 128)
def mChar (f : Nat → Int) (at_ to : Int) : Int :=
  if f at_.toNat < 128 then 1 else if mLen (f at_.toNat) = 0 ∨ to < at_ + mLen (f at_.toNat) then 0
  else mChN f at_ (mLen (f at_.toNat)) (mLen (f at_.toNat) - 1).toNat 1 (f at_.toNat - mBase (mLen (f at_.toNat)))
theorem mChN_0 {f : Nat → Int} {at_ n k v : Int} (h : n ≤ k) : mChN f at_ n (n - k).toNat k v = mChE n v := by
  rw [show (n - k).toNat = 0 by omega]
  rfl
theorem mChN_s {f : Nat → Int} {at_ n k v : Int} (h : k < n) : mChN f at_ n (n - k).toNat k v = if f (at_ + k).toNat < 128 ∨ 191 < f (at_ + k).toNat then 0 else mChN f at_ n (n - (k + 1)).toNat (k + 1) (64 * v + f (at_ + k).toNat - 128) := by
  rw [show (n - k).toNat = (n - (k + 1)).toNat + 1 by omega]
  rfl
theorem mLen_r (x : Int) : mLen x = 0 ∨ mLen x = 1 ∨ mLen x = 2 ∨ mLen x = 3 ∨ mLen x = 4 := by
  unfold mLen
  (repeat' split) <;> omega
theorem mChE_r {n v : Int} : mChE n v = 0 ∨ mChE n v = n := by
  unfold mChE
  split <;> omega
theorem mChN_r {f : Nat → Int} {at_ n : Int} : ∀ (N : Nat) (k v : Int), mChN f at_ n N k v = 0 ∨ mChN f at_ n N k v = n := by
  intro N
  induction N with
  | zero => intro k v; exact mChE_r
  | succ N ih =>
    intro k v
    unfold mChN
    split
    · exact Or.inl rfl
    · exact ih _ _
theorem mChar_r (f : Nat → Int) (at_ to : Int) : mChar f at_ to = 0 ∨ (1 ≤ mChar f at_ to ∧ mChar f at_ to ≤ 4 ∧ (mChar f at_ to = 1 ∨ at_ + mChar f at_ to ≤ to)) := by
  unfold mChar
  split
  · omega
  · split
    · exact Or.inl rfl
    · have h1 := mLen_r (f at_.toNat)
      rcases mChN_r (f := f) (at_ := at_) (n := mLen (f at_.toNat)) (mLen (f at_.toNat) - 1).toNat 1 (f at_.toNat - mBase (mLen (f at_.toNat))) with h | h
      · exact Or.inl h
      · rw [h]; omega
def mBadN (f : Nat → Int) (to : Int) : Nat → Int → Int
  | 0, _ => -1
  | N + 1, k => if k < to then (if mChar f k to = 0 then k else mBadN f to N (k + mChar f k to)) else -1
def mBad (f : Nat → Int) (at_ to : Int) : Int := mBadN f to (to - at_).toNat at_
theorem mBadN_e {f : Nat → Int} {to : Int} {N : Nat} {k : Int} (h : to ≤ k) : mBadN f to N k = -1 := by
  cases N with
  | zero => rfl
  | succ N => exact if_neg (by omega)
theorem mBadN_b {f : Nat → Int} {to : Int} {N : Nat} {k : Int} (hN : 0 < N) (h : k < to) (h2 : mChar f k to = 0) : mBadN f to N k = k := by
  cases N with
  | zero => omega
  | succ N => unfold mBadN; rw [if_pos h, if_pos h2]
theorem mBadN_s {f : Nat → Int} {to : Int} {N : Nat} {k : Int} (hN : 0 < N) (h : k < to) (h2 : ¬ mChar f k to = 0) : mBadN f to N k = mBadN f to (N - 1) (k + mChar f k to) := by
  cases N with
  | zero => omega
  | succ N =>
    show mBadN f to (N + 1) k = mBadN f to N (k + mChar f k to)
    conv => lhs; unfold mBadN
    rw [if_pos h, if_neg h2]
theorem mBadN_r {f : Nat → Int} {to : Int} : ∀ (N : Nat) (k : Int), mBadN f to N k = -1 ∨ (k ≤ mBadN f to N k ∧ mBadN f to N k < to) := by
  intro N
  induction N with
  | zero => intro k; exact Or.inl rfl
  | succ N ih =>
    intro k
    have := ih (k + mChar f k to)
    have := mChar_r f k to
    unfold mBadN
    split
    · split <;> omega
    · exact Or.inl rfl
theorem mBad_r (f : Nat → Int) (a to : Int) : mBad f a to = -1 ∨ (a ≤ mBad f a to ∧ mBad f a to < to) := mBadN_r _ _
/-! opens -/
def mOpA (at_ left op : Int) (S : MS) : MS :=
  if mLow (S.a 3) at_ 4 < 5 ∨ (op = 0 ∧ mLow (S.a 3) at_ 4 < left) then mStop 2 at_ S else if left < mLow (S.a 3) at_ 4 then mStop 1 at_ S else if op = 16 then mStop 8 at_ S else S
def mOpB (at_ n op nd : Int) (r : Bool) (S : MS) : MS := ((((S.st 9 op.toNat (at_ + n)).st 10 op.toNat nd).st 11 op.toNat 0).st 12 op.toNat (bI r)).pf 4 (if S.f 4 < op + 1 then op + 1 else S.f 4)
def mOpens (at_ left op nd : Int) (r : Bool) (S : MS) : Bool × MS :=
  if left < 4 then (false, mStop 1 at_ S) else if ¬ (mOpA at_ left op S).f 5 = 0 then (false, mOpA at_ left op S) else (true, mOpB at_ (mLow (S.a 3) at_ 4) op nd r (mOpA at_ left op S))
/-! digits -/
def mDigN : Nat → Int → Int
  | 0, l => l
  | N + 1, l => mDigN N (l / 10)
def mDigit (v k : Int) : Int := 48 + mDigN (bDigits v - 1 - k).toNat v % 10
theorem mDigN_e {i k l : Int} (h : i ≤ k) : mDigN (i - k).toNat l = l := by
  rw [show (i - k).toNat = 0 by omega]
  rfl
theorem mDigN_s {i k l : Int} (h : k < i) : mDigN (i - k).toNat l = mDigN (i + (-1) - k).toNat (l / 10) := by
  rw [show (i - k).toNat = (i + (-1) - k).toNat + 1 by omega]
  rfl
theorem mDigit_r (v k : Int) : 48 ≤ mDigit v k ∧ mDigit v k ≤ 57 := by
  unfold mDigit
  omega
def mNumN (f : Nat → Int) (at_ v : Int) : Nat → Int → Bool
  | 0, _ => true
  | N + 1, k => if f (at_ + k).toNat = mDigit v k then mNumN f at_ v N (k + 1) else false
def mNum (f : Nat → Int) (at_ to v : Int) : Bool := if ¬ to - at_ = bDigits v then false else mNumN f at_ v (to - at_).toNat 0
theorem mNumN_e {f : Nat → Int} {at_ v n k : Int} (h : n ≤ k) : mNumN f at_ v (n - k).toNat k = true := by
  rw [show (n - k).toNat = 0 by omega]
  rfl
theorem mNumN_s {f : Nat → Int} {at_ v n k : Int} (h : k < n) : mNumN f at_ v (n - k).toNat k = if f (at_ + k).toNat = mDigit v k then mNumN f at_ v (n - (k + 1)).toNat (k + 1) else false := by
  rw [show (n - k).toNat = (n - (k + 1)).toNat + 1 by omega]
  rfl
/-! names -/
def mSmN (f : Nat → Int) (p : Int) (h : Nat → Int) (q : Int) : Nat → Int → Bool
  | 0, _ => true
  | N + 1, i => if f (p + i).toNat = h (q + i).toNat then mSmN f p h q N (i + 1) else false
def mSm (f : Nat → Int) (p : Int) (h : Nat → Int) (q n i : Int) : Bool := mSmN f p h q (n - i).toNat i
theorem mSm_e {f : Nat → Int} {p : Int} {h : Nat → Int} {q n i : Int} (hi : n ≤ i) : mSm f p h q n i = true := by
  unfold mSm
  rw [show (n - i).toNat = 0 by omega]
  rfl
theorem mSm_s {f : Nat → Int} {p : Int} {h : Nat → Int} {q n i : Int} (hi : i < n) : mSm f p h q n i = if f (p + i).toNat = h (q + i).toNat then mSm f p h q n (i + 1) else false := by
  unfold mSm
  rw [show (n - i).toNat = (n - (i + 1)).toNat + 1 by omega]
  rfl
/-- row k of the table is an element of bx, and its name is the n letters of h at q -/
def mHit (S : MS) (bx : Int) (h : Nat → Int) (q n k : Int) : Bool := decide (S.a 4 k.toNat = bx ∧ S.a 6 k.toNat - S.a 5 k.toNat - 1 = n) && mSm (S.a 3) (S.a 5 k.toNat + 1) h q n 0
def mFdN (S : MS) (bx : Int) (h : Nat → Int) (q n : Int) : Nat → Int → Int
  | 0, _ => -1
  | N + 1, k => if mHit S bx h q n k = true then k else mFdN S bx h q n N (k + 1)
def mFd (S : MS) (bx : Int) (h : Nat → Int) (q n k : Int) : Int := mFdN S bx h q n (S.f 3 - k).toNat k
theorem mFd_e {S : MS} {bx : Int} {h : Nat → Int} {q n k : Int} (hk : S.f 3 ≤ k) : mFd S bx h q n k = -1 := by
  unfold mFd
  rw [show (S.f 3 - k).toNat = 0 by omega]
  rfl
theorem mFd_s {S : MS} {bx : Int} {h : Nat → Int} {q n k : Int} (hk : k < S.f 3) : mFd S bx h q n k = if mHit S bx h q n k = true then k else mFd S bx h q n (k + 1) := by
  unfold mFd
  rw [show (S.f 3 - k).toNat = (S.f 3 - (k + 1)).toNat + 1 by omega]
  rfl
theorem mFdN_r {S : MS} {bx : Int} {h : Nat → Int} {q n : Int} : ∀ (N : Nat) (k : Int), mFdN S bx h q n N k = -1 ∨ (k ≤ mFdN S bx h q n N k ∧ mFdN S bx h q n N k < k + N) := by
  intro N
  induction N with
  | zero => intro k; exact Or.inl rfl
  | succ N ih =>
    intro k
    have := ih (k + 1)
    unfold mFdN
    split <;> omega
theorem mFd_r {S : MS} {bx : Int} {h : Nat → Int} {q n k : Int} (hk : k ≤ S.f 3) : mFd S bx h q n k = -1 ∨ (k ≤ mFd S bx h q n k ∧ mFd S bx h q n k < S.f 3) := by
  have := mFdN_r (S := S) (bx := bx) (h := h) (q := q) (n := n) (S.f 3 - k).toNat k
  unfold mFd
  omega
def mIsName (fr to op : Int) (S : MS) : Bool :=
  if S.a 12 (op - 1).toNat = 1 then (if ¬ S.f 6 = 0 then true else mNum (S.a 3) fr to (S.a 11 (op - 1).toNat)) else decide (mFd S (S.a 10 (op - 1).toNat) (S.a 3) fr (to - fr) 1 = -1)
/-- the names in the table lie in the work -/
def mTab (S : MS) : Prop := (0 ≤ S.f 3 ∧ S.f 3 ≤ 999) ∧ ∀ k : Nat, 1 ≤ k → k < S.f 3 → 0 ≤ S.a 5 k ∧ S.a 6 k ≤ 4300
/-! values -/
def mWid (k : Int) : Int := if k = 16 then 4 else if k = 18 then 8 else 1
def mTxA (at_ last : Int) (S : MS) : MS := if mLow (S.a 3) at_ 4 < 1 then mStop 6 at_ S else if last - at_ - 4 < mLow (S.a 3) at_ 4 then mStop 1 at_ S else S
def mTxB (z : Int) (S : MS) : MS := if ¬ S.a 3 (z - 1).toNat = 0 then mStop 6 (z - 1) S else S
def mTxC (at_ z : Int) (S : MS) : MS := if mBad (S.a 3) (at_ + 4) (z - 1) < 0 then S else mStop 4 (mBad (S.a 3) (at_ + 4) (z - 1)) S
def mText (at_ last : Int) (S : MS) : Int × MS :=
  if last - at_ < 4 then (at_, mStop 1 at_ S) else if ¬ (mTxA at_ last S).f 5 = 0 then (at_, mTxA at_ last S)
  else (at_ + 4 + mLow (S.a 3) at_ 4, mTxC at_ (at_ + 4 + mLow (S.a 3) at_ 4) (mTxB (at_ + 4 + mLow (S.a 3) at_ 4) (mTxA at_ last S)))
def mValN (k at_ last : Int) (S : MS) : MS := if last - at_ < mWid k then mStop 1 at_ S else if k = 8 ∧ 1 < S.a 3 at_.toNat then mStop 5 at_ S else S
def mValue (k at_ last : Int) (S : MS) : Int × MS := if k = 16 ∨ k = 18 ∨ k = 8 then (at_ + mWid k, mValN k at_ last S) else if k = 2 then mText at_ last S else (at_, S)
/-! elements -/
def mNzN (f : Nat → Int) (last : Int) : Nat → Int → Int
  | 0, t => t
  | N + 1, t => if t < last ∧ ¬ f t.toNat = 0 then mNzN f last N (t + 1) else t
def mNz (f : Nat → Int) (last t : Int) : Int := mNzN f last (last - t).toNat t
theorem mNz_s {f : Nat → Int} {last t : Int} (h : t < last) (h2 : ¬ f t.toNat = 0) : mNz f last t = mNz f last (t + 1) := by
  unfold mNz
  rw [show (last - t).toNat = (last - (t + 1)).toNat + 1 by omega]
  exact if_pos ⟨h, h2⟩
theorem mNz_e {f : Nat → Int} {last t : Int} (h : last ≤ t ∨ f t.toNat = 0) : mNz f last t = t := by
  unfold mNz
  cases hN : (last - t).toNat with
  | zero => rfl
  | succ N => exact if_neg (by omega)
def mElA (fr to op : Int) (S : MS) : MS := if mBad (S.a 3) fr to < 0 then (if mIsName fr to op S = true then S else mStop 7 fr S) else mStop 4 (mBad (S.a 3) fr to) S
def mElC (at_ to op : Int) (S : MS) : MS :=
  (((((S.pf 3 (S.f 3 + 1)).st 4 (S.f 3).toNat (S.a 10 (op - 1).toNat)).st 5 (S.f 3).toNat at_).st 6 (S.f 3).toNat to).st 11 (op - 1).toNat (S.a 11 (op - 1).toNat + 1)).st 8 (S.f 3).toNat (op + (if S.a 3 at_.toNat = 3 ∨ S.a 3 at_.toNat = 4 then 1 else 0))
def mElD (at_ to last op : Int) (S : MS) : Int × MS := mValue (S.a 3 at_.toNat) (to + 1) last (mElC at_ to op S)
def mElE (at_ to last op : Int) (S : MS) : MS := (mElD at_ to last op S).2.st 7 (S.f 3).toNat (mElD at_ to last op S).1
def mElR (at_ to last op : Int) (S : MS) : Int := if (mElD at_ to last op S).2.a 3 at_.toNat = 3 ∨ (mElD at_ to last op S).2.a 3 at_.toNat = 4 then to + 1 else (mElE at_ to last op S).a 7 (S.f 3).toNat
def mElem (at_ last op : Int) (S : MS) : Int × MS :=
  if last ≤ mNz (S.a 3) last (at_ + 1) then (mNz (S.a 3) last (at_ + 1), mStop 1 (at_ + 1) S)
  else if ¬ (mElA (at_ + 1) (mNz (S.a 3) last (at_ + 1)) op S).f 5 = 0 then (mNz (S.a 3) last (at_ + 1), mElA (at_ + 1) (mNz (S.a 3) last (at_ + 1)) op S)
  else (mElR at_ (mNz (S.a 3) last (at_ + 1)) last op (mElA (at_ + 1) (mNz (S.a 3) last (at_ + 1)) op S), mElE at_ (mNz (S.a 3) last (at_ + 1)) last op (mElA (at_ + 1) (mNz (S.a 3) last (at_ + 1)) op S))
