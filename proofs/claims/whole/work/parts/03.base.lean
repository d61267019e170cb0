/-! NUMBERS: every int is 'iI a' of an Int a, every long 'lI a', every byte 'byt a' -/
def iI (a : Int) : Int32 := Int32.ofInt a
def lI (a : Int) : Int64 := Int64.ofInt a
def byt (a : Int) : Int32 := (iI a).toInt8.toInt32
def bI (x : Bool) : Int := if x then 1 else 0
theorem bI_t : bI true = 1 := rfl
theorem bI_f : bI false = 0 := rfl
theorem bI_r (x : Bool) : 0 ≤ bI x ∧ bI x ≤ 1 := by cases x <;> decide
theorem iI_toInt {a : Int} (h : -2147483648 ≤ a ∧ a < 2147483648) : (iI a).toInt = a := Int32.toInt_ofInt_of_le (by omega) (by omega)
theorem lI_toInt {a : Int} (h : -9223372036854775808 ≤ a ∧ a < 9223372036854775808) : (lI a).toInt = a := Int64.toInt_ofInt_of_le (by omega) (by omega)
theorem iI_self (x : Int32) : iI x.toInt = x := Int32.ofInt_toInt x
theorem lI_self (x : Int64) : lI x.toInt = x := Int64.ofInt_toInt x
theorem iI_r (x : Int32) : -2147483648 ≤ x.toInt ∧ x.toInt < 2147483648 := ⟨by have := x.le_toInt; omega, by have := x.toInt_lt; omega⟩
theorem lI_r (x : Int64) : -9223372036854775808 ≤ x.toInt ∧ x.toInt < 9223372036854775808 := ⟨by have := x.le_toInt; omega, by have := x.toInt_lt; omega⟩
theorem iI_add (a b : Int) : iI a + iI b = iI (a + b) := (Int32.ofInt_add a b).symm
theorem iI_sub (a b : Int) : iI a - iI b = iI (a - b) := (Int32.ofInt_sub a b).symm
theorem iI_mul (a b : Int) : iI a * iI b = iI (a * b) := (Int32.ofInt_mul a b).symm
theorem iI_neg (a : Int) : -iI a = iI (-a) := (Int32.ofInt_neg a).symm
theorem iI_inc (a n : Int) : iI a + Int32.ofInt n = iI (a + n) := iI_add a n
theorem lI_add (a b : Int) : lI a + lI b = lI (a + b) := (Int64.ofInt_add a b).symm
theorem lI_sub (a b : Int) : lI a - lI b = lI (a - b) := (Int64.ofInt_sub a b).symm
theorem iI_lt {a b : Int} (ha : -2147483648 ≤ a ∧ a < 2147483648) (hb : -2147483648 ≤ b ∧ b < 2147483648) : iI a < iI b ↔ a < b := by
  rw [Int32.lt_iff_toInt_lt, iI_toInt ha, iI_toInt hb]
theorem iI_le {a b : Int} (ha : -2147483648 ≤ a ∧ a < 2147483648) (hb : -2147483648 ≤ b ∧ b < 2147483648) : iI a ≤ iI b ↔ a ≤ b := by
  rw [Int32.le_iff_toInt_le, iI_toInt ha, iI_toInt hb]
theorem iI_eq {a b : Int} (ha : -2147483648 ≤ a ∧ a < 2147483648) (hb : -2147483648 ≤ b ∧ b < 2147483648) : iI a = iI b ↔ a = b :=
  ⟨fun h => by have := congrArg Int32.toInt h; rwa [iI_toInt ha, iI_toInt hb] at this, fun h => by rw [h]⟩
theorem lI_eq {a b : Int} (ha : -9223372036854775808 ≤ a ∧ a < 9223372036854775808) (hb : -9223372036854775808 ≤ b ∧ b < 9223372036854775808) : lI a = lI b ↔ a = b :=
  ⟨fun h => by have := congrArg Int64.toInt h; rwa [lI_toInt ha, lI_toInt hb] at this, fun h => by rw [h]⟩
theorem lI_lt {a b : Int} (ha : -9223372036854775808 ≤ a ∧ a < 9223372036854775808) (hb : -9223372036854775808 ≤ b ∧ b < 9223372036854775808) : lI a < lI b ↔ a < b := by
  rw [Int64.lt_iff_toInt_lt, lI_toInt ha, lI_toInt hb]
theorem iI_0 : iI 0 = 0 := rfl
theorem iI_nat (n : Nat) : Int32.ofNat n = iI n := (Int32.ofInt_eq_ofNat (n := n)).symm
theorem iI_clamp {a : Int} (h : 0 ≤ a ∧ a < 2147483648) : (iI a).toNatClampNeg = a.toNat := by
  show (iI a).toInt.toNat = _
  rw [iI_toInt ⟨by omega, h.2⟩]
theorem iI_in {a : Int} {n : Nat} (h : 0 ≤ a ∧ a < n) (hn : n < 2147483648) : vp_in (iI a) n := vp_in_iff.mpr (by rw [iI_toInt ⟨by omega, by omega⟩]; exact h)
theorem iI_nn {a : Int} (h : 0 ≤ a ∧ a < 2147483648) : ¬ iI a < 0 := by
  rw [← iI_0, iI_lt ⟨by omega, h.2⟩ ⟨by omega, by omega⟩]; omega
theorem iI_bv (a : Int) : (iI a).toBitVec.toNat = (a % 4294967296).toNat := by
  show (BitVec.ofInt 32 a).toNat = _
  rw [BitVec.toNat_ofInt]; rfl
theorem lI_bv (a : Int) : (lI a).toBitVec.toNat = (a % 18446744073709551616).toNat := by
  show (BitVec.ofInt 64 a).toNat = _
  rw [BitVec.toNat_ofInt]; rfl
theorem iI_ext {a b : Int} (h : a % 4294967296 = b % 4294967296) : iI a = iI b := by
  apply Int32.toBitVec_inj.mp
  apply BitVec.eq_of_toNat_eq
  rw [iI_bv, iI_bv, h]
theorem lI_ext {a b : Int} (h : a % 18446744073709551616 = b % 18446744073709551616) : lI a = lI b := by
  apply Int64.toBitVec_inj.mp
  apply BitVec.eq_of_toNat_eq
  rw [lI_bv, lI_bv, h]
theorem iI_and255 (a : Int) : iI a &&& iI 255 = iI (a % 256) := by
  rw [pk_and (iI a) (m := iI 255) 8 (by decide), iI_bv, nI, iI_nat]
  apply congrArg
  show (((a % 4294967296).toNat % 256 : Nat) : Int) = a % 256
  omega
theorem iI_and15 (a : Int) : iI a &&& iI 15 = iI (a % 16) := by
  rw [pk_and (iI a) (m := iI 15) 4 (by decide), iI_bv, nI, iI_nat]
  apply congrArg
  show (((a % 4294967296).toNat % 16 : Nat) : Int) = a % 16
  omega
theorem byt_8 (a : Int) : byt a = (Int8.ofInt a).toInt32 := by
  show ((Int32.ofInt a).toInt8).toInt32 = _
  rw [Int32.toInt8_ofInt]
theorem byt_ext {a b : Int} (h : a % 256 = b % 256) : byt a = byt b := by
  rw [byt_8, byt_8]
  apply congrArg
  apply Int8.toInt.inj
  rw [Int8.toInt_ofInt, Int8.toInt_ofInt]
  show a.bmod 256 = b.bmod 256
  unfold Int.bmod
  rw [show (((256 : Nat) : Int)) = 256 from rfl, h]
theorem bp_b0 (x : Int32) : x.toInt8.toInt32 &&& 255 = x &&& 255 := by
  apply Int32.toBitVec_inj.mp
  rw [Int32.toBitVec_and, Int32.toBitVec_and, Int8.toBitVec_toInt32, Int32.toBitVec_toInt8]
  apply BitVec.eq_of_getLsbD_eq
  intro i hi
  rw [BitVec.getLsbD_and, BitVec.getLsbD_and]
  have hm : ∀ i < 32, 8 ≤ i → (255 : Int32).toBitVec.getLsbD i = false := by decide
  rcases Nat.lt_or_ge i 8 with z | z
  · rw [BitVec.getLsbD_signExtend, BitVec.getLsbD_signExtend, if_pos z, if_pos hi]
    simp only [z, hi, decide_true, Bool.true_and]
  · rw [hm i hi z]; simp
theorem byt_and (a : Int) : byt a &&& iI 255 = iI (a % 256) := (bp_b0 (iI a)).trans (iI_and255 a)
theorem byt_b (a : Int) : (byt a).toInt8.toInt32 = byt a := by
  rw [byt_8]
  simp
theorem byt_nar (a : Int) : vp_nar .byte (byt a) = byt a := by rw [vp_nar_byte, byt_b]
theorem byt_fit (a : Int) : fits .byte (.int (byt a)) = true := pk_fb _
theorem byt_0 : byt 0 = 0 := rfl
theorem iI_div {a b : Int} (ha : 0 ≤ a ∧ a < 2147483648) (hb : 0 < b ∧ b < 2147483648) : iI a / iI b = iI (a / b) := by
  have e1 : iI a = nI a.toNat := by rw [nI, iI_nat, Int.toNat_of_nonneg ha.1]
  have e2 : iI b = nI b.toNat := by rw [nI, iI_nat, Int.toNat_of_nonneg (by omega)]
  rw [e1, e2, pk_div (by omega) (by omega) (by omega), nI, iI_nat]
  apply congrArg
  rw [Int.natCast_ediv, Int.toNat_of_nonneg ha.1, Int.toNat_of_nonneg (by omega)]
theorem iI_rem {a b : Int} (ha : 0 ≤ a ∧ a < 2147483648) (hb : 0 < b ∧ b < 2147483648) : iI a - iI a / iI b * iI b = iI (a % b) := by
  have e1 : iI a = nI a.toNat := by rw [nI, iI_nat, Int.toNat_of_nonneg ha.1]
  have e2 : iI b = nI b.toNat := by rw [nI, iI_nat, Int.toNat_of_nonneg (by omega)]
  rw [e1, e2, pk_rem (by omega) (by omega) (by omega), nI, iI_nat]
  apply congrArg
  rw [Int.natCast_emod, Int.toNat_of_nonneg ha.1, Int.toNat_of_nonneg (by omega)]
theorem lI_of {a : Int} (h : -2147483648 ≤ a ∧ a < 2147483648) : (iI a).toInt64 = lI a := by
  apply Int64.toInt_inj.mp
  rw [Int32.toInt_toInt64, iI_toInt h, lI_toInt ⟨by omega, by omega⟩]
theorem lI_i (a : Int) : (lI a).toInt32 = iI a := Int64.toInt32_ofInt
theorem iI_s32 : ∀ n : Nat, n < 32 → ((iI n &&& 31).toBitVec.smod 32).toNat = n := by decide +kernel
theorem iI_s64 : ∀ n : Nat, n < 64 → (((iI n).toInt64 &&& 63).toBitVec.smod 64).toNat = n := by decide +kernel
theorem iI_dr {a c M : Int} (ha : -M ≤ a ∧ a < M) (hM : 0 < M) (hc : 1 ≤ c) : -M ≤ a / c ∧ a / c < M := by
  have h1 := Int.mul_le_mul_of_nonneg_left hc (show 0 ≤ M by omega)
  refine ⟨Int.le_ediv_of_mul_le (by omega) ?_, Int.ediv_lt_of_lt_mul (by omega) ?_⟩
  · rw [Int.neg_mul]; omega
  · omega
theorem iI_p2 (n : Nat) : (1 : Int) ≤ 2 ^ n := by
  have : (0 : Int) < 2 ^ n := Int.pow_pos (by decide)
  omega
theorem iI_shr {a k : Int} (ha : -2147483648 ≤ a ∧ a < 2147483648) (hk : 0 ≤ k ∧ k < 32) : iI a >>> (iI k &&& 31) = iI (a / 2 ^ k.toNat) := by
  obtain ⟨n, rfl⟩ := Int.eq_ofNat_of_zero_le hk.1
  have hs := iI_s32 n (by omega)
  apply Int32.toInt_inj.mp
  have h2 := iI_dr (c := 2 ^ n) (M := 2147483648) ha (by omega) (iI_p2 n)
  rw [pk_shr _ _ n hs, iI_toInt ha, Int.shiftRight_eq_div_pow, Int.toNat_natCast, iI_toInt h2]
  simp
theorem lI_shr {a k : Int} (ha : -9223372036854775808 ≤ a ∧ a < 9223372036854775808) (hk : 0 ≤ k ∧ k < 64) : lI a >>> ((iI k).toInt64 &&& 63) = lI (a / 2 ^ k.toNat) := by
  obtain ⟨n, rfl⟩ := Int.eq_ofNat_of_zero_le hk.1
  have hs := iI_s64 n (by omega)
  apply Int64.toInt_inj.mp
  have h2 := iI_dr (c := 2 ^ n) (M := 9223372036854775808) ha (by omega) (iI_p2 n)
  have e : (lI a >>> ((iI n).toInt64 &&& 63)).toInt = (lI a).toInt >>> n := by
    show ((lI a).toBitVec.sshiftRight (((iI n).toInt64 &&& 63).toBitVec.smod 64).toNat).toInt = _
    rw [hs, BitVec.toInt_sshiftRight]
    rfl
  rw [e, lI_toInt ha, Int.shiftRight_eq_div_pow, Int.toNat_natCast, lI_toInt h2]
  simp
theorem lI_shl (a : Int) {k : Int} (hk : 0 ≤ k ∧ k < 64) : lI a <<< ((iI k).toInt64 &&& 63) = lI (a * 2 ^ k.toNat) := by
  obtain ⟨n, rfl⟩ := Int.eq_ofNat_of_zero_le hk.1
  have hs := iI_s64 n (by omega)
  apply Int64.toBitVec_inj.mp
  apply BitVec.eq_of_toNat_eq
  show ((lI a).toBitVec <<< (((iI n).toInt64 &&& 63).toBitVec.smod 64).toNat).toNat = _
  rw [hs, BitVec.toNat_shiftLeft, Nat.shiftLeft_eq, lI_bv, lI_bv, Int.toNat_natCast]
  apply Int.natCast_inj.mp
  rw [Int.natCast_emod, Int.natCast_mul, Int.toNat_of_nonneg (Int.emod_nonneg _ (by decide)), Int.toNat_of_nonneg (Int.emod_nonneg _ (by decide))]
  rw [show (((2 : Nat) ^ n : Nat) : Int) = (2 : Int) ^ n by simp, show (((2 : Nat) ^ 64 : Nat) : Int) = 18446744073709551616 from rfl]
  rw [Int.mul_emod, Int.emod_emod, ← Int.mul_emod]
theorem lI_or8 (a : Int) {b : Int} (hb : 0 ≤ b ∧ b < 256) : lI (a * 256) ||| lI b = lI (a * 256 + b) := by
  apply Int64.toBitVec_inj.mp
  apply BitVec.eq_of_toNat_eq
  rw [Int64.toBitVec_or, BitVec.toNat_or, lI_bv, lI_bv, lI_bv]
  obtain ⟨n, hn⟩ := Int.eq_ofNat_of_zero_le (Int.emod_nonneg (a * 256) (show (18446744073709551616 : Int) ≠ 0 by decide))
  have h1 : a * 256 % 18446744073709551616 = (a % 72057594037927936) * 256 := by omega
  obtain ⟨q, hq⟩ := Int.eq_ofNat_of_zero_le (Int.emod_nonneg a (show (72057594037927936 : Int) ≠ 0 by decide))
  obtain ⟨r, rfl⟩ := Int.eq_ofNat_of_zero_le hb.1
  have h2 : (a * 256 + r) % 18446744073709551616 = (a % 72057594037927936) * 256 + r := by omega
  have h3 : (r : Int) % 18446744073709551616 = r := by omega
  rw [h1, h2, h3, hq]
  have e1 : ((q : Int) * 256).toNat = q <<< 8 := by rw [Nat.shiftLeft_eq]; omega
  have e2 : ((q : Int) * 256 + (r : Int)).toNat = q <<< 8 + r := by rw [Nat.shiftLeft_eq]; omega
  rw [e1, e2, Int.toNat_natCast, Nat.shiftLeft_add_eq_or_of_lt (by omega)]
def cmpI (a b : Int) : Int := if b < a then 1 else if a = b then 0 else -1
theorem cmpI_s (a b : Int) : (a < b ∧ cmpI a b = -1) ∨ (a = b ∧ cmpI a b = 0) ∨ (b < a ∧ cmpI a b = 1) := by
  unfold cmpI
  by_cases h1 : b < a
  · rw [if_pos h1]; omega
  · rw [if_neg h1]
    by_cases h2 : a = b
    · rw [if_pos h2]; omega
    · rw [if_neg h2]; omega
theorem lI_cmp {a b : Int} (ha : -9223372036854775808 ≤ a ∧ a < 9223372036854775808) (hb : -9223372036854775808 ≤ b ∧ b < 9223372036854775808) : lg_cmp (lI a) (lI b) = iI (cmpI a b) := by
  unfold lg_cmp cmpI
  by_cases h1 : b < a
  · have : lI b < lI a := (lI_lt hb ha).mpr h1
    simp [h1, this]; rfl
  · have n1 : ¬ lI b < lI a := fun h => h1 ((lI_lt hb ha).mp h)
    by_cases h2 : a = b
    · subst h2; simp; rfl
    · have n2 : ¬ lI a = lI b := fun h => h2 ((lI_eq ha hb).mp h)
      simp [h1, h2, n1, n2]; rfl
