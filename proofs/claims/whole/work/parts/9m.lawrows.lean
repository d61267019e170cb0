/-! THE LAW, 2: its own instructions -/
theorem lI_and32 (a : Int) : lI a &&& lI 4294967295 = lI (a % 4294967296) := by
  apply Int64.toBitVec_inj.mp
  apply BitVec.eq_of_toNat_eq
  rw [Int64.toBitVec_and, BitVec.toNat_and, lI_bv, lI_bv, lI_bv]
  rw [show ((4294967295 : Int) % 18446744073709551616).toNat = 2 ^ 32 - 1 from rfl, Nat.and_two_pow_sub_one_eq_mod]
  omega
theorem lI_or32 (a : Int) {b : Int} (hb : 0 ≤ b ∧ b < 4294967296) : lI (a * 4294967296) ||| lI b = lI (a * 4294967296 + b) := by
  apply Int64.toBitVec_inj.mp
  apply BitVec.eq_of_toNat_eq
  rw [Int64.toBitVec_or, BitVec.toNat_or, lI_bv, lI_bv, lI_bv]
  have h1 : a * 4294967296 % 18446744073709551616 = (a % 4294967296) * 4294967296 := by omega
  obtain ⟨q, hq⟩ := Int.eq_ofNat_of_zero_le (Int.emod_nonneg a (show (4294967296 : Int) ≠ 0 by decide))
  obtain ⟨r, rfl⟩ := Int.eq_ofNat_of_zero_le hb.1
  have h2 : (a * 4294967296 + r) % 18446744073709551616 = (a % 4294967296) * 4294967296 + r := by omega
  have h3 : (r : Int) % 18446744073709551616 = r := by omega
  rw [h1, h2, h3, hq]
  have e1 : ((q : Int) * 4294967296).toNat = q <<< 32 := by rw [Nat.shiftLeft_eq]; omega
  have e2 : ((q : Int) * 4294967296 + (r : Int)).toNat = q <<< 32 + r := by rw [Nat.shiftLeft_eq]; omega
  rw [e1, e2, Int.toNat_natCast, Nat.shiftLeft_add_eq_or_of_lt (by omega)]
theorem lg_self (x : Int64) : lg_cmp x x = 0 := by
  unfold lg_cmp
  simp
theorem ia_and15 {p : Program} {l : Launch} {e : Env} {R : Room} {s : State} {m : MethodId} {args : Array Value} {below : List Frame} {meth : Method} {c : Code} {H : Heap} {locs : List Loc} {cells slots : Nat} {Q : State → Prop} {cc : ByteArray} {pc : Nat} {ls : Array Slot} {rest : List Value} (hexec : p.tables.exec = Jvm.exec) (hb : c.code = cc) {a : Int} (hdg : decode cc pc = .ok (.iand, 1)) (k : W p l e R s m args below meth c H locs cells slots Q (F0 m (pc + 1) ls (.int (iI (a % 16)) :: rest))) : W p l e R s m args below meth c H locs cells slots Q (F0 m pc ls (.int (iI 15) :: .int (iI a) :: rest)) := lv_iand hexec hb hdg (by rw [iI_and15]; exact k)
theorem ia_land32 {p : Program} {l : Launch} {e : Env} {R : Room} {s : State} {m : MethodId} {args : Array Value} {below : List Frame} {meth : Method} {c : Code} {H : Heap} {locs : List Loc} {cells slots : Nat} {Q : State → Prop} {cc : ByteArray} {pc : Nat} {ls : Array Slot} {rest : List Value} (hexec : p.tables.exec = Jvm.exec) (hb : c.code = cc) {a : Int} (hdg : decode cc pc = .ok (.land, 1)) (k : W p l e R s m args below meth c H locs cells slots Q (F0 m (pc + 1) ls (.long (lI (a % 4294967296)) :: rest))) : W p l e R s m args below meth c H locs cells slots Q (F0 m pc ls (.long (lI 4294967295) :: .long (lI a) :: rest)) := lv_land hexec hb hdg (by rw [lI_and32 a]; exact k)
theorem ia_lshl32 {p : Program} {l : Launch} {e : Env} {R : Room} {s : State} {m : MethodId} {args : Array Value} {below : List Frame} {meth : Method} {c : Code} {H : Heap} {locs : List Loc} {cells slots : Nat} {Q : State → Prop} {cc : ByteArray} {pc : Nat} {ls : Array Slot} {rest : List Value} (hexec : p.tables.exec = Jvm.exec) (hb : c.code = cc) {a : Int} (hdg : decode cc pc = .ok (.lshl, 1)) (k : W p l e R s m args below meth c H locs cells slots Q (F0 m (pc + 1) ls (.long (lI (a * 4294967296)) :: rest))) : W p l e R s m args below meth c H locs cells slots Q (F0 m pc ls (.int (iI 32) :: .long (lI a) :: rest)) := lv_lshl hexec hb hdg (lI_shl a (by decide)) k
theorem ia_lor32 {p : Program} {l : Launch} {e : Env} {R : Room} {s : State} {m : MethodId} {args : Array Value} {below : List Frame} {meth : Method} {c : Code} {H : Heap} {locs : List Loc} {cells slots : Nat} {Q : State → Prop} {cc : ByteArray} {pc : Nat} {ls : Array Slot} {rest : List Value} (hexec : p.tables.exec = Jvm.exec) (hb : c.code = cc) {a b : Int} (hb2 : 0 ≤ b ∧ b < 4294967296) (hdg : decode cc pc = .ok (.lor, 1)) (k : W p l e R s m args below meth c H locs cells slots Q (F0 m (pc + 1) ls (.long (lI (a * 4294967296 + b)) :: rest))) : W p l e R s m args below meth c H locs cells slots Q (F0 m pc ls (.long (lI b) :: .long (lI (a * 4294967296)) :: rest)) := lv_lor hexec hb hdg (by rw [lI_or32 a hb2]; exact k)
/-- the script -/
theorem ia_sld {p : Program} {l : Launch} {e : Env} {R : Room} {s : State} {m : MethodId} {args : Array Value} {below : List Frame} {meth : Method} {c : Code} {H : Heap} {locs : List Loc} {cells slots : Nat} {Q : State → Prop} {cc : ByteArray} {pc : Nat} {ls : Array Slot} {rest : List Value} (hexec : p.tables.exec = Jvm.exec) (hb : c.code = cc) {lo b N : Nat} {xs : Nat → Int32} {H0 : Heap} (hX : va_X b N xs s H0) (hbl : b < H0.size) (hbA : ¬ lo ≤ b) (hS : va_S (fun q => lo ≤ q) H0 H locs) {a : Int} (ha : 0 ≤ a ∧ a < N) (hn : N < 2147483648) (hdg : decode cc pc = .ok (.iaload, 1)) (k : W p l e R s m args below meth c H locs cells slots Q (F0 m (pc + 1) ls (.int (iI (xs a.toNat).toInt) :: rest))) : W p l e R s m args below meth c H locs cells slots Q (F0 m pc ls (.int (iI a) :: .ref b :: rest)) := by
  refine va_sld hexec hb hX hbl hbA hS (iI_in ha hn) hdg ?_
  rw [iI_clamp ⟨ha.1, by omega⟩, ← iI_self (xs a.toNat)]
  rw [iI_self] at k ⊢
  exact k
theorem ia_slen {p : Program} {l : Launch} {e : Env} {R : Room} {s : State} {m : MethodId} {args : Array Value} {below : List Frame} {meth : Method} {c : Code} {H : Heap} {locs : List Loc} {cells slots : Nat} {Q : State → Prop} {cc : ByteArray} {pc : Nat} {ls : Array Slot} {rest : List Value} (hexec : p.tables.exec = Jvm.exec) (hb : c.code = cc) {lo b N : Nat} {xs : Nat → Int32} {H0 : Heap} (hX : va_X b N xs s H0) (hbl : b < H0.size) (hbA : ¬ lo ≤ b) (hS : va_S (fun q => lo ≤ q) H0 H locs) (hdg : decode cc pc = .ok (.arraylength, 1)) (k : W p l e R s m args below meth c H locs cells slots Q (F0 m (pc + 1) ls (.int (iI N) :: rest))) : W p l e R s m args below meth c H locs cells slots Q (F0 m pc ls (.ref b :: rest)) := by
  refine va_slen hexec hb hX hbl hbA hS hdg ?_
  rw [iI_nat]
  exact k
/-- what holds at the head of the law's loop -/
def lwI (D : va_G) (g : Nat → ClassId) (s : State) (q0 q1 : Nat) (H : Heap) (locs : List Loc) : Prop := ∃ (L : Nat → Nat) (κ : Nat → Option va_E) (S : MS), mw D vwCl s.heap.size L κ H ∧ va_S (fun q => s.heap.size ≤ q) s.heap H locs ∧ JJ g L κ S ∧ mds g L κ S ∧ L 0 = q0 ∧ L 40 = q1
