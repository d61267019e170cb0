set_option maxHeartbeats 4000000 in
set_option maxRecDepth 100000 in
theorem c_Bytes_clear (l : Launch) (D : va_G) (g : Nat → ClassId) (lo : Nat) (L : Nat → Nat) (κ : Nat → Option va_E) (i j mo n sz : Nat) (b : Nat → Int) (hB : bxs g L κ i j mo n sz b) : Met l y_Bytes_clear w_Bytes_clear ({ frames := 0, cells := 0, slots := 0, locals := 0 }) (mwP D vwCl (tyL g) lo L κ [.ref (L i)]) (mwQ D vwCl lo (bxU g L κ i j mo n 0 b)) 0 0 (fun q => lo ≤ q) := by
  obtain ⟨hz1, hz2, hz3⟩ := hB.2.2.1
  have hij := bxs_ne hB
  refine Met.ofW (cc := b_Bytes_clear) (maxL := 1) (ret := (Option.none : Option Jvm.ClassFile.FieldType)) (by decide) rfl ?_
  intro p e s m args below meth c s₁ B hml hpre
  obtain ⟨hargs, hM, hK⟩ := hpre
  have hx := B.exec
  have hb := B.bytes
  have hr := B.returns
  have hts : ∀ w ∈ wA, w.before args s = true := fun w h => atoms_spec (ws := w_Bytes_clear) B.pre w (List.mem_cons_of_mem _ h)
  have hown : s.vm.findClass R_Bytes = some m.cls := findClass_of_methodNamed B.named
  have hlocks := B.notSynchronized
  have hS : va_S (fun q => lo ≤ q) s.heap s.heap [] := va_S.rf
  obtain ⟨ls, hls, hl⟩ := mw_entry (m := m) [.ref (L i)] (n := 1) (Nat.le_of_ble_eq_true rfl) hargs
  refine W.eq hls ?_
  have hl : lv_has ls 1 [(0, .ref (L i))] := hl
  refine lv_aload_n hx hb d_Bytes_clear_0 rfl (lv_at hl 0 rfl) ?_
  refine lv_iconst (v := iI (0)) hx hb d_Bytes_clear_1 rfl ?_
  refine mw_put (ci := 0) (i := i) (v := .int (iI 0)) (C := R_Bytes) (T := T_Bytes) (N := 3) hx hb hts in_Bytes ty_Bytes ty_Bytes_ok nm_Bytes hown hK hM hS hB.1 rfl rfl 2 (by decide) (hts _ m_77) rfl (ty_Bytes_ok 2 (by decide)) rfl rfl (Nat.le_of_ble_eq_true rfl) d_Bytes_clear_2 (fun κ1 H locs e1 hk1 hM hS => ?_)
  have e1 : κ1 i = some (.inr (0, [.int (iI mo), .ref (L j), .int (iI 0)])) := e1
  have e2 := (hk1 j (by omega)).trans hB.2.1
  exact mw_vret hx hb hr hM hS hlocks d_Bytes_clear_5 ⟨rfl, rfl, bxs_sz (sz1 := 0) hB e1 hk1 (Nat.zero_le _), fun r h1 h2 => hk1 r h1⟩
set_option maxHeartbeats 4000000 in
set_option maxRecDepth 100000 in
theorem c_Bytes_put (l : Launch) (D : va_G) (g : Nat → ClassId) (lo : Nat) (L : Nat → Nat) (κ : Nat → Option va_E) (i j mo n sz : Nat) (b : Nat → Int) (hB : bxs g L κ i j mo n sz b) (a v : Int) (ha : -2147483648 ≤ a ∧ a < 2147483648) : Met l y_Bytes_put w_Bytes_put ({ frames := 0, cells := 0, slots := 0, locals := 0 }) (mwP D vwCl (tyL g) lo L κ [.ref (L i), .int (iI a), .int (iI v)]) (mwQ D vwCl lo (bxU g L κ i j mo n sz (bPut b sz a v))) 0 0 (fun q => lo ≤ q) := by
  obtain ⟨hz1, hz2, hz3⟩ := hB.2.2.1
  have hij := bxs_ne hB
  refine Met.ofW (cc := b_Bytes_put) (maxL := 3) (ret := (Option.none : Option Jvm.ClassFile.FieldType)) (by decide) rfl ?_
  intro p e s m args below meth c s₁ B hml hpre
  obtain ⟨hargs, hM, hK⟩ := hpre
  have hx := B.exec
  have hb := B.bytes
  have hr := B.returns
  have hts : ∀ w ∈ wA, w.before args s = true := fun w h => atoms_spec (ws := w_Bytes_put) B.pre w (List.mem_cons_of_mem _ h)
  have hown : s.vm.findClass R_Bytes = some m.cls := findClass_of_methodNamed B.named
  have hlocks := B.notSynchronized
  have hS : va_S (fun q => lo ≤ q) s.heap s.heap [] := va_S.rf
  obtain ⟨ls, hls, hl⟩ := mw_entry (m := m) [.ref (L i), .int (iI a), .int (iI v)] (n := 3) (Nat.le_of_ble_eq_true rfl) hargs
  refine W.eq hls ?_
  have hl : lv_has ls 3 [(0, .ref (L i)), (1, .int (iI a)), (2, .int (iI v))] := hl
  refine lv_iload_n hx hb d_Bytes_put_0 rfl (lv_at hl 1 rfl) ?_
  refine ia_if_lt (a := a) (tgt := 20) hx hb d_Bytes_put_1 (by decide) (by omega) (fun c1 => ?_) (fun c1 => ?_)
  · exact mw_vret hx hb hr hM hS hlocks d_Bytes_put_20 ⟨rfl, rfl, by rw [bPut_out (by omega)]; exact hB, fun r h1 h2 => rfl⟩
  · refine lv_iload_n hx hb d_Bytes_put_4 rfl (lv_at hl 1 rfl) ?_
    refine lv_aload_n hx hb d_Bytes_put_5 rfl (lv_at hl 0 rfl) ?_
    refine mw_get (ci := 0) (i := i) (v := .int (iI sz)) (C := R_Bytes) (T := T_Bytes) (N := 3) hx hb hts in_Bytes hown hK hM hB.1 rfl rfl 2 (by decide) (hts _ m_77) rfl d_Bytes_put_6 ?_
    refine ia_icmp_ge (a := a) (b := sz) (tgt := 20) hx hb d_Bytes_put_9 (by decide) (by omega) (by omega) (fun c2 => ?_) (fun c2 => ?_)
    · exact mw_vret hx hb hr hM hS hlocks d_Bytes_put_20 ⟨rfl, rfl, by rw [bPut_out (by omega)]; exact hB, fun r h1 h2 => rfl⟩
    · refine lv_aload_n hx hb d_Bytes_put_12 rfl (lv_at hl 0 rfl) ?_
      refine mw_get (ci := 0) (i := i) (v := .ref (L j)) (C := R_Bytes) (T := T_Bytes) (N := 3) hx hb hts in_Bytes hown hK hM hB.1 rfl rfl 1 (by decide) (hts _ m_76) rfl d_Bytes_put_13 ?_
      refine lv_iload_n hx hb d_Bytes_put_16 rfl (lv_at hl 1 rfl) ?_
      refine lv_iload_n hx hb d_Bytes_put_17 rfl (lv_at hl 2 rfl) ?_
      refine ia_i2b hx hb d_Bytes_put_18 ?_
      refine mw_bast (a := a) (v := v) (i := j) hx hb hK hM hS 0 hB.2.1 rfl rfl (by omega) (by omega) d_Bytes_put_19 (fun κ3 H locs e3 hk3 hM hS => ?_)
      have e4 := (hk3 i (by omega)).trans hB.1
      exact mw_vret hx hb hr hM hS hlocks d_Bytes_put_20 ⟨rfl, rfl, by rw [bPut_in (by omega)]; exact bxs_row hB e3 hk3 (up_r hB.2.2.2.1 _ _) (up_z hB.2.2.2.2 (by omega) _), fun r h1 h2 => hk3 r h2⟩
set_option maxHeartbeats 4000000 in
set_option maxRecDepth 100000 in
theorem c_Bytes_putNumber (l : Launch) (D : va_G) (g : Nat → ClassId) (lo : Nat) (L : Nat → Nat) (κ : Nat → Option va_E) (i j mo n sz : Nat) (b : Nat → Int) (hB : bxs g L κ i j mo n sz b) (a1 a2 v : Int) (ha1 : -1000000 ≤ a1 ∧ a1 ≤ 1000000) (ha2 : 0 ≤ a2 ∧ a2 ≤ 8) (hv : -9223372036854775808 ≤ v ∧ v < 9223372036854775808) : Met l y_Bytes_putNumber w_Bytes_putNumber ({ frames := 1, cells := 0, slots := 0, locals := 22 }) (mwP D vwCl (tyL g) lo L κ [.ref (L i), .int (iI a1), .int (iI a2), .long (lI v)]) (mwQ D vwCl lo (bxU g L κ i j mo n sz (bPn sz a1 v a2 0 b))) 0 0 (fun q => lo ≤ q) := by
  obtain ⟨hz1, hz2, hz3⟩ := hB.2.2.1
  have hij := bxs_ne hB
  refine Met.ofW (cc := b_Bytes_putNumber) (maxL := 6) (ret := (Option.none : Option Jvm.ClassFile.FieldType)) (by decide) rfl ?_
  intro p e s m args below meth c s₁ B hml hpre
  obtain ⟨hargs, hM, hK⟩ := hpre
  have hx := B.exec
  have hb := B.bytes
  have hr := B.returns
  have hts : ∀ w ∈ wA, w.before args s = true := fun w h => atoms_spec (ws := w_Bytes_putNumber) B.pre w (List.mem_cons_of_mem _ h)
  have hown : s.vm.findClass R_Bytes = some m.cls := findClass_of_methodNamed B.named
  have hlocks := B.notSynchronized
  have hS : va_S (fun q => lo ≤ q) s.heap s.heap [] := va_S.rf
  have loop3 : ∀ (N : Nat) (k : Int) (b1 : Nat → Int) (κ1 : Nat → Option va_E), (a2 - k).toNat < N → (bxs g L κ1 i j mo n sz b1) → (∀ r, r ≠ i → r ≠ j → κ1 r = κ r) → (0 ≤ k ∧ k ≤ 8) → (bPn sz a1 v a2 0 b = bPn sz a1 v a2 k b1) → ∀ (H : Heap) (locs : List Loc) (ls : Array Slot), mw D vwCl lo L κ1 H → va_S (fun q => lo ≤ q) s.heap H locs → lv_has ls 6 [(5, .int (iI k)), (0, .ref (L i)), (1, .int (iI a1)), (2, .int (iI a2)), (3, .long (lI v))] → W p l e (headSpec w_Bytes_putNumber ({ frames := 1, cells := 0, slots := 0, locals := 22 })).room s m args below meth c H locs 0 0 (MQ below (mwQ D vwCl lo (bxU g L κ i j mo n sz (bPn sz a1 v a2 0 b))) args s 0 0 (fun q => lo ≤ q)) (F0 m 3 ls []) := by
    intro N
    induction N with
    | zero => intro k b1 κ1 hms; exact absurd hms (Nat.not_lt_zero _)
    | succ N ih =>
      intro k b1 κ1 hms hB1 hf hk hres H locs ls hM hS hl
      refine lv_iload hx hb d_Bytes_putNumber_3 (lv_at hl 0 rfl) ?_
      refine lv_iload_n hx hb d_Bytes_putNumber_5 rfl (lv_at hl 3 rfl) ?_
      refine ia_icmp_ge (a := k) (b := a2) (tgt := 31) hx hb d_Bytes_putNumber_6 (by decide) (by omega) (by omega) (fun c1 => ?_) (fun c1 => ?_)
      · exact mw_vret hx hb hr hM hS hlocks d_Bytes_putNumber_31 ⟨rfl, rfl, by rw [hres, bPn_end (by omega)]; exact hB1, hf⟩
      · refine lv_aload_n hx hb d_Bytes_putNumber_9 rfl (lv_at hl 1 rfl) ?_
        refine lv_iload_n hx hb d_Bytes_putNumber_10 rfl (lv_at hl 2 rfl) ?_
        refine lv_iload hx hb d_Bytes_putNumber_11 (lv_at hl 0 rfl) ?_
        refine ia_add hx hb d_Bytes_putNumber_13 ?_
        refine lv_lload_n hx hb d_Bytes_putNumber_14 rfl (lv_at hl 4 rfl) ?_
        refine lv_bipush (v := iI (8)) hx hb d_Bytes_putNumber_15 (by decide) ?_
        refine lv_iload hx hb d_Bytes_putNumber_17 (lv_at hl 0 rfl) ?_
        refine ia_mul hx hb d_Bytes_putNumber_19 ?_
        refine ia_lshr hx hb (by omega) (by omega) d_Bytes_putNumber_20 ?_
        refine ia_l2i hx hb d_Bytes_putNumber_21 ?_
        refine mw_callV (i := i) (As := [.int (iI (a1 + k)), .int (iI (v / 2 ^ (8 * k).toNat))]) (rest := []) ⟨hx, hb, hml, hown, hts⟩ hK hM hS rfl hB1.1 rfl (c_Bytes_put l D g lo L κ1 i j mo n sz b1 hB1 (a1 + k) (v / 2 ^ (8 * k).toNat) (by omega)) (cwV 2 hts (gV m_121 m_122 m_123 m_52 m_124) rfl rfl rfl (by decide +kernel) ⟨Nat.le_of_ble_eq_true rfl, Nat.le_of_ble_eq_true rfl⟩) rfl hl.1 rfl (Nat.le_of_ble_eq_true rfl) d_Bytes_putNumber_22 ⟨Nat.le_of_ble_eq_true rfl, Nat.le_of_ble_eq_true rfl⟩ (fun v2 L2 κ2 H locs hp2 hM hS => ?_)
        obtain ⟨rfl, rfl, hB2, hk2⟩ := hp2
        refine lv_iinc (v := iI (k + 1)) (lv' := [(5, .int (iI (k + 1))), (0, .ref (L i)), (1, .int (iI a1)), (2, .int (iI a2)), (3, .long (lI v))]) hx hb d_Bytes_putNumber_25 hl (k := 0) rfl (iI_inc _ _) (by decide) rfl (fun ls hl => ?_)
        refine lv_goto (tgt := 3) hx hb d_Bytes_putNumber_28 (by decide) ?_
        exact ih (k + 1) (bPut b1 sz (a1 + k) (v / 2 ^ (8 * k).toNat)) κ2 (by omega) hB2 (fun r h1 h2 => (hk2 r h1 h2).trans (hf r h1 h2)) (by omega) (by rw [hres, bPn_step (by omega)]) _ _ ls hM hS (lv_sub hl [0, 1, 2, 3, 4] rfl)
  obtain ⟨ls, hls, hl⟩ := mw_entry (m := m) [.ref (L i), .int (iI a1), .int (iI a2), .long (lI v)] (n := 6) (Nat.le_of_ble_eq_true rfl) hargs
  refine W.eq hls ?_
  have hl : lv_has ls 6 [(0, .ref (L i)), (1, .int (iI a1)), (2, .int (iI a2)), (3, .long (lI v))] := hl
  refine lv_iconst (v := iI (0)) hx hb d_Bytes_putNumber_0 rfl ?_
  refine lv_istore (lv' := [(5, .int (iI 0)), (0, .ref (L i)), (1, .int (iI a1)), (2, .int (iI a2)), (3, .long (lI v))]) hx hb d_Bytes_putNumber_1 hl (by decide) rfl (fun ls hl => ?_)
  exact loop3 _ 0 b κ (Nat.lt_succ_self _) hB (fun r h1 h2 => rfl) (by omega) rfl _ _ ls hM hS (lv_sub hl [0, 1, 2, 3, 4] rfl)
set_option maxHeartbeats 4000000 in
set_option maxRecDepth 100000 in
theorem c_Bytes_putDecimal (l : Launch) (D : va_G) (g : Nat → ClassId) (lo : Nat) (L : Nat → Nat) (κ : Nat → Option va_E) (i j mo n sz : Nat) (b : Nat → Int) (hB : bxs g L κ i j mo n sz b) (a1 a2 a3 : Int) (ha1 : -1000000 ≤ a1 ∧ a1 ≤ 1000000) (ha2 : -1000000 ≤ a2 ∧ a2 ≤ 1000000) (ha3 : 0 ≤ a3 ∧ a3 < 2147483648) : Met l y_Bytes_putDecimal w_Bytes_putDecimal ({ frames := 1, cells := 0, slots := 0, locals := 22 }) (mwP D vwCl (tyL g) lo L κ [.ref (L i), .int (iI a1), .int (iI a2), .int (iI a3)]) (mwQ D vwCl lo (bxU g L κ i j mo n sz (bPd sz a1 (a2 - 1) a3 b))) 0 0 (fun q => lo ≤ q) := by
  obtain ⟨hz1, hz2, hz3⟩ := hB.2.2.1
  have hij := bxs_ne hB
  refine Met.ofW (cc := b_Bytes_putDecimal) (maxL := 6) (ret := (Option.none : Option Jvm.ClassFile.FieldType)) (by decide) rfl ?_
  intro p e s m args below meth c s₁ B hml hpre
  obtain ⟨hargs, hM, hK⟩ := hpre
  have hx := B.exec
  have hb := B.bytes
  have hr := B.returns
  have hts : ∀ w ∈ wA, w.before args s = true := fun w h => atoms_spec (ws := w_Bytes_putDecimal) B.pre w (List.mem_cons_of_mem _ h)
  have hown : s.vm.findClass R_Bytes = some m.cls := findClass_of_methodNamed B.named
  have hlocks := B.notSynchronized
  have hS : va_S (fun q => lo ≤ q) s.heap s.heap [] := va_S.rf
  have loop8 : ∀ (N : Nat) (k : Int) (u : Int) (b1 : Nat → Int) (κ1 : Nat → Option va_E), (k + 1).toNat < N → (bxs g L κ1 i j mo n sz b1) → (∀ r, r ≠ i → r ≠ j → κ1 r = κ r) → (-1000001 ≤ k ∧ k ≤ 1000000) → (0 ≤ u ∧ u < 2147483648) → (bPd sz a1 (a2 - 1) a3 b = bPd sz a1 k u b1) → ∀ (H : Heap) (locs : List Loc) (ls : Array Slot), mw D vwCl lo L κ1 H → va_S (fun q => lo ≤ q) s.heap H locs → lv_has ls 6 [(5, .int (iI k)), (4, .int (iI u)), (0, .ref (L i)), (1, .int (iI a1)), (2, .int (iI a2)), (3, .int (iI a3))] → W p l e (headSpec w_Bytes_putDecimal ({ frames := 1, cells := 0, slots := 0, locals := 22 })).room s m args below meth c H locs 0 0 (MQ below (mwQ D vwCl lo (bxU g L κ i j mo n sz (bPd sz a1 (a2 - 1) a3 b))) args s 0 0 (fun q => lo ≤ q)) (F0 m 8 ls []) := by
    intro N
    induction N with
    | zero => intro k u b1 κ1 hms; exact absurd hms (Nat.not_lt_zero _)
    | succ N ih =>
      intro k u b1 κ1 hms hB1 hf hk hu hres H locs ls hM hS hl
      refine lv_iload hx hb d_Bytes_putDecimal_8 (lv_at hl 0 rfl) ?_
      refine ia_if_lt (a := k) (tgt := 42) hx hb d_Bytes_putDecimal_10 (by decide) (by omega) (fun c1 => ?_) (fun c1 => ?_)
      · exact mw_vret hx hb hr hM hS hlocks d_Bytes_putDecimal_42 ⟨rfl, rfl, by rw [hres, bPd_end (by omega)]; exact hB1, hf⟩
      · refine lv_aload_n hx hb d_Bytes_putDecimal_13 rfl (lv_at hl 2 rfl) ?_
        refine lv_iload_n hx hb d_Bytes_putDecimal_14 rfl (lv_at hl 3 rfl) ?_
        refine lv_iload hx hb d_Bytes_putDecimal_15 (lv_at hl 0 rfl) ?_
        refine ia_add hx hb d_Bytes_putDecimal_17 ?_
        refine lv_bipush (v := iI (48)) hx hb d_Bytes_putDecimal_18 (by decide) ?_
        refine lv_iload hx hb d_Bytes_putDecimal_20 (lv_at hl 1 rfl) ?_
        refine lv_bipush (v := iI (10)) hx hb d_Bytes_putDecimal_22 (by decide) ?_
        refine ia_rem hx hb (by omega) (by omega) d_Bytes_putDecimal_24 ?_
        refine ia_add hx hb d_Bytes_putDecimal_25 ?_
        refine mw_callV (i := i) (As := [.int (iI (a1 + k)), .int (iI (48 + (u % 10)))]) (rest := []) ⟨hx, hb, hml, hown, hts⟩ hK hM hS rfl hB1.1 rfl (c_Bytes_put l D g lo L κ1 i j mo n sz b1 hB1 (a1 + k) (48 + (u % 10)) (by omega)) (cwV 2 hts (gV m_121 m_122 m_123 m_52 m_124) rfl rfl rfl (by decide +kernel) ⟨Nat.le_of_ble_eq_true rfl, Nat.le_of_ble_eq_true rfl⟩) rfl hl.1 rfl (Nat.le_of_ble_eq_true rfl) d_Bytes_putDecimal_26 ⟨Nat.le_of_ble_eq_true rfl, Nat.le_of_ble_eq_true rfl⟩ (fun v2 L2 κ2 H locs hp2 hM hS => ?_)
        obtain ⟨rfl, rfl, hB2, hk2⟩ := hp2
        refine lv_iload hx hb d_Bytes_putDecimal_29 (lv_at hl 1 rfl) ?_
        refine lv_bipush (v := iI (10)) hx hb d_Bytes_putDecimal_31 (by decide) ?_
        refine ia_div hx hb (by omega) (by omega) d_Bytes_putDecimal_33 ?_
        refine lv_istore (lv' := [(4, .int (iI (u / 10))), (5, .int (iI k)), (0, .ref (L i)), (1, .int (iI a1)), (2, .int (iI a2)), (3, .int (iI a3))]) hx hb d_Bytes_putDecimal_34 hl (by decide) rfl (fun ls hl => ?_)
        refine lv_iinc (v := iI (k + (-1))) (lv' := [(5, .int (iI (k + (-1)))), (4, .int (iI (u / 10))), (0, .ref (L i)), (1, .int (iI a1)), (2, .int (iI a2)), (3, .int (iI a3))]) hx hb d_Bytes_putDecimal_36 hl (k := 1) rfl (iI_inc _ _) (by decide) rfl (fun ls hl => ?_)
        refine lv_goto (tgt := 8) hx hb d_Bytes_putDecimal_39 (by decide) ?_
        exact ih (k + (-1)) (u / 10) (bPut b1 sz (a1 + k) (48 + (u % 10))) κ2 (by omega) hB2 (fun r h1 h2 => (hk2 r h1 h2).trans (hf r h1 h2)) (by omega) (by omega) (by rw [hres, bPd_step (by omega)]) _ _ ls hM hS (lv_sub hl [0, 1, 2, 3, 4, 5] rfl)
  obtain ⟨ls, hls, hl⟩ := mw_entry (m := m) [.ref (L i), .int (iI a1), .int (iI a2), .int (iI a3)] (n := 6) (Nat.le_of_ble_eq_true rfl) hargs
  refine W.eq hls ?_
  have hl : lv_has ls 6 [(0, .ref (L i)), (1, .int (iI a1)), (2, .int (iI a2)), (3, .int (iI a3))] := hl
  refine lv_iload_n hx hb d_Bytes_putDecimal_0 rfl (lv_at hl 3 rfl) ?_
  refine lv_istore (lv' := [(4, .int (iI a3)), (0, .ref (L i)), (1, .int (iI a1)), (2, .int (iI a2)), (3, .int (iI a3))]) hx hb d_Bytes_putDecimal_1 hl (by decide) rfl (fun ls hl => ?_)
  refine lv_iload_n hx hb d_Bytes_putDecimal_3 rfl (lv_at hl 3 rfl) ?_
  refine lv_iconst (v := iI (1)) hx hb d_Bytes_putDecimal_4 rfl ?_
  refine ia_sub hx hb d_Bytes_putDecimal_5 ?_
  refine lv_istore (lv' := [(5, .int (iI (a2 - 1))), (4, .int (iI a3)), (0, .ref (L i)), (1, .int (iI a1)), (2, .int (iI a2)), (3, .int (iI a3))]) hx hb d_Bytes_putDecimal_6 hl (by decide) rfl (fun ls hl => ?_)
  exact loop8 _ (a2 - 1) a3 b κ (Nat.lt_succ_self _) hB (fun r h1 h2 => rfl) (by omega) (by omega) rfl _ _ ls hM hS (lv_sub hl [0, 1, 2, 3, 4, 5] rfl)
set_option maxHeartbeats 4000000 in
set_option maxRecDepth 100000 in
theorem c_Arrays_copyOf (l : Launch) (D : va_G) (g : Nat → ClassId) (lo : Nat) (L : Nat → Nat) (κ : Nat → Option va_E) (j n mo : Nat) (b : Nat → Int) (he : κ j = some (.inl (g 0, n, .inl (fun x => byt (b x))))) (hmo : n < mo ∧ mo ≤ 2005) (hrg : ∀ x, 0 ≤ b x ∧ b x < 256) (hz : ∀ x, n ≤ x → b x = 0) : Met l y_Arrays_copyOf w_Arrays_copyOf ({ frames := 1, cells := 1, slots := 2005, locals := 40 }) (mwP D vwCl (tyL g) lo L κ [.ref (L j), .int (iI mo)]) (mwQ D vwCl lo (fun v L1 κ1 => v = some (.ref (L1 j)) ∧ (∀ r, r ≠ j → L1 r = L r) ∧ κ1 j = some (.inl (g 0, mo, .inl (fun x => byt (b x)))) ∧ ∀ r, r ≠ j → κ1 r = κ r)) 1 2005 (fun q => lo ≤ q) := by
  refine Met.ofW (cc := b_Arrays_copyOf) (maxL := 3) (ret := (Option.some (Jvm.ClassFile.FieldType.array Jvm.ClassFile.FieldType.byte))) (by decide) rfl ?_
  intro p e s m args below meth c s₁ B hml hpre
  obtain ⟨hargs, hM, hK⟩ := hpre
  have hx := B.exec
  have hb := B.bytes
  have hr := B.returns
  have hts : ∀ w ∈ wA, w.before args s = true := fun w h => atoms_spec (ws := w_Arrays_copyOf) B.pre w (List.mem_cons_of_mem _ h)
  have hown : s.vm.findClass R_Arrays = some m.cls := findClass_of_methodNamed B.named
  have hlocks := B.notSynchronized
  have hS : va_S (fun q => lo ≤ q) s.heap s.heap [] := va_S.rf
  have hM := mw_shift hM
  obtain ⟨L0, hL0⟩ : ∃ z, z = fun r => L (r - 1) := ⟨_, rfl⟩
  obtain ⟨κ0, hκ0⟩ : ∃ z, z = fun r => if r = 0 then none else κ (r - 1) := ⟨_, rfl⟩
  rw [← hL0, ← hκ0] at hM
  have e0 : κ0 (j + 1) = some (.inl (g 0, n, .inl (fun x => byt (b x)))) := by rw [hκ0]; exact (if_neg (by omega)).trans he
  have a0 : L0 (j + 1) = L j := by rw [hL0]; rfl
  obtain ⟨ls, hls, hl⟩ := mw_entry (m := m) [.ref (L j), .int (iI mo)] (n := 3) (Nat.le_of_ble_eq_true rfl) hargs
  refine W.eq hls ?_
  have hl : lv_has ls 3 [(0, .ref (L j)), (1, .int (iI mo))] := hl
  refine lv_iload_n hx hb d_Arrays_copyOf_0 rfl (lv_at hl 1 rfl) ?_
  refine lv_aload_n hx hb d_Arrays_copyOf_1 rfl (lv_at hl 0 rfl) ?_
  refine mw_alen (i := j + 1) hx hb hK hM 0 e0 a0 rfl d_Arrays_copyOf_2 ?_
  refine ia_icmp_ne (a := mo) (b := n) (tgt := 14) hx hb d_Arrays_copyOf_3 (by decide) (by omega) (by omega) (fun c1 => ?_) (fun c1 => ?_)
  · refine lv_iload_n hx hb d_Arrays_copyOf_14 rfl (lv_at hl 1 rfl) ?_
    refine mw_newaK (atype := .byte) (a0 := (mo, .inl (fun _ => byt 0))) (a := mo) hx hb (hts _ m_85) (ty := .byte) rfl hM hS 0 rfl (fun cA => rfl) (by omega) (by show mo * 1 ≤ _; omega) (Nat.le_of_ble_eq_true rfl) (by show 0 + mo ≤ 2005; omega) d_Arrays_copyOf_15 (fun L1 κ1 cA H hA1 hA2 f1 hk1 hL1 hM hS => ?_)
    have hcA : cA = g 0 := Option.some.inj (hA2.symm.trans (hK.2 0 _ rfl).2)
    subst hcA
    have f2 : κ1 (j + 1) = some (.inl (g 0, n, .inl (fun x => byt (b x)))) := (hk1 (j + 1) (by omega)).trans e0
    have a2 : L1 (j + 1) = L j := (hL1 (j + 1) (by omega)).trans a0
    refine lv_astore_n (lv' := [(2, .ref (L1 0)), (0, .ref (L j)), (1, .int (iI mo))]) hx hb d_Arrays_copyOf_17 rfl hl (by decide) rfl (fun ls hl => ?_)
    refine lv_aload_n hx hb d_Arrays_copyOf_18 rfl (lv_at hl 1 rfl) ?_
    refine lv_iconst (v := iI (0)) hx hb d_Arrays_copyOf_19 rfl ?_
    refine lv_aload_n hx hb d_Arrays_copyOf_20 rfl (lv_at hl 0 rfl) ?_
    refine lv_iconst (v := iI (0)) hx hb d_Arrays_copyOf_21 rfl ?_
    refine lv_aload_n hx hb d_Arrays_copyOf_22 rfl (lv_at hl 1 rfl) ?_
    refine mw_alen (i := j + 1) hx hb hK hM 0 f2 a2 rfl d_Arrays_copyOf_23 ?_
    refine lv_iload_n hx hb d_Arrays_copyOf_24 rfl (lv_at hl 2 rfl) ?_
    refine va_mmin hx hb (hml.trans hl.1.symm) hown (hts _ m_110) (hts _ m_111) (hts _ m_54) (hts _ m_112) (Nat.le_of_ble_eq_true rfl) (Nat.le_of_ble_eq_true rfl) (Nat.le_of_ble_eq_true rfl) (by show 0 + (mo : Int).toNat ≤ 2005; omega) d_Arrays_copyOf_25 ?_
    refine W.eq (g2 := F0 m 28 ls [.int (iI n), .int (iI 0), .ref (L1 0), .int (iI 0), .ref (L j)]) (by rw [if_neg (by rw [iI_lt (by omega) (by omega)]; omega)]) ?_
    refine mw_copyb (i := j + 1) (j := 0) (sp := 0) (dp := 0) (n := n) hx hb (hml.trans hl.1.symm) hown (hts _ m_113) (hts _ m_115) (hts _ m_114) (hts _ m_55) hK hM hS 0 0 f2 f1 rfl rfl a2 rfl (by omega) (by omega) (by omega) (by omega) (by omega) (by omega) (by omega) (Nat.le_of_ble_eq_true rfl) (Nat.le_of_ble_eq_true rfl) d_Arrays_copyOf_28 (fun κ2 H locs e2 hk2 hM hS => ?_)
    have e3 := (hk2 (j + 1) (by omega)).trans f2
    refine lv_aload_n hx hb d_Arrays_copyOf_31 rfl (lv_at hl 0 rfl) ?_
    have hM := mw_unshift (mw_take hM (j + 1) 0 e2 (by omega))
    refine W.widen (k := 1) (n := 2005) (Nat.le_refl 1) (by show 0 + mo ≤ 2005; omega) ?_
    refine mw_aret hx hb hr (Or.inr ⟨_, rfl⟩) hM hS hlocks d_Arrays_copyOf_32 ⟨?_, fun r h => ?_, ?_, fun r h => ?_⟩
    · show some (Value.ref (L1 0)) = some (.ref (va_up L1 (j + 1) (L1 0) (j + 1)))
      rw [va_up_self]
    · show va_up L1 (j + 1) (L1 0) (r + 1) = L r
      rw [va_up_ne _ _ (by omega), hL1 (r + 1) (by omega), hL0]; rfl
    · show va_up (va_up κ2 0 none) (j + 1) _ (j + 1) = _
      rw [va_up_self, show (fun x => byt (va_cpy b (fun _ => (0 : Int)) (0 : Int).toNat (0 : Int).toNat (n : Int).toNat x)) = fun x => byt (b x) from funext fun x => by
        rcases Nat.lt_or_ge x n with h | h
        · show byt (if 0 ≤ x ∧ x < 0 + n then b (0 + (x - 0)) else 0) = _; rw [if_pos (by omega)]; simp
        · show byt (if 0 ≤ x ∧ x < 0 + n then b (0 + (x - 0)) else 0) = _; rw [if_neg (by omega), hz x h]]
    · show va_up (va_up κ2 0 none) (j + 1) _ (r + 1) = κ r
      rw [va_up_ne _ _ (by omega), va_up_ne _ _ (by omega), hk2 (r + 1) (by omega), hk1 (r + 1) (by omega), hκ0]; exact if_neg (by omega)
  · exfalso; omega
set_option maxHeartbeats 4000000 in
set_option maxRecDepth 100000 in
theorem c_Bytes_cut (l : Launch) (D : va_G) (g : Nat → ClassId) (lo : Nat) (L : Nat → Nat) (κ : Nat → Option va_E) (i j mo n sz : Nat) (b : Nat → Int) (hB : bxs g L κ i j mo n sz b) (a1 a2 : Int) (hG : 0 ≤ a1 ∧ 0 ≤ a2 ∧ a1 ≤ sz - a2) : Met l y_Bytes_cut w_Bytes_cut ({ frames := 1, cells := 0, slots := 0, locals := 40 }) (mwP D vwCl (tyL g) lo L κ [.ref (L i), .int (iI a1), .int (iI a2)]) (mwQ D vwCl lo (bxU g L κ i j mo n (sz - a2.toNat) (bCut b sz a1 a2))) 0 0 (fun q => lo ≤ q) := by
  obtain ⟨hz1, hz2, hz3⟩ := hB.2.2.1
  have hij := bxs_ne hB
  refine Met.ofW (cc := b_Bytes_cut) (maxL := 3) (ret := (Option.none : Option Jvm.ClassFile.FieldType)) (by decide) rfl ?_
  intro p e s m args below meth c s₁ B hml hpre
  obtain ⟨hargs, hM, hK⟩ := hpre
  have hx := B.exec
  have hb := B.bytes
  have hr := B.returns
  have hts : ∀ w ∈ wA, w.before args s = true := fun w h => atoms_spec (ws := w_Bytes_cut) B.pre w (List.mem_cons_of_mem _ h)
  have hown : s.vm.findClass R_Bytes = some m.cls := findClass_of_methodNamed B.named
  have hlocks := B.notSynchronized
  have hS : va_S (fun q => lo ≤ q) s.heap s.heap [] := va_S.rf
  obtain ⟨ls, hls, hl⟩ := mw_entry (m := m) [.ref (L i), .int (iI a1), .int (iI a2)] (n := 3) (Nat.le_of_ble_eq_true rfl) hargs
  refine W.eq hls ?_
  have hl : lv_has ls 3 [(0, .ref (L i)), (1, .int (iI a1)), (2, .int (iI a2))] := hl
  refine lv_iload_n hx hb d_Bytes_cut_0 rfl (lv_at hl 1 rfl) ?_
  refine ia_if_lt (a := a1) (tgt := 18) hx hb d_Bytes_cut_1 (by decide) (by omega) (fun c1 => ?_) (fun c1 => ?_)
  · exfalso; omega
  · refine lv_iload_n hx hb d_Bytes_cut_4 rfl (lv_at hl 2 rfl) ?_
    refine ia_if_lt (a := a2) (tgt := 18) hx hb d_Bytes_cut_5 (by decide) (by omega) (fun c2 => ?_) (fun c2 => ?_)
    · exfalso; omega
    · refine lv_iload_n hx hb d_Bytes_cut_8 rfl (lv_at hl 1 rfl) ?_
      refine lv_aload_n hx hb d_Bytes_cut_9 rfl (lv_at hl 0 rfl) ?_
      refine mw_get (ci := 0) (i := i) (v := .int (iI sz)) (C := R_Bytes) (T := T_Bytes) (N := 3) hx hb hts in_Bytes hown hK hM hB.1 rfl rfl 2 (by decide) (hts _ m_77) rfl d_Bytes_cut_10 ?_
      refine lv_iload_n hx hb d_Bytes_cut_13 rfl (lv_at hl 2 rfl) ?_
      refine ia_sub hx hb d_Bytes_cut_14 ?_
      refine ia_icmp_le (a := a1) (b := sz - a2) (tgt := 19) hx hb d_Bytes_cut_15 (by decide) (by omega) (by omega) (fun c3 => ?_) (fun c3 => ?_)
      · refine lv_aload_n hx hb d_Bytes_cut_19 rfl (lv_at hl 0 rfl) ?_
        refine mw_get (ci := 0) (i := i) (v := .ref (L j)) (C := R_Bytes) (T := T_Bytes) (N := 3) hx hb hts in_Bytes hown hK hM hB.1 rfl rfl 1 (by decide) (hts _ m_76) rfl d_Bytes_cut_20 ?_
        refine lv_iload_n hx hb d_Bytes_cut_23 rfl (lv_at hl 1 rfl) ?_
        refine lv_iload_n hx hb d_Bytes_cut_24 rfl (lv_at hl 2 rfl) ?_
        refine ia_add hx hb d_Bytes_cut_25 ?_
        refine lv_aload_n hx hb d_Bytes_cut_26 rfl (lv_at hl 0 rfl) ?_
        refine mw_get (ci := 0) (i := i) (v := .ref (L j)) (C := R_Bytes) (T := T_Bytes) (N := 3) hx hb hts in_Bytes hown hK hM hB.1 rfl rfl 1 (by decide) (hts _ m_76) rfl d_Bytes_cut_27 ?_
        refine lv_iload_n hx hb d_Bytes_cut_30 rfl (lv_at hl 1 rfl) ?_
        refine lv_aload_n hx hb d_Bytes_cut_31 rfl (lv_at hl 0 rfl) ?_
        refine mw_get (ci := 0) (i := i) (v := .int (iI sz)) (C := R_Bytes) (T := T_Bytes) (N := 3) hx hb hts in_Bytes hown hK hM hB.1 rfl rfl 2 (by decide) (hts _ m_77) rfl d_Bytes_cut_32 ?_
        refine lv_iload_n hx hb d_Bytes_cut_35 rfl (lv_at hl 1 rfl) ?_
        refine ia_sub hx hb d_Bytes_cut_36 ?_
        refine lv_iload_n hx hb d_Bytes_cut_37 rfl (lv_at hl 2 rfl) ?_
        refine ia_sub hx hb d_Bytes_cut_38 ?_
        refine mw_copyb (i := j) (j := j) (sp := a1 + a2) (dp := a1) (n := (sz - a1) - a2) hx hb (hml.trans hl.1.symm) hown (hts _ m_116) (hts _ m_115) (hts _ m_114) (hts _ m_55) hK hM hS 0 0 hB.2.1 hB.2.1 rfl rfl rfl rfl (by omega) (by omega) (by omega) (by omega) (by omega) (by omega) (by omega) (Nat.le_of_ble_eq_true rfl) (Nat.le_of_ble_eq_true rfl) d_Bytes_cut_39 (fun κ4 H locs e4 hk4 hM hS => ?_)
        have e5 := (hk4 i (by omega)).trans hB.1
        refine lv_aload_n hx hb d_Bytes_cut_42 rfl (lv_at hl 0 rfl) ?_
        refine lv_dup hx hb d_Bytes_cut_43 rfl ?_
        refine mw_get (ci := 0) (i := i) (v := .int (iI sz)) (C := R_Bytes) (T := T_Bytes) (N := 3) hx hb hts in_Bytes hown hK hM e5 rfl rfl 2 (by decide) (hts _ m_77) rfl d_Bytes_cut_44 ?_
        refine lv_iload_n hx hb d_Bytes_cut_47 rfl (lv_at hl 2 rfl) ?_
        refine ia_sub hx hb d_Bytes_cut_48 ?_
        refine mw_put (ci := 0) (i := i) (v := .int (iI (sz - a2))) (C := R_Bytes) (T := T_Bytes) (N := 3) hx hb hts in_Bytes ty_Bytes ty_Bytes_ok nm_Bytes hown hK hM hS e5 rfl rfl 2 (by decide) (hts _ m_77) rfl (ty_Bytes_ok 2 (by decide)) rfl rfl (Nat.le_of_ble_eq_true rfl) d_Bytes_cut_49 (fun κ6 H locs e6 hk6 hM hS => ?_)
        have e6 : κ6 i = some (.inr (0, [.int (iI mo), .ref (L j), .int (iI (sz - a2))])) := e6
        have e7 := (hk6 j (by omega)).trans e4
        exact mw_vret hx hb hr hM hS hlocks d_Bytes_cut_52 ⟨rfl, rfl, ⟨by rw [show ((sz - a2.toNat : Nat) : Int) = sz - a2 by omega]; exact e6, e7, ⟨by omega, by omega, by omega⟩, cpy_r hB.2.2.2.1 hB.2.2.2.1 _ _ _, cpy_z hB.2.2.2.2 (by omega)⟩, fun r h1 h2 => by rw [hk6 r h1, hk4 r h2]⟩
      · exfalso; omega
set_option maxHeartbeats 4000000 in
set_option maxRecDepth 100000 in
theorem c_Bytes_putFrom (l : Launch) (D : va_G) (g : Nat → ClassId) (lo : Nat) (L : Nat → Nat) (κ : Nat → Option va_E) (i j mo n sz : Nat) (b : Nat → Int) (hB : bxs g L κ i j mo n sz b) (i2 j2 mo2 n2 sz2 : Nat) (b2 : Nat → Int) (hB2 : bxs g L κ i2 j2 mo2 n2 sz2 b2) (a1 a3 a4 : Int) (hd : i ≠ i2 ∧ i ≠ j2 ∧ j ≠ i2 ∧ j ≠ j2) (hG : 0 ≤ a1 ∧ 0 ≤ a3 ∧ 0 ≤ a4 ∧ a1 ≤ sz - a4 ∧ a3 ≤ sz2 - a4) : Met l y_Bytes_putFrom w_Bytes_putFrom ({ frames := 1, cells := 0, slots := 0, locals := 40 }) (mwP D vwCl (tyL g) lo L κ [.ref (L i), .int (iI a1), .ref (L i2), .int (iI a3), .int (iI a4)]) (mwQ D vwCl lo (bxU g L κ i j mo n sz (bCopy b b2 a1 a3 a4))) 0 0 (fun q => lo ≤ q) := by
  obtain ⟨hz1, hz2, hz3⟩ := hB.2.2.1
  obtain ⟨hy1, hy2, hy3⟩ := hB2.2.2.1
  have hij := bxs_ne hB
  have hij2 := bxs_ne hB2
  refine Met.ofW (cc := b_Bytes_putFrom) (maxL := 5) (ret := (Option.none : Option Jvm.ClassFile.FieldType)) (by decide) rfl ?_
  intro p e s m args below meth c s₁ B hml hpre
  obtain ⟨hargs, hM, hK⟩ := hpre
  have hx := B.exec
  have hb := B.bytes
  have hr := B.returns
  have hts : ∀ w ∈ wA, w.before args s = true := fun w h => atoms_spec (ws := w_Bytes_putFrom) B.pre w (List.mem_cons_of_mem _ h)
  have hown : s.vm.findClass R_Bytes = some m.cls := findClass_of_methodNamed B.named
  have hlocks := B.notSynchronized
  have hS : va_S (fun q => lo ≤ q) s.heap s.heap [] := va_S.rf
  obtain ⟨ls, hls, hl⟩ := mw_entry (m := m) [.ref (L i), .int (iI a1), .ref (L i2), .int (iI a3), .int (iI a4)] (n := 5) (Nat.le_of_ble_eq_true rfl) hargs
  refine W.eq hls ?_
  have hl : lv_has ls 5 [(0, .ref (L i)), (1, .int (iI a1)), (2, .ref (L i2)), (3, .int (iI a3)), (4, .int (iI a4))] := hl
  refine lv_iload_n hx hb d_Bytes_putFrom_0 rfl (lv_at hl 1 rfl) ?_
  refine ia_if_lt (a := a1) (tgt := 35) hx hb d_Bytes_putFrom_1 (by decide) (by omega) (fun c1 => ?_) (fun c1 => ?_)
  · exfalso; omega
  · refine lv_iload_n hx hb d_Bytes_putFrom_4 rfl (lv_at hl 3 rfl) ?_
    refine ia_if_lt (a := a3) (tgt := 35) hx hb d_Bytes_putFrom_5 (by decide) (by omega) (fun c2 => ?_) (fun c2 => ?_)
    · exfalso; omega
    · refine lv_iload hx hb d_Bytes_putFrom_8 (lv_at hl 4 rfl) ?_
      refine ia_if_lt (a := a4) (tgt := 35) hx hb d_Bytes_putFrom_10 (by decide) (by omega) (fun c3 => ?_) (fun c3 => ?_)
      · exfalso; omega
      · refine lv_iload_n hx hb d_Bytes_putFrom_13 rfl (lv_at hl 1 rfl) ?_
        refine lv_aload_n hx hb d_Bytes_putFrom_14 rfl (lv_at hl 0 rfl) ?_
        refine mw_get (ci := 0) (i := i) (v := .int (iI sz)) (C := R_Bytes) (T := T_Bytes) (N := 3) hx hb hts in_Bytes hown hK hM hB.1 rfl rfl 2 (by decide) (hts _ m_77) rfl d_Bytes_putFrom_15 ?_
        refine lv_iload hx hb d_Bytes_putFrom_18 (lv_at hl 4 rfl) ?_
        refine ia_sub hx hb d_Bytes_putFrom_20 ?_
        refine ia_icmp_gt (a := a1) (b := sz - a4) (tgt := 35) hx hb d_Bytes_putFrom_21 (by decide) (by omega) (by omega) (fun c4 => ?_) (fun c4 => ?_)
        · exfalso; omega
        · refine lv_iload_n hx hb d_Bytes_putFrom_24 rfl (lv_at hl 3 rfl) ?_
          refine lv_aload_n hx hb d_Bytes_putFrom_25 rfl (lv_at hl 2 rfl) ?_
          refine mw_get (ci := 0) (i := i2) (v := .int (iI sz2)) (C := R_Bytes) (T := T_Bytes) (N := 3) hx hb hts in_Bytes hown hK hM hB2.1 rfl rfl 2 (by decide) (hts _ m_77) rfl d_Bytes_putFrom_26 ?_
          refine lv_iload hx hb d_Bytes_putFrom_29 (lv_at hl 4 rfl) ?_
          refine ia_sub hx hb d_Bytes_putFrom_31 ?_
          refine ia_icmp_le (a := a3) (b := sz2 - a4) (tgt := 36) hx hb d_Bytes_putFrom_32 (by decide) (by omega) (by omega) (fun c5 => ?_) (fun c5 => ?_)
          · refine lv_aload_n hx hb d_Bytes_putFrom_36 rfl (lv_at hl 2 rfl) ?_
            refine mw_get (ci := 0) (i := i2) (v := .ref (L j2)) (C := R_Bytes) (T := T_Bytes) (N := 3) hx hb hts in_Bytes hown hK hM hB2.1 rfl rfl 1 (by decide) (hts _ m_76) rfl d_Bytes_putFrom_37 ?_
            refine lv_iload_n hx hb d_Bytes_putFrom_40 rfl (lv_at hl 3 rfl) ?_
            refine lv_aload_n hx hb d_Bytes_putFrom_41 rfl (lv_at hl 0 rfl) ?_
            refine mw_get (ci := 0) (i := i) (v := .ref (L j)) (C := R_Bytes) (T := T_Bytes) (N := 3) hx hb hts in_Bytes hown hK hM hB.1 rfl rfl 1 (by decide) (hts _ m_76) rfl d_Bytes_putFrom_42 ?_
            refine lv_iload_n hx hb d_Bytes_putFrom_45 rfl (lv_at hl 1 rfl) ?_
            refine lv_iload hx hb d_Bytes_putFrom_46 (lv_at hl 4 rfl) ?_
            refine mw_copyb (i := j2) (j := j) (sp := a3) (dp := a1) (n := a4) hx hb (hml.trans hl.1.symm) hown (hts _ m_116) (hts _ m_115) (hts _ m_114) (hts _ m_55) hK hM hS 0 0 hB2.2.1 hB.2.1 rfl rfl rfl rfl (by omega) (by omega) (by omega) (by omega) (by omega) (by omega) (by omega) (Nat.le_of_ble_eq_true rfl) (Nat.le_of_ble_eq_true rfl) d_Bytes_putFrom_48 (fun κ6 H locs e6 hk6 hM hS => ?_)
            have hB7 := bxs_keep hB2 (hk6 i2 (by omega)) (hk6 j2 (by omega)) rfl
            have e8 := (hk6 i (by omega)).trans hB.1
            exact mw_vret hx hb hr hM hS hlocks d_Bytes_putFrom_51 ⟨rfl, rfl, bxs_row hB e6 hk6 (cpy_r hB2.2.2.2.1 hB.2.2.2.1 _ _ _) (cpy_z hB.2.2.2.2 (by omega)), fun r h1 h2 => hk6 r h2⟩
          · exfalso; omega
set_option maxHeartbeats 4000000 in
set_option maxRecDepth 100000 in
theorem c_Bytes_openGap (l : Launch) (D : va_G) (g : Nat → ClassId) (lo : Nat) (L : Nat → Nat) (κ : Nat → Option va_E) (i j mo n sz : Nat) (b : Nat → Int) (hB : bxs g L κ i j mo n sz b) (a1 a2 : Int) (hG1 : 0 ≤ a1 ∧ a1 ≤ sz) (hG2 : 0 ≤ a2 ∧ a2 ≤ mo - sz) : Met l y_Bytes_openGap w_Bytes_openGap ({ frames := 2, cells := 1, slots := 2005, locals := 62 }) (mwP D vwCl (tyL g) lo L κ [.ref (L i), .int (iI a1), .int (iI a2)]) (mwQ D vwCl lo (bxW g L κ i j mo (sz + a2.toNat) (bGap b sz a1 a2))) 1 2005 (fun q => lo ≤ q) := by
  obtain ⟨hz1, hz2, hz3⟩ := hB.2.2.1
  have hij := bxs_ne hB
  refine Met.ofW (cc := b_Bytes_openGap) (maxL := 3) (ret := (Option.none : Option Jvm.ClassFile.FieldType)) (by decide) rfl ?_
  intro p e s m args below meth c s₁ B hml hpre
  obtain ⟨hargs, hM, hK⟩ := hpre
  have hx := B.exec
  have hb := B.bytes
  have hr := B.returns
  have hts : ∀ w ∈ wA, w.before args s = true := fun w h => atoms_spec (ws := w_Bytes_openGap) B.pre w (List.mem_cons_of_mem _ h)
  have hown : s.vm.findClass R_Bytes = some m.cls := findClass_of_methodNamed B.named
  have hlocks := B.notSynchronized
  have hS : va_S (fun q => lo ≤ q) s.heap s.heap [] := va_S.rf
  obtain ⟨ls, hls, hl⟩ := mw_entry (m := m) [.ref (L i), .int (iI a1), .int (iI a2)] (n := 3) (Nat.le_of_ble_eq_true rfl) hargs
  refine W.eq hls ?_
  have hl : lv_has ls 3 [(0, .ref (L i)), (1, .int (iI a1)), (2, .int (iI a2))] := hl
  refine lv_iload_n hx hb d_Bytes_openGap_0 rfl (lv_at hl 1 rfl) ?_
  refine ia_if_lt (a := a1) (tgt := 29) hx hb d_Bytes_openGap_1 (by decide) (by omega) (fun c1 => ?_) (fun c1 => ?_)
  · exfalso; omega
  · refine lv_iload_n hx hb d_Bytes_openGap_4 rfl (lv_at hl 1 rfl) ?_
    refine lv_aload_n hx hb d_Bytes_openGap_5 rfl (lv_at hl 0 rfl) ?_
    refine mw_get (ci := 0) (i := i) (v := .int (iI sz)) (C := R_Bytes) (T := T_Bytes) (N := 3) hx hb hts in_Bytes hown hK hM hB.1 rfl rfl 2 (by decide) (hts _ m_77) rfl d_Bytes_openGap_6 ?_
    refine ia_icmp_gt (a := a1) (b := sz) (tgt := 29) hx hb d_Bytes_openGap_9 (by decide) (by omega) (by omega) (fun c2 => ?_) (fun c2 => ?_)
    · exfalso; omega
    · refine lv_iload_n hx hb d_Bytes_openGap_12 rfl (lv_at hl 2 rfl) ?_
      refine ia_if_lt (a := a2) (tgt := 29) hx hb d_Bytes_openGap_13 (by decide) (by omega) (fun c3 => ?_) (fun c3 => ?_)
      · exfalso; omega
      · refine lv_iload_n hx hb d_Bytes_openGap_16 rfl (lv_at hl 2 rfl) ?_
        refine lv_aload_n hx hb d_Bytes_openGap_17 rfl (lv_at hl 0 rfl) ?_
        refine mw_get (ci := 0) (i := i) (v := .int (iI mo)) (C := R_Bytes) (T := T_Bytes) (N := 3) hx hb hts in_Bytes hown hK hM hB.1 rfl rfl 0 (by decide) (hts _ m_75) rfl d_Bytes_openGap_18 ?_
        refine lv_aload_n hx hb d_Bytes_openGap_21 rfl (lv_at hl 0 rfl) ?_
        refine mw_get (ci := 0) (i := i) (v := .int (iI sz)) (C := R_Bytes) (T := T_Bytes) (N := 3) hx hb hts in_Bytes hown hK hM hB.1 rfl rfl 2 (by decide) (hts _ m_77) rfl d_Bytes_openGap_22 ?_
        refine ia_sub hx hb d_Bytes_openGap_25 ?_
        refine ia_icmp_le (a := a2) (b := mo - sz) (tgt := 30) hx hb d_Bytes_openGap_26 (by decide) (by omega) (by omega) (fun c4 => ?_) (fun c4 => ?_)
        · refine lv_aload_n hx hb d_Bytes_openGap_30 rfl (lv_at hl 0 rfl) ?_
          refine mw_get (ci := 0) (i := i) (v := .int (iI sz)) (C := R_Bytes) (T := T_Bytes) (N := 3) hx hb hts in_Bytes hown hK hM hB.1 rfl rfl 2 (by decide) (hts _ m_77) rfl d_Bytes_openGap_31 ?_
          refine lv_iload_n hx hb d_Bytes_openGap_34 rfl (lv_at hl 2 rfl) ?_
          refine ia_add hx hb d_Bytes_openGap_35 ?_
          refine lv_aload_n hx hb d_Bytes_openGap_36 rfl (lv_at hl 0 rfl) ?_
          refine mw_get (ci := 0) (i := i) (v := .ref (L j)) (C := R_Bytes) (T := T_Bytes) (N := 3) hx hb hts in_Bytes hown hK hM hB.1 rfl rfl 1 (by decide) (hts _ m_76) rfl d_Bytes_openGap_37 ?_
          refine mw_alen (i := j) hx hb hK hM 0 hB.2.1 rfl rfl d_Bytes_openGap_40 ?_
          refine ia_icmp_le (a := sz + a2) (b := n) (tgt := 59) hx hb d_Bytes_openGap_41 (by decide) (by omega) (by omega) (fun c5 => ?_) (fun c5 => ?_)
          · refine lv_aload_n hx hb d_Bytes_openGap_59 rfl (lv_at hl 0 rfl) ?_
            refine mw_get (ci := 0) (i := i) (v := .ref (L j)) (C := R_Bytes) (T := T_Bytes) (N := 3) hx hb hts in_Bytes hown hK hM hB.1 rfl rfl 1 (by decide) (hts _ m_76) rfl d_Bytes_openGap_60 ?_
            refine lv_iload_n hx hb d_Bytes_openGap_63 rfl (lv_at hl 1 rfl) ?_
            refine lv_aload_n hx hb d_Bytes_openGap_64 rfl (lv_at hl 0 rfl) ?_
            refine mw_get (ci := 0) (i := i) (v := .ref (L j)) (C := R_Bytes) (T := T_Bytes) (N := 3) hx hb hts in_Bytes hown hK hM hB.1 rfl rfl 1 (by decide) (hts _ m_76) rfl d_Bytes_openGap_65 ?_
            refine lv_iload_n hx hb d_Bytes_openGap_68 rfl (lv_at hl 1 rfl) ?_
            refine lv_iload_n hx hb d_Bytes_openGap_69 rfl (lv_at hl 2 rfl) ?_
            refine ia_add hx hb d_Bytes_openGap_70 ?_
            refine lv_aload_n hx hb d_Bytes_openGap_71 rfl (lv_at hl 0 rfl) ?_
            refine mw_get (ci := 0) (i := i) (v := .int (iI sz)) (C := R_Bytes) (T := T_Bytes) (N := 3) hx hb hts in_Bytes hown hK hM hB.1 rfl rfl 2 (by decide) (hts _ m_77) rfl d_Bytes_openGap_72 ?_
            refine lv_iload_n hx hb d_Bytes_openGap_75 rfl (lv_at hl 1 rfl) ?_
            refine ia_sub hx hb d_Bytes_openGap_76 ?_
            refine mw_copyb (i := j) (j := j) (sp := a1) (dp := a1 + a2) (n := sz - a1) hx hb (hml.trans hl.1.symm) hown (hts _ m_116) (hts _ m_115) (hts _ m_114) (hts _ m_55) hK hM hS 0 0 hB.2.1 hB.2.1 rfl rfl rfl rfl (by omega) (by omega) (by omega) (by omega) (by omega) (by omega) (by omega) (Nat.le_of_ble_eq_true rfl) (Nat.le_of_ble_eq_true rfl) d_Bytes_openGap_77 (fun κ6 H locs e6 hk6 hM hS => ?_)
            have e7 := (hk6 i (by omega)).trans hB.1
            refine lv_aload_n hx hb d_Bytes_openGap_80 rfl (lv_at hl 0 rfl) ?_
            refine lv_dup hx hb d_Bytes_openGap_81 rfl ?_
            refine mw_get (ci := 0) (i := i) (v := .int (iI sz)) (C := R_Bytes) (T := T_Bytes) (N := 3) hx hb hts in_Bytes hown hK hM e7 rfl rfl 2 (by decide) (hts _ m_77) rfl d_Bytes_openGap_82 ?_
            refine lv_iload_n hx hb d_Bytes_openGap_85 rfl (lv_at hl 2 rfl) ?_
            refine ia_add hx hb d_Bytes_openGap_86 ?_
            refine mw_put (ci := 0) (i := i) (v := .int (iI (sz + a2))) (C := R_Bytes) (T := T_Bytes) (N := 3) hx hb hts in_Bytes ty_Bytes ty_Bytes_ok nm_Bytes hown hK hM hS e7 rfl rfl 2 (by decide) (hts _ m_77) rfl (ty_Bytes_ok 2 (by decide)) rfl rfl (Nat.le_of_ble_eq_true rfl) d_Bytes_openGap_87 (fun κ8 H locs e8 hk8 hM hS => ?_)
            have e8 : κ8 i = some (.inr (0, [.int (iI mo), .ref (L j), .int (iI (sz + a2))])) := e8
            have e9 := (hk8 j (by omega)).trans e6
            refine W.widen (k := 1) (n := 2005) (by omega) (by omega) ?_
            exact mw_vret hx hb hr hM hS hlocks d_Bytes_openGap_90 ⟨n, rfl, (fun r h1 => rfl), ⟨by rw [show ((sz + a2.toNat : Nat) : Int) = sz + a2 by omega]; exact e8, e9, ⟨by omega, by omega, by omega⟩, cpy_r hB.2.2.2.1 hB.2.2.2.1 _ _ _, cpy_z hB.2.2.2.2 (by omega)⟩, fun r h1 h2 => by rw [hk8 r h1, hk6 r h2]⟩
          · refine lv_aload_n hx hb d_Bytes_openGap_44 rfl (lv_at hl 0 rfl) ?_
            refine lv_aload_n hx hb d_Bytes_openGap_45 rfl (lv_at hl 0 rfl) ?_
            refine mw_get (ci := 0) (i := i) (v := .ref (L j)) (C := R_Bytes) (T := T_Bytes) (N := 3) hx hb hts in_Bytes hown hK hM hB.1 rfl rfl 1 (by decide) (hts _ m_76) rfl d_Bytes_openGap_46 ?_
            refine lv_aload_n hx hb d_Bytes_openGap_49 rfl (lv_at hl 0 rfl) ?_
            refine mw_get (ci := 0) (i := i) (v := .int (iI mo)) (C := R_Bytes) (T := T_Bytes) (N := 3) hx hb hts in_Bytes hown hK hM hB.1 rfl rfl 0 (by decide) (hts _ m_75) rfl d_Bytes_openGap_50 ?_
            refine mw_callS (As := [.ref (L j), .int (iI mo)]) (rest := [.ref (L i)]) ⟨hx, hb, hml, hown, hts⟩ hK hM hS (c_Arrays_copyOf l D g lo L κ j n mo b hB.2.1 (by omega) hB.2.2.2.1 hB.2.2.2.2) (va_cwS 2 hts (gT m_100 m_101 m_53 m_102) rfl rfl rfl (by decide +kernel) ⟨Nat.le_of_ble_eq_true rfl, Nat.le_of_ble_eq_true rfl⟩) rfl hl.1 rfl (Nat.le_of_ble_eq_true rfl) d_Bytes_openGap_53 ⟨Nat.le_of_ble_eq_true rfl, Nat.le_of_ble_eq_true rfl⟩ (fun v10 L10 κ10 H locs hp10 hM hS => ?_)
            obtain ⟨rfl, hL10, e10, hk10⟩ := hp10
            have e11 := (hk10 i (by omega)).trans hB.1
            refine mw_put (ci := 0) (i := i) (v := .ref (L10 j)) (C := R_Bytes) (T := T_Bytes) (N := 3) hx hb hts in_Bytes ty_Bytes ty_Bytes_ok nm_Bytes hown hK hM hS e11 (hL10 i (by omega)) rfl 1 (by decide) (hts _ m_76) rfl (ty_Bytes_ok 1 (by decide)) rfl rfl (Nat.le_of_ble_eq_true rfl) d_Bytes_openGap_56 (fun κ12 H locs e12 hk12 hM hS => ?_)
            have e12 : κ12 i = some (.inr (0, [.int (iI mo), .ref (L10 j), .int (iI sz)])) := e12
            have e13 := (hk12 j (by omega)).trans e10
            refine lv_aload_n hx hb d_Bytes_openGap_59 rfl (lv_at hl 0 rfl) ?_
            refine mw_get (ci := 0) (i := i) (v := .ref (L10 j)) (C := R_Bytes) (T := T_Bytes) (N := 3) hx hb hts in_Bytes hown hK hM e12 (hL10 i (by omega)) rfl 1 (by decide) (hts _ m_76) rfl d_Bytes_openGap_60 ?_
            refine lv_iload_n hx hb d_Bytes_openGap_63 rfl (lv_at hl 1 rfl) ?_
            refine lv_aload_n hx hb d_Bytes_openGap_64 rfl (lv_at hl 0 rfl) ?_
            refine mw_get (ci := 0) (i := i) (v := .ref (L10 j)) (C := R_Bytes) (T := T_Bytes) (N := 3) hx hb hts in_Bytes hown hK hM e12 (hL10 i (by omega)) rfl 1 (by decide) (hts _ m_76) rfl d_Bytes_openGap_65 ?_
            refine lv_iload_n hx hb d_Bytes_openGap_68 rfl (lv_at hl 1 rfl) ?_
            refine lv_iload_n hx hb d_Bytes_openGap_69 rfl (lv_at hl 2 rfl) ?_
            refine ia_add hx hb d_Bytes_openGap_70 ?_
            refine lv_aload_n hx hb d_Bytes_openGap_71 rfl (lv_at hl 0 rfl) ?_
            refine mw_get (ci := 0) (i := i) (v := .int (iI sz)) (C := R_Bytes) (T := T_Bytes) (N := 3) hx hb hts in_Bytes hown hK hM e12 (hL10 i (by omega)) rfl 2 (by decide) (hts _ m_77) rfl d_Bytes_openGap_72 ?_
            refine lv_iload_n hx hb d_Bytes_openGap_75 rfl (lv_at hl 1 rfl) ?_
            refine ia_sub hx hb d_Bytes_openGap_76 ?_
            refine mw_copyb (i := j) (j := j) (sp := a1) (dp := a1 + a2) (n := sz - a1) hx hb (hml.trans hl.1.symm) hown (hts _ m_116) (hts _ m_115) (hts _ m_114) (hts _ m_55) hK hM hS 0 0 e13 e13 rfl rfl rfl rfl (by omega) (by omega) (by omega) (by omega) (by omega) (by omega) (by omega) (Nat.le_of_ble_eq_true rfl) (Nat.le_of_ble_eq_true rfl) d_Bytes_openGap_77 (fun κ14 H locs e14 hk14 hM hS => ?_)
            have e15 := (hk14 i (by omega)).trans e12
            refine lv_aload_n hx hb d_Bytes_openGap_80 rfl (lv_at hl 0 rfl) ?_
            refine lv_dup hx hb d_Bytes_openGap_81 rfl ?_
            refine mw_get (ci := 0) (i := i) (v := .int (iI sz)) (C := R_Bytes) (T := T_Bytes) (N := 3) hx hb hts in_Bytes hown hK hM e15 (hL10 i (by omega)) rfl 2 (by decide) (hts _ m_77) rfl d_Bytes_openGap_82 ?_
            refine lv_iload_n hx hb d_Bytes_openGap_85 rfl (lv_at hl 2 rfl) ?_
            refine ia_add hx hb d_Bytes_openGap_86 ?_
            refine mw_put (ci := 0) (i := i) (v := .int (iI (sz + a2))) (C := R_Bytes) (T := T_Bytes) (N := 3) hx hb hts in_Bytes ty_Bytes ty_Bytes_ok nm_Bytes hown hK hM hS e15 (hL10 i (by omega)) rfl 2 (by decide) (hts _ m_77) rfl (ty_Bytes_ok 2 (by decide)) rfl rfl (Nat.le_of_ble_eq_true rfl) d_Bytes_openGap_87 (fun κ16 H locs e16 hk16 hM hS => ?_)
            have e16 : κ16 i = some (.inr (0, [.int (iI mo), .ref (L10 j), .int (iI (sz + a2))])) := e16
            have e17 := (hk16 j (by omega)).trans e14
            exact mw_vret hx hb hr hM hS hlocks d_Bytes_openGap_90 ⟨mo, rfl, hL10, ⟨by rw [show ((sz + a2.toNat : Nat) : Int) = sz + a2 by omega]; exact e16, e17, ⟨by omega, by omega, by omega⟩, cpy_r hB.2.2.2.1 hB.2.2.2.1 _ _ _, cpy_z (fun x hx => hB.2.2.2.2 x (by omega)) (by omega)⟩, fun r h1 h2 => by rw [hk16 r h1, hk14 r h2, hk12 r h1, hk10 r h2]⟩
        · exfalso; omega
set_option maxHeartbeats 4000000 in
set_option maxRecDepth 100000 in
theorem c_Bytes_appendFrom (l : Launch) (D : va_G) (g : Nat → ClassId) (lo : Nat) (L : Nat → Nat) (κ : Nat → Option va_E) (i j mo n sz : Nat) (b : Nat → Int) (hB : bxs g L κ i j mo n sz b) (i2 j2 mo2 n2 sz2 : Nat) (b2 : Nat → Int) (hB2 : bxs g L κ i2 j2 mo2 n2 sz2 b2) (a2 a3 : Int) (hd : i ≠ i2 ∧ i ≠ j2 ∧ j ≠ i2 ∧ j ≠ j2) (hG : 0 ≤ a2 ∧ 0 ≤ a3 ∧ a2 ≤ sz2 - a3 ∧ a3 ≤ mo - sz) : Met l y_Bytes_appendFrom w_Bytes_appendFrom ({ frames := 3, cells := 1, slots := 2005, locals := 84 }) (mwP D vwCl (tyL g) lo L κ [.ref (L i), .ref (L i2), .int (iI a2), .int (iI a3)]) (mwQ D vwCl lo (bxW g L κ i j mo (sz + a3.toNat) (bApp b sz b2 a2 a3))) 1 2005 (fun q => lo ≤ q) := by
  obtain ⟨hz1, hz2, hz3⟩ := hB.2.2.1
  obtain ⟨hy1, hy2, hy3⟩ := hB2.2.2.1
  have hij := bxs_ne hB
  have hij2 := bxs_ne hB2
  refine Met.ofW (cc := b_Bytes_appendFrom) (maxL := 5) (ret := (Option.none : Option Jvm.ClassFile.FieldType)) (by decide) rfl ?_
  intro p e s m args below meth c s₁ B hml hpre
  obtain ⟨hargs, hM, hK⟩ := hpre
  have hx := B.exec
  have hb := B.bytes
  have hr := B.returns
  have hts : ∀ w ∈ wA, w.before args s = true := fun w h => atoms_spec (ws := w_Bytes_appendFrom) B.pre w (List.mem_cons_of_mem _ h)
  have hown : s.vm.findClass R_Bytes = some m.cls := findClass_of_methodNamed B.named
  have hlocks := B.notSynchronized
  have hS : va_S (fun q => lo ≤ q) s.heap s.heap [] := va_S.rf
  obtain ⟨ls, hls, hl⟩ := mw_entry (m := m) [.ref (L i), .ref (L i2), .int (iI a2), .int (iI a3)] (n := 5) (Nat.le_of_ble_eq_true rfl) hargs
  refine W.eq hls ?_
  have hl : lv_has ls 5 [(0, .ref (L i)), (1, .ref (L i2)), (2, .int (iI a2)), (3, .int (iI a3))] := hl
  refine lv_aload_n hx hb d_Bytes_appendFrom_0 rfl (lv_at hl 0 rfl) ?_
  refine mw_get (ci := 0) (i := i) (v := .int (iI sz)) (C := R_Bytes) (T := T_Bytes) (N := 3) hx hb hts in_Bytes hown hK hM hB.1 rfl rfl 2 (by decide) (hts _ m_77) rfl d_Bytes_appendFrom_1 ?_
  refine lv_istore (lv' := [(4, .int (iI sz)), (0, .ref (L i)), (1, .ref (L i2)), (2, .int (iI a2)), (3, .int (iI a3))]) hx hb d_Bytes_appendFrom_4 hl (by decide) rfl (fun ls hl => ?_)
  refine lv_aload_n hx hb d_Bytes_appendFrom_6 rfl (lv_at hl 1 rfl) ?_
  refine lv_iload hx hb d_Bytes_appendFrom_7 (lv_at hl 0 rfl) ?_
  refine lv_iload_n hx hb d_Bytes_appendFrom_9 rfl (lv_at hl 4 rfl) ?_
  refine mw_callV (i := i) (As := [.int (iI sz), .int (iI a3)]) (rest := []) ⟨hx, hb, hml, hown, hts⟩ hK hM hS rfl hB.1 rfl (c_Bytes_openGap l D g lo L κ i j mo n sz b hB sz a3 (by omega) (by omega)) (cwV 2 hts (gV m_96 m_97 m_98 m_52 m_99) rfl rfl rfl (by decide +kernel) ⟨Nat.le_of_ble_eq_true rfl, Nat.le_of_ble_eq_true rfl⟩) rfl hl.1 rfl (Nat.le_of_ble_eq_true rfl) d_Bytes_appendFrom_10 ⟨Nat.le_of_ble_eq_true rfl, Nat.le_of_ble_eq_true rfl⟩ (fun v1 L1 κ1 H locs hp1 hM hS => ?_)
  obtain ⟨n1, rfl, hL1, hB1, hk1⟩ := hp1
  have hB1 : bxs g L1 κ1 i j mo n1 (sz + a3.toNat) (bGap b sz sz a3) := hB1
  have r2 := hB1.2.2.1
  have hB3 := bxs_keep hB2 (hk1 i2 (by omega) (by omega)) (hk1 j2 (by omega) (by omega)) (hL1 j2 (by omega))
  refine lv_aload_n hx hb d_Bytes_appendFrom_13 rfl (lv_at hl 1 rfl) ?_
  refine lv_iload hx hb d_Bytes_appendFrom_14 (lv_at hl 0 rfl) ?_
  refine lv_aload_n hx hb d_Bytes_appendFrom_16 rfl (lv_at hl 2 rfl) ?_
  refine lv_iload_n hx hb d_Bytes_appendFrom_17 rfl (lv_at hl 3 rfl) ?_
  refine lv_iload_n hx hb d_Bytes_appendFrom_18 rfl (lv_at hl 4 rfl) ?_
  refine mw_callV (i := i) (As := [.int (iI sz), .ref (L1 i2), .int (iI a2), .int (iI a3)]) (rest := []) ⟨hx, hb, hml, hown, hts⟩ hK hM hS (hL1 i (by omega)) hB1.1 rfl (c_Bytes_putFrom l D g lo L1 κ1 i j mo n1 (sz + a3.toNat) (bGap b sz sz a3) hB1 i2 j2 mo2 n2 sz2 b2 hB3 sz a2 a3 (by omega) (by omega)) (cwV 4 hts (gV m_366 m_367 m_368 m_52 m_369) rfl rfl rfl (by decide +kernel) ⟨Nat.le_of_ble_eq_true rfl, Nat.le_of_ble_eq_true rfl⟩) rfl hl.1 (by rw [show L1 i2 = L i2 from (hL1 i2 (by omega))]; rfl) (Nat.le_of_ble_eq_true rfl) d_Bytes_appendFrom_19 ⟨Nat.le_of_ble_eq_true rfl, Nat.le_of_ble_eq_true rfl⟩ (fun v4 L4 κ4 H locs hp4 hM hS => ?_)
  obtain ⟨rfl, rfl, hB4, hk4⟩ := hp4
  have hB5 := bxs_keep hB3 (hk4 i2 (by omega) (by omega)) (hk4 j2 (by omega) (by omega)) rfl
  exact mw_vret hx hb hr hM hS hlocks d_Bytes_appendFrom_22 ⟨_, rfl, fun r h1 => by rw [hL1 r h1], hB4, fun r h1 h2 => by rw [hk4 r h1 h2, hk1 r h1 h2]⟩
set_option maxHeartbeats 4000000 in
set_option maxRecDepth 100000 in
theorem c_Bytes_appendNumber (l : Launch) (D : va_G) (g : Nat → ClassId) (lo : Nat) (L : Nat → Nat) (κ : Nat → Option va_E) (i j mo n sz : Nat) (b : Nat → Int) (hB : bxs g L κ i j mo n sz b) (v a2 : Int) (ha2 : 0 ≤ a2 ∧ a2 ≤ 8 ∧ a2 ≤ mo - sz) (hv : -9223372036854775808 ≤ v ∧ v < 9223372036854775808) : Met l y_Bytes_appendNumber w_Bytes_appendNumber ({ frames := 3, cells := 1, slots := 2005, locals := 84 }) (mwP D vwCl (tyL g) lo L κ [.ref (L i), .long (lI v), .int (iI a2)]) (mwQ D vwCl lo (bxW g L κ i j mo (sz + a2.toNat) (bAppNum b sz v a2))) 1 2005 (fun q => lo ≤ q) := by
  obtain ⟨hz1, hz2, hz3⟩ := hB.2.2.1
  have hij := bxs_ne hB
  refine Met.ofW (cc := b_Bytes_appendNumber) (maxL := 5) (ret := (Option.none : Option Jvm.ClassFile.FieldType)) (by decide) rfl ?_
  intro p e s m args below meth c s₁ B hml hpre
  obtain ⟨hargs, hM, hK⟩ := hpre
  have hx := B.exec
  have hb := B.bytes
  have hr := B.returns
  have hts : ∀ w ∈ wA, w.before args s = true := fun w h => atoms_spec (ws := w_Bytes_appendNumber) B.pre w (List.mem_cons_of_mem _ h)
  have hown : s.vm.findClass R_Bytes = some m.cls := findClass_of_methodNamed B.named
  have hlocks := B.notSynchronized
  have hS : va_S (fun q => lo ≤ q) s.heap s.heap [] := va_S.rf
  obtain ⟨ls, hls, hl⟩ := mw_entry (m := m) [.ref (L i), .long (lI v), .int (iI a2)] (n := 5) (Nat.le_of_ble_eq_true rfl) hargs
  refine W.eq hls ?_
  have hl : lv_has ls 5 [(0, .ref (L i)), (1, .long (lI v)), (3, .int (iI a2))] := hl
  refine lv_aload_n hx hb d_Bytes_appendNumber_0 rfl (lv_at hl 0 rfl) ?_
  refine mw_get (ci := 0) (i := i) (v := .int (iI sz)) (C := R_Bytes) (T := T_Bytes) (N := 3) hx hb hts in_Bytes hown hK hM hB.1 rfl rfl 2 (by decide) (hts _ m_77) rfl d_Bytes_appendNumber_1 ?_
  refine lv_istore (lv' := [(4, .int (iI sz)), (0, .ref (L i)), (1, .long (lI v)), (3, .int (iI a2))]) hx hb d_Bytes_appendNumber_4 hl (by decide) rfl (fun ls hl => ?_)
  refine lv_aload_n hx hb d_Bytes_appendNumber_6 rfl (lv_at hl 1 rfl) ?_
  refine lv_iload hx hb d_Bytes_appendNumber_7 (lv_at hl 0 rfl) ?_
  refine lv_iload_n hx hb d_Bytes_appendNumber_9 rfl (lv_at hl 3 rfl) ?_
  refine mw_callV (i := i) (As := [.int (iI sz), .int (iI a2)]) (rest := []) ⟨hx, hb, hml, hown, hts⟩ hK hM hS rfl hB.1 rfl (c_Bytes_openGap l D g lo L κ i j mo n sz b hB sz a2 (by omega) (by omega)) (cwV 2 hts (gV m_96 m_97 m_98 m_52 m_99) rfl rfl rfl (by decide +kernel) ⟨Nat.le_of_ble_eq_true rfl, Nat.le_of_ble_eq_true rfl⟩) rfl hl.1 rfl (Nat.le_of_ble_eq_true rfl) d_Bytes_appendNumber_10 ⟨Nat.le_of_ble_eq_true rfl, Nat.le_of_ble_eq_true rfl⟩ (fun v1 L1 κ1 H locs hp1 hM hS => ?_)
  obtain ⟨n1, rfl, hL1, hB1, hk1⟩ := hp1
  have hB1 : bxs g L1 κ1 i j mo n1 (sz + a2.toNat) (bGap b sz sz a2) := hB1
  have r2 := hB1.2.2.1
  refine lv_aload_n hx hb d_Bytes_appendNumber_13 rfl (lv_at hl 1 rfl) ?_
  refine lv_iload hx hb d_Bytes_appendNumber_14 (lv_at hl 0 rfl) ?_
  refine lv_iload_n hx hb d_Bytes_appendNumber_16 rfl (lv_at hl 3 rfl) ?_
  refine lv_lload_n hx hb d_Bytes_appendNumber_17 rfl (lv_at hl 2 rfl) ?_
  refine mw_callV (i := i) (As := [.int (iI sz), .int (iI a2), .long (lI v)]) (rest := []) ⟨hx, hb, hml, hown, hts⟩ hK hM hS (hL1 i (by omega)) hB1.1 rfl (c_Bytes_putNumber l D g lo L1 κ1 i j mo n1 (sz + a2.toNat) (bGap b sz sz a2) hB1 sz a2 v (by omega) (by omega) (by omega)) (cwV 3 hts (gV m_117 m_118 m_119 m_52 m_120) rfl rfl rfl (by decide +kernel) ⟨Nat.le_of_ble_eq_true rfl, Nat.le_of_ble_eq_true rfl⟩) rfl hl.1 rfl (Nat.le_of_ble_eq_true rfl) d_Bytes_appendNumber_18 ⟨Nat.le_of_ble_eq_true rfl, Nat.le_of_ble_eq_true rfl⟩ (fun v3 L3 κ3 H locs hp3 hM hS => ?_)
  obtain ⟨rfl, rfl, hB3, hk3⟩ := hp3
  exact mw_vret hx hb hr hM hS hlocks d_Bytes_appendNumber_21 ⟨_, rfl, fun r h1 => by rw [hL1 r h1], hB3, fun r h1 h2 => by rw [hk3 r h1 h2, hk1 r h1 h2]⟩
set_option maxHeartbeats 4000000 in
set_option maxRecDepth 100000 in
theorem c_Bytes_appendHighestFirst (l : Launch) (D : va_G) (g : Nat → ClassId) (lo : Nat) (L : Nat → Nat) (κ : Nat → Option va_E) (i j mo n sz : Nat) (b : Nat → Int) (hB : bxs g L κ i j mo n sz b) (v : Int) (hv : -2147483648 ≤ v ∧ v < 2147483648) (hG : 4 ≤ (mo : Int) - sz) : Met l y_Bytes_appendHighestFirst w_Bytes_appendHighestFirst ({ frames := 3, cells := 1, slots := 2005, locals := 84 }) (mwP D vwCl (tyL g) lo L κ [.ref (L i), .int (iI v)]) (mwQ D vwCl lo (bxW g L κ i j mo (sz + 4) (bAppHf b sz v))) 1 2005 (fun q => lo ≤ q) := by
  obtain ⟨hz1, hz2, hz3⟩ := hB.2.2.1
  have hij := bxs_ne hB
  refine Met.ofW (cc := b_Bytes_appendHighestFirst) (maxL := 4) (ret := (Option.none : Option Jvm.ClassFile.FieldType)) (by decide) rfl ?_
  intro p e s m args below meth c s₁ B hml hpre
  obtain ⟨hargs, hM, hK⟩ := hpre
  have hx := B.exec
  have hb := B.bytes
  have hr := B.returns
  have hts : ∀ w ∈ wA, w.before args s = true := fun w h => atoms_spec (ws := w_Bytes_appendHighestFirst) B.pre w (List.mem_cons_of_mem _ h)
  have hown : s.vm.findClass R_Bytes = some m.cls := findClass_of_methodNamed B.named
  have hlocks := B.notSynchronized
  have hS : va_S (fun q => lo ≤ q) s.heap s.heap [] := va_S.rf
  have loop13 : ∀ (N : Nat) (k : Int) (n1 : Nat) (b1 : Nat → Int) (L1 : Nat → Nat) (κ1 : Nat → Option va_E), (4 - k).toNat < N → (bxs g L1 κ1 i j mo n1 (sz + 4) b1) → (∀ r, r ≠ i → r ≠ j → κ1 r = κ r) → (∀ r, r ≠ j → L1 r = L r) → (0 ≤ k ∧ k ≤ 4) → (bAppHf b sz v = bHf (sz + 4) sz v k b1) → ∀ (H : Heap) (locs : List Loc) (ls : Array Slot), mw D vwCl lo L1 κ1 H → va_S (fun q => lo ≤ q) s.heap H locs → lv_has ls 4 [(3, .int (iI k)), (2, .int (iI sz)), (0, .ref (L i)), (1, .int (iI v))] → W p l e (headSpec w_Bytes_appendHighestFirst ({ frames := 3, cells := 1, slots := 2005, locals := 84 })).room s m args below meth c H locs 1 2005 (MQ below (mwQ D vwCl lo (bxW g L κ i j mo (sz + 4) (bAppHf b sz v))) args s 1 2005 (fun q => lo ≤ q)) (F0 m 13 ls []) := by
    intro N
    induction N with
    | zero => intro k n1 b1 L1 κ1 hms; exact absurd hms (Nat.not_lt_zero _)
    | succ N ih =>
      intro k n1 b1 L1 κ1 hms hB1 hf hLf hk hres H locs ls hM hS hl
      refine lv_iload_n hx hb d_Bytes_appendHighestFirst_13 rfl (lv_at hl 0 rfl) ?_
      refine lv_iconst (v := iI (4)) hx hb d_Bytes_appendHighestFirst_14 rfl ?_
      refine ia_icmp_ge (a := k) (b := 4) (tgt := 40) hx hb d_Bytes_appendHighestFirst_15 (by decide) (by omega) (by omega) (fun c1 => ?_) (fun c1 => ?_)
      · exact mw_vret hx hb hr hM hS hlocks d_Bytes_appendHighestFirst_40 ⟨n1, rfl, hLf, by rw [hres, bHf_end (by omega)]; exact hB1, hf⟩
      · refine lv_aload_n hx hb d_Bytes_appendHighestFirst_18 rfl (lv_at hl 2 rfl) ?_
        refine lv_iload_n hx hb d_Bytes_appendHighestFirst_19 rfl (lv_at hl 1 rfl) ?_
        refine lv_iload_n hx hb d_Bytes_appendHighestFirst_20 rfl (lv_at hl 0 rfl) ?_
        refine ia_add hx hb d_Bytes_appendHighestFirst_21 ?_
        refine lv_iload_n hx hb d_Bytes_appendHighestFirst_22 rfl (lv_at hl 3 rfl) ?_
        refine lv_bipush (v := iI (24)) hx hb d_Bytes_appendHighestFirst_23 (by decide) ?_
        refine lv_bipush (v := iI (8)) hx hb d_Bytes_appendHighestFirst_25 (by decide) ?_
        refine lv_iload_n hx hb d_Bytes_appendHighestFirst_27 rfl (lv_at hl 0 rfl) ?_
        refine ia_mul hx hb d_Bytes_appendHighestFirst_28 ?_
        refine ia_sub hx hb d_Bytes_appendHighestFirst_29 ?_
        refine ia_ishr hx hb (by omega) (by omega) d_Bytes_appendHighestFirst_30 ?_
        refine mw_callV (i := i) (As := [.int (iI (sz + k)), .int (iI (v / 2 ^ (24 - (8 * k)).toNat))]) (rest := []) ⟨hx, hb, hml, hown, hts⟩ hK hM hS (hLf i hij) hB1.1 rfl (c_Bytes_put l D g lo L1 κ1 i j mo n1 (sz + 4) b1 hB1 (sz + k) (v / 2 ^ (24 - (8 * k)).toNat) (by omega)) (cwV 2 hts (gV m_121 m_122 m_123 m_52 m_124) rfl rfl rfl (by decide +kernel) ⟨Nat.le_of_ble_eq_true rfl, Nat.le_of_ble_eq_true rfl⟩) rfl hl.1 rfl (Nat.le_of_ble_eq_true rfl) d_Bytes_appendHighestFirst_31 ⟨Nat.le_of_ble_eq_true rfl, Nat.le_of_ble_eq_true rfl⟩ (fun v2 L2 κ2 H locs hp2 hM hS => ?_)
        obtain ⟨rfl, rfl, hB2, hk2⟩ := hp2
        refine lv_iinc (v := iI (k + 1)) (lv' := [(3, .int (iI (k + 1))), (2, .int (iI sz)), (0, .ref (L i)), (1, .int (iI v))]) hx hb d_Bytes_appendHighestFirst_34 hl (k := 0) rfl (iI_inc _ _) (by decide) rfl (fun ls hl => ?_)
        refine lv_goto (tgt := 13) hx hb d_Bytes_appendHighestFirst_37 (by decide) ?_
        exact ih (k + 1) n1 (bPut b1 (sz + 4) (sz + k) (v / 2 ^ (24 - (8 * k)).toNat)) L1 κ2 (by omega) hB2 (fun r h1 h2 => (hk2 r h1 h2).trans (hf r h1 h2)) hLf (by omega) (by rw [hres, bHf_step (by omega)]) _ _ ls hM hS (lv_sub hl [0, 1, 2, 3] rfl)
  obtain ⟨ls, hls, hl⟩ := mw_entry (m := m) [.ref (L i), .int (iI v)] (n := 4) (Nat.le_of_ble_eq_true rfl) hargs
  refine W.eq hls ?_
  have hl : lv_has ls 4 [(0, .ref (L i)), (1, .int (iI v))] := hl
  refine lv_aload_n hx hb d_Bytes_appendHighestFirst_0 rfl (lv_at hl 0 rfl) ?_
  refine mw_get (ci := 0) (i := i) (v := .int (iI sz)) (C := R_Bytes) (T := T_Bytes) (N := 3) hx hb hts in_Bytes hown hK hM hB.1 rfl rfl 2 (by decide) (hts _ m_77) rfl d_Bytes_appendHighestFirst_1 ?_
  refine lv_istore_n (lv' := [(2, .int (iI sz)), (0, .ref (L i)), (1, .int (iI v))]) hx hb d_Bytes_appendHighestFirst_4 rfl hl (by decide) rfl (fun ls hl => ?_)
  refine lv_aload_n hx hb d_Bytes_appendHighestFirst_5 rfl (lv_at hl 1 rfl) ?_
  refine lv_iload_n hx hb d_Bytes_appendHighestFirst_6 rfl (lv_at hl 0 rfl) ?_
  refine lv_iconst (v := iI (4)) hx hb d_Bytes_appendHighestFirst_7 rfl ?_
  refine mw_callV (i := i) (As := [.int (iI sz), .int (iI 4)]) (rest := []) ⟨hx, hb, hml, hown, hts⟩ hK hM hS rfl hB.1 rfl (c_Bytes_openGap l D g lo L κ i j mo n sz b hB sz 4 (by omega) (by omega)) (cwV 2 hts (gV m_96 m_97 m_98 m_52 m_99) rfl rfl rfl (by decide +kernel) ⟨Nat.le_of_ble_eq_true rfl, Nat.le_of_ble_eq_true rfl⟩) rfl hl.1 rfl (Nat.le_of_ble_eq_true rfl) d_Bytes_appendHighestFirst_8 ⟨Nat.le_of_ble_eq_true rfl, Nat.le_of_ble_eq_true rfl⟩ (fun v3 L3 κ3 H locs hp3 hM hS => ?_)
  obtain ⟨n3, rfl, hL3, hB3, hk3⟩ := hp3
  have hB3 : bxs g L3 κ3 i j mo n3 (sz + 4) (bGap b sz sz 4) := hB3
  have r4 := hB3.2.2.1
  refine lv_iconst (v := iI (0)) hx hb d_Bytes_appendHighestFirst_11 rfl ?_
  refine lv_istore_n (lv' := [(3, .int (iI 0)), (2, .int (iI sz)), (0, .ref (L i)), (1, .int (iI v))]) hx hb d_Bytes_appendHighestFirst_12 rfl hl (by decide) rfl (fun ls hl => ?_)
  exact loop13 _ 0 n3 (bGap b sz sz 4) L3 κ3 (Nat.lt_succ_self _) hB3 hk3 hL3 (by omega) rfl _ _ ls hM hS (lv_sub hl [0, 1, 2, 3] rfl)
set_option maxHeartbeats 4000000 in
set_option maxRecDepth 100000 in
theorem c_Bytes_appendEmptyDocument (l : Launch) (D : va_G) (g : Nat → ClassId) (lo : Nat) (L : Nat → Nat) (κ : Nat → Option va_E) (i j mo n sz : Nat) (b : Nat → Int) (hB : bxs g L κ i j mo n sz b) (hG : 5 ≤ (mo : Int) - sz) : Met l y_Bytes_appendEmptyDocument w_Bytes_appendEmptyDocument ({ frames := 4, cells := 2, slots := 4010, locals := 108 }) (mwP D vwCl (tyL g) lo L κ [.ref (L i)]) (mwQ D vwCl lo (bxW g L κ i j mo (sz + 4 + 1) (bAppNum (bAppNum b sz 5 4) (sz + 4) 0 1))) 2 4010 (fun q => lo ≤ q) := by
  obtain ⟨hz1, hz2, hz3⟩ := hB.2.2.1
  have hij := bxs_ne hB
  refine Met.ofW (cc := b_Bytes_appendEmptyDocument) (maxL := 1) (ret := (Option.none : Option Jvm.ClassFile.FieldType)) (by decide) rfl ?_
  intro p e s m args below meth c s₁ B hml hpre
  obtain ⟨hargs, hM, hK⟩ := hpre
  have hx := B.exec
  have hb := B.bytes
  have hr := B.returns
  have hts : ∀ w ∈ wA, w.before args s = true := fun w h => atoms_spec (ws := w_Bytes_appendEmptyDocument) B.pre w (List.mem_cons_of_mem _ h)
  have hown : s.vm.findClass R_Bytes = some m.cls := findClass_of_methodNamed B.named
  have hlocks := B.notSynchronized
  have hS : va_S (fun q => lo ≤ q) s.heap s.heap [] := va_S.rf
  obtain ⟨ls, hls, hl⟩ := mw_entry (m := m) [.ref (L i)] (n := 1) (Nat.le_of_ble_eq_true rfl) hargs
  refine W.eq hls ?_
  have hl : lv_has ls 1 [(0, .ref (L i))] := hl
  refine lv_aload_n hx hb d_Bytes_appendEmptyDocument_0 rfl (lv_at hl 0 rfl) ?_
  refine lv_ldc2 (v := 5) hx hb hown (hts _ m_91) d_Bytes_appendEmptyDocument_1 ?_
  refine W.eq (g2 := F0 m 4 ls (.long (lI 5) :: .ref (L i) :: [])) (by rfl) ?_
  refine lv_iconst (v := iI (4)) hx hb d_Bytes_appendEmptyDocument_4 rfl ?_
  refine mw_callV (i := i) (As := [.long (lI 5), .int (iI 4)]) (rest := []) ⟨hx, hb, hml, hown, hts⟩ hK hM hS rfl hB.1 rfl (c_Bytes_appendNumber l D g lo L κ i j mo n sz b hB 5 4 (by omega) (by omega)) (cwV 2 hts (gV m_92 m_93 m_94 m_52 m_95) rfl rfl rfl (by decide +kernel) ⟨Nat.le_of_ble_eq_true rfl, Nat.le_of_ble_eq_true rfl⟩) rfl hl.1 rfl (Nat.le_of_ble_eq_true rfl) d_Bytes_appendEmptyDocument_5 ⟨Nat.le_of_ble_eq_true rfl, Nat.le_of_ble_eq_true rfl⟩ (fun v1 L1 κ1 H locs hp1 hM hS => ?_)
  obtain ⟨n1, rfl, hL1, hB1, hk1⟩ := hp1
  have hB1 : bxs g L1 κ1 i j mo n1 (sz + 4) (bAppNum b sz 5 4) := hB1
  have r2 := hB1.2.2.1
  refine lv_aload_n hx hb d_Bytes_appendEmptyDocument_8 rfl (lv_at hl 0 rfl) ?_
  refine lv_lconst (v := lI (0)) hx hb d_Bytes_appendEmptyDocument_9 (by decide) ?_
  refine lv_iconst (v := iI (1)) hx hb d_Bytes_appendEmptyDocument_10 rfl ?_
  refine mw_callV (i := i) (As := [.long (lI 0), .int (iI 1)]) (rest := []) ⟨hx, hb, hml, hown, hts⟩ hK hM hS (hL1 i (by omega)) hB1.1 rfl (c_Bytes_appendNumber l D g lo L1 κ1 i j mo n1 (sz + 4) (bAppNum b sz 5 4) hB1 0 1 (by omega) (by omega)) (cwV 2 hts (gV m_92 m_93 m_94 m_52 m_95) rfl rfl rfl (by decide +kernel) ⟨Nat.le_of_ble_eq_true rfl, Nat.le_of_ble_eq_true rfl⟩) rfl hl.1 rfl (Nat.le_of_ble_eq_true rfl) d_Bytes_appendEmptyDocument_11 ⟨Nat.le_of_ble_eq_true rfl, Nat.le_of_ble_eq_true rfl⟩ (fun v3 L3 κ3 H locs hp3 hM hS => ?_)
  obtain ⟨n3, rfl, hL3, hB3, hk3⟩ := hp3
  have hB3 : bxs g L3 κ3 i j mo n3 (sz + 4 + 1) (bAppNum (bAppNum b sz 5 4) (sz + 4) 0 1) := hB3
  have r4 := hB3.2.2.1
  exact mw_vret hx hb hr hM hS hlocks d_Bytes_appendEmptyDocument_14 ⟨_, rfl, fun r h1 => by rw [hL3 r h1, hL1 r h1], hB3, fun r h1 h2 => by rw [hk3 r h1 h2, hk1 r h1 h2]⟩
set_option maxHeartbeats 4000000 in
set_option maxRecDepth 100000 in
theorem c_Bytes_appendText (l : Launch) (D : va_G) (g : Nat → ClassId) (lo : Nat) (L : Nat → Nat) (κ : Nat → Option va_E) (i j mo n sz : Nat) (b : Nat → Int) (hB : bxs g L κ i j mo n sz b) (i2 j2 mo2 n2 sz2 : Nat) (b2 : Nat → Int) (hB2 : bxs g L κ i2 j2 mo2 n2 sz2 b2) (a2 a3 : Int) (hd : i ≠ i2 ∧ i ≠ j2 ∧ j ≠ i2 ∧ j ≠ j2) (hG : 0 ≤ a2 ∧ 0 ≤ a3 ∧ a2 ≤ sz2 - a3 ∧ a3 + 5 ≤ mo - sz) : Met l y_Bytes_appendText w_Bytes_appendText ({ frames := 4, cells := 3, slots := 6015, locals := 108 }) (mwP D vwCl (tyL g) lo L κ [.ref (L i), .ref (L i2), .int (iI a2), .int (iI a3)]) (mwQ D vwCl lo (bxW g L κ i j mo (sz + 4 + a3.toNat + 1) (bAppNum (bApp (bAppNum b sz (a3 + 1) 4) (sz + 4) b2 a2 a3) (sz + 4 + a3.toNat) 0 1))) 3 6015 (fun q => lo ≤ q) := by
  obtain ⟨hz1, hz2, hz3⟩ := hB.2.2.1
  obtain ⟨hy1, hy2, hy3⟩ := hB2.2.2.1
  have hij := bxs_ne hB
  have hij2 := bxs_ne hB2
  refine Met.ofW (cc := b_Bytes_appendText) (maxL := 4) (ret := (Option.none : Option Jvm.ClassFile.FieldType)) (by decide) rfl ?_
  intro p e s m args below meth c s₁ B hml hpre
  obtain ⟨hargs, hM, hK⟩ := hpre
  have hx := B.exec
  have hb := B.bytes
  have hr := B.returns
  have hts : ∀ w ∈ wA, w.before args s = true := fun w h => atoms_spec (ws := w_Bytes_appendText) B.pre w (List.mem_cons_of_mem _ h)
  have hown : s.vm.findClass R_Bytes = some m.cls := findClass_of_methodNamed B.named
  have hlocks := B.notSynchronized
  have hS : va_S (fun q => lo ≤ q) s.heap s.heap [] := va_S.rf
  obtain ⟨ls, hls, hl⟩ := mw_entry (m := m) [.ref (L i), .ref (L i2), .int (iI a2), .int (iI a3)] (n := 4) (Nat.le_of_ble_eq_true rfl) hargs
  refine W.eq hls ?_
  have hl : lv_has ls 4 [(0, .ref (L i)), (1, .ref (L i2)), (2, .int (iI a2)), (3, .int (iI a3))] := hl
  refine lv_aload_n hx hb d_Bytes_appendText_0 rfl (lv_at hl 0 rfl) ?_
  refine lv_iload_n hx hb d_Bytes_appendText_1 rfl (lv_at hl 3 rfl) ?_
  refine lv_iconst (v := iI (1)) hx hb d_Bytes_appendText_2 rfl ?_
  refine ia_add hx hb d_Bytes_appendText_3 ?_
  refine ia_i2l hx hb (by omega) d_Bytes_appendText_4 ?_
  refine lv_iconst (v := iI (4)) hx hb d_Bytes_appendText_5 rfl ?_
  refine mw_callV (i := i) (As := [.long (lI (a3 + 1)), .int (iI 4)]) (rest := []) ⟨hx, hb, hml, hown, hts⟩ hK hM hS rfl hB.1 rfl (c_Bytes_appendNumber l D g lo L κ i j mo n sz b hB (a3 + 1) 4 (by omega) (by omega)) (cwV 2 hts (gV m_92 m_93 m_94 m_52 m_95) rfl rfl rfl (by decide +kernel) ⟨Nat.le_of_ble_eq_true rfl, Nat.le_of_ble_eq_true rfl⟩) rfl hl.1 rfl (Nat.le_of_ble_eq_true rfl) d_Bytes_appendText_6 ⟨Nat.le_of_ble_eq_true rfl, Nat.le_of_ble_eq_true rfl⟩ (fun v1 L1 κ1 H locs hp1 hM hS => ?_)
  obtain ⟨n1, rfl, hL1, hB1, hk1⟩ := hp1
  have hB1 : bxs g L1 κ1 i j mo n1 (sz + 4) (bAppNum b sz (a3 + 1) 4) := hB1
  have r2 := hB1.2.2.1
  have hB3 := bxs_keep hB2 (hk1 i2 (by omega) (by omega)) (hk1 j2 (by omega) (by omega)) (hL1 j2 (by omega))
  refine lv_aload_n hx hb d_Bytes_appendText_9 rfl (lv_at hl 0 rfl) ?_
  refine lv_aload_n hx hb d_Bytes_appendText_10 rfl (lv_at hl 1 rfl) ?_
  refine lv_iload_n hx hb d_Bytes_appendText_11 rfl (lv_at hl 2 rfl) ?_
  refine lv_iload_n hx hb d_Bytes_appendText_12 rfl (lv_at hl 3 rfl) ?_
  refine mw_callV (i := i) (As := [.ref (L1 i2), .int (iI a2), .int (iI a3)]) (rest := []) ⟨hx, hb, hml, hown, hts⟩ hK hM hS (hL1 i (by omega)) hB1.1 rfl (c_Bytes_appendFrom l D g lo L1 κ1 i j mo n1 (sz + 4) (bAppNum b sz (a3 + 1) 4) hB1 i2 j2 mo2 n2 sz2 b2 hB3 a2 a3 (by omega) (by omega)) (cwV 3 hts (gV m_484 m_363 m_364 m_52 m_365) rfl rfl rfl (by decide +kernel) ⟨Nat.le_of_ble_eq_true rfl, Nat.le_of_ble_eq_true rfl⟩) rfl hl.1 (by rw [show L1 i2 = L i2 from (hL1 i2 (by omega))]; rfl) (Nat.le_of_ble_eq_true rfl) d_Bytes_appendText_13 ⟨Nat.le_of_ble_eq_true rfl, Nat.le_of_ble_eq_true rfl⟩ (fun v4 L4 κ4 H locs hp4 hM hS => ?_)
  obtain ⟨n4, rfl, hL4, hB4, hk4⟩ := hp4
  have hB4 : bxs g L4 κ4 i j mo n4 (sz + 4 + a3.toNat) (bApp (bAppNum b sz (a3 + 1) 4) (sz + 4) b2 a2 a3) := hB4
  have r5 := hB4.2.2.1
  have hB6 := bxs_keep hB3 (hk4 i2 (by omega) (by omega)) (hk4 j2 (by omega) (by omega)) (hL4 j2 (by omega))
  refine lv_aload_n hx hb d_Bytes_appendText_16 rfl (lv_at hl 0 rfl) ?_
  refine lv_lconst (v := lI (0)) hx hb d_Bytes_appendText_17 (by decide) ?_
  refine lv_iconst (v := iI (1)) hx hb d_Bytes_appendText_18 rfl ?_
  refine mw_callV (i := i) (As := [.long (lI 0), .int (iI 1)]) (rest := []) ⟨hx, hb, hml, hown, hts⟩ hK hM hS ((hL4 i (by omega)).trans (hL1 i (by omega))) hB4.1 rfl (c_Bytes_appendNumber l D g lo L4 κ4 i j mo n4 (sz + 4 + a3.toNat) (bApp (bAppNum b sz (a3 + 1) 4) (sz + 4) b2 a2 a3) hB4 0 1 (by omega) (by omega)) (cwV 2 hts (gV m_92 m_93 m_94 m_52 m_95) rfl rfl rfl (by decide +kernel) ⟨Nat.le_of_ble_eq_true rfl, Nat.le_of_ble_eq_true rfl⟩) rfl hl.1 rfl (Nat.le_of_ble_eq_true rfl) d_Bytes_appendText_19 ⟨Nat.le_of_ble_eq_true rfl, Nat.le_of_ble_eq_true rfl⟩ (fun v7 L7 κ7 H locs hp7 hM hS => ?_)
  obtain ⟨n7, rfl, hL7, hB7, hk7⟩ := hp7
  have hB7 : bxs g L7 κ7 i j mo n7 (sz + 4 + a3.toNat + 1) (bAppNum (bApp (bAppNum b sz (a3 + 1) 4) (sz + 4) b2 a2 a3) (sz + 4 + a3.toNat) 0 1) := hB7
  have r8 := hB7.2.2.1
  have hB9 := bxs_keep hB6 (hk7 i2 (by omega) (by omega)) (hk7 j2 (by omega) (by omega)) (hL7 j2 (by omega))
  exact mw_vret hx hb hr hM hS hlocks d_Bytes_appendText_22 ⟨_, rfl, fun r h1 => by rw [hL7 r h1, hL4 r h1, hL1 r h1], hB7, fun r h1 h2 => by rw [hk7 r h1 h2, hk4 r h1 h2, hk1 r h1 h2]⟩
