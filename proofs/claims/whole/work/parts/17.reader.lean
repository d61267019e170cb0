set_option maxHeartbeats 4000000 in
set_option maxRecDepth 100000 in
theorem c_Reader_faultPlace (l : Launch) (D : va_G) (g : Nat → ClassId) (lo : Nat) (L : Nat → Nat) (κ : Nat → Option va_E) (T : Nat → Nat → Int) (cnt : Nat) (hN : nds g L κ T cnt 2) (mo n sz : Nat) (b : Nat → Int) (hB : bxs g L κ 2 3 mo n sz b) (ra ri rf rp : Int) (hR : rds L κ ra ri rf rp) (hra : 0 ≤ ra ∧ ra ≤ 100000) (hri : -1 ≤ ri ∧ ri ≤ 1000) : Met l y_Reader_faultPlace w_Reader_faultPlace ({ frames := 0, cells := 0, slots := 0, locals := 0 }) (mwP D vwCl (tyL g) lo L κ [.ref (L 14)]) (mwQ D vwCl lo (mwR (some (.int (iI rp))) L κ)) 0 0 (fun q => lo ≤ q) := by
  have hc0 := hN.2.2.1
  obtain ⟨hz1, hz2, hz3⟩ := hB.2.2.1
  refine Met.ofW (cc := b_Reader_faultPlace) (maxL := 1) (ret := (Option.some Jvm.ClassFile.FieldType.int)) (by decide) rfl ?_
  intro p e s m args below meth c s₁ B hml hpre
  obtain ⟨hargs, hM, hK⟩ := hpre
  have hx := B.exec
  have hb := B.bytes
  have hr := B.returns
  have hts : ∀ w ∈ wA, w.before args s = true := fun w h => atoms_spec (ws := w_Reader_faultPlace) B.pre w (List.mem_cons_of_mem _ h)
  have hown : s.vm.findClass R_Reader = some m.cls := findClass_of_methodNamed B.named
  have hlocks := B.notSynchronized
  have hS : va_S (fun q => lo ≤ q) s.heap s.heap [] := va_S.rf
  obtain ⟨ls, hls, hl⟩ := mw_entry (m := m) [.ref (L 14)] (n := 1) (Nat.le_of_ble_eq_true rfl) hargs
  refine W.eq hls ?_
  have hl : lv_has ls 1 [(0, .ref (L 14))] := hl
  refine lv_aload_n hx hb d_Reader_faultPlace_0 rfl (lv_at hl 0 rfl) ?_
  refine mw_get (ci := 2) (i := 14) (v := .int (iI rp)) (C := R_Reader) (T := T_Reader) (N := 6) hx hb hts in_Reader hown hK hM hR rfl rfl 5 (by decide) (hts _ m_171) rfl d_Reader_faultPlace_1 ?_
  exact mw_iret hx hb hr hM hS hlocks d_Reader_faultPlace_4 (mwR_i (by rfl))
set_option maxHeartbeats 4000000 in
set_option maxRecDepth 100000 in
theorem c_Reader_refuse (l : Launch) (D : va_G) (g : Nat → ClassId) (lo : Nat) (L : Nat → Nat) (κ : Nat → Option va_E) (T : Nat → Nat → Int) (cnt : Nat) (hN : nds g L κ T cnt 2) (mo n sz : Nat) (b : Nat → Int) (hB : bxs g L κ 2 3 mo n sz b) (ra ri rf rp : Int) (hR : rds L κ ra ri rf rp) (hra : 0 ≤ ra ∧ ra ≤ 100000) (hri : -1 ≤ ri ∧ ri ≤ 1000) (f2 p2 : Int) : Met l y_Reader_refuse w_Reader_refuse ({ frames := 0, cells := 0, slots := 0, locals := 0 }) (mwP D vwCl (tyL g) lo L κ [.ref (L 14), .int (iI f2), .int (iI p2)]) (mwQ D vwCl lo (rdQ g L κ (ra, ri, f2, p2, T, cnt))) 0 0 (fun q => lo ≤ q) := by
  have hc0 := hN.2.2.1
  obtain ⟨hz1, hz2, hz3⟩ := hB.2.2.1
  refine Met.ofW (cc := b_Reader_refuse) (maxL := 3) (ret := (Option.none : Option Jvm.ClassFile.FieldType)) (by decide) rfl ?_
  intro p e s m args below meth c s₁ B hml hpre
  obtain ⟨hargs, hM, hK⟩ := hpre
  have hx := B.exec
  have hb := B.bytes
  have hr := B.returns
  have hts : ∀ w ∈ wA, w.before args s = true := fun w h => atoms_spec (ws := w_Reader_refuse) B.pre w (List.mem_cons_of_mem _ h)
  have hown : s.vm.findClass R_Reader = some m.cls := findClass_of_methodNamed B.named
  have hlocks := B.notSynchronized
  have hS : va_S (fun q => lo ≤ q) s.heap s.heap [] := va_S.rf
  obtain ⟨ls, hls, hl⟩ := mw_entry (m := m) [.ref (L 14), .int (iI f2), .int (iI p2)] (n := 3) (Nat.le_of_ble_eq_true rfl) hargs
  refine W.eq hls ?_
  have hl : lv_has ls 3 [(0, .ref (L 14)), (1, .int (iI f2)), (2, .int (iI p2))] := hl
  refine lv_aload_n hx hb d_Reader_refuse_0 rfl (lv_at hl 0 rfl) ?_
  refine lv_iload_n hx hb d_Reader_refuse_1 rfl (lv_at hl 1 rfl) ?_
  refine mw_put (ci := 2) (i := 14) (v := .int (iI f2)) (C := R_Reader) (T := T_Reader) (N := 6) hx hb hts in_Reader ty_Reader ty_Reader_ok nm_Reader hown hK hM hS hR rfl rfl 4 (by decide) (hts _ m_170) rfl (ty_Reader_ok 4 (by decide)) rfl rfl (Nat.le_of_ble_eq_true rfl) d_Reader_refuse_2 (fun κ1 H locs e1 hk1 hM hS => ?_)
  have e1 : κ1 14 = some (.inr (2, [.ref (L 6), .ref (L 2), .int (iI ra), .int (iI ri), .int (iI f2), .int (iI rp)])) := e1
  have hN2 := nds_keep hN (fun r h1 h2 => hk1 r (by omega)) (fun r h1 h2 => rfl) rfl
  have hB3 := bxs_keep hB (hk1 2 (by omega)) (hk1 3 (by omega)) rfl
  refine lv_aload_n hx hb d_Reader_refuse_5 rfl (lv_at hl 0 rfl) ?_
  refine lv_iload_n hx hb d_Reader_refuse_6 rfl (lv_at hl 2 rfl) ?_
  refine mw_put (ci := 2) (i := 14) (v := .int (iI p2)) (C := R_Reader) (T := T_Reader) (N := 6) hx hb hts in_Reader ty_Reader ty_Reader_ok nm_Reader hown hK hM hS e1 rfl rfl 5 (by decide) (hts _ m_171) rfl (ty_Reader_ok 5 (by decide)) rfl rfl (Nat.le_of_ble_eq_true rfl) d_Reader_refuse_7 (fun κ4 H locs e4 hk4 hM hS => ?_)
  have e4 : κ4 14 = some (.inr (2, [.ref (L 6), .ref (L 2), .int (iI ra), .int (iI ri), .int (iI f2), .int (iI p2)])) := e4
  have hN5 := nds_keep hN2 (fun r h1 h2 => hk4 r (by omega)) (fun r h1 h2 => rfl) rfl
  have hB6 := bxs_keep hB3 (hk4 2 (by omega)) (hk4 3 (by omega)) rfl
  exact mw_vret hx hb hr hM hS hlocks d_Reader_refuse_10 (by rw [show (ra, ri, f2, p2, T, cnt) = ((ra : Int), (ri : Int), (f2 : Int), (p2 : Int), T, cnt) by rfl]; exact ⟨rfl, rfl, e4, hN5, fun r h => by rw [hk4 r (by omega), hk1 r (by omega)]⟩)
set_option maxHeartbeats 4000000 in
set_option maxRecDepth 100000 in
theorem c_Reader_readLastByte (l : Launch) (D : va_G) (g : Nat → ClassId) (lo : Nat) (L : Nat → Nat) (κ : Nat → Option va_E) (T : Nat → Nat → Int) (cnt : Nat) (hN : nds g L κ T cnt 2) (mo n sz : Nat) (b : Nat → Int) (hB : bxs g L κ 2 3 mo n sz b) (ra ri rf rp : Int) (hR : rds L κ ra ri rf rp) (hra : 0 ≤ ra ∧ ra ≤ 100000) (hri : -1 ≤ ri ∧ ri ≤ 1000) : Met l y_Reader_readLastByte w_Reader_readLastByte ({ frames := 2, cells := 0, slots := 0, locals := 43 }) (mwP D vwCl (tyL g) lo L κ [.ref (L 14)]) (mwQ D vwCl lo (rdQ g L κ (rLastB b sz ra ri rf rp T cnt))) 0 0 (fun q => lo ≤ q) := by
  have hc0 := hN.2.2.1
  obtain ⟨hz1, hz2, hz3⟩ := hB.2.2.1
  refine Met.ofW (cc := b_Reader_readLastByte) (maxL := 1) (ret := (Option.none : Option Jvm.ClassFile.FieldType)) (by decide) rfl ?_
  intro p e s m args below meth c s₁ B hml hpre
  obtain ⟨hargs, hM, hK⟩ := hpre
  have hx := B.exec
  have hb := B.bytes
  have hr := B.returns
  have hts : ∀ w ∈ wA, w.before args s = true := fun w h => atoms_spec (ws := w_Reader_readLastByte) B.pre w (List.mem_cons_of_mem _ h)
  have hown : s.vm.findClass R_Reader = some m.cls := findClass_of_methodNamed B.named
  have hlocks := B.notSynchronized
  have hS : va_S (fun q => lo ≤ q) s.heap s.heap [] := va_S.rf
  obtain ⟨ls, hls, hl⟩ := mw_entry (m := m) [.ref (L 14)] (n := 1) (Nat.le_of_ble_eq_true rfl) hargs
  refine W.eq hls ?_
  have hl : lv_has ls 1 [(0, .ref (L 14))] := hl
  refine lv_aload_n hx hb d_Reader_readLastByte_0 rfl (lv_at hl 0 rfl) ?_
  refine mw_get (ci := 2) (i := 14) (v := .ref (L 2)) (C := R_Reader) (T := T_Reader) (N := 6) hx hb hts in_Reader hown hK hM hR rfl rfl 1 (by decide) (hts _ m_167) rfl d_Reader_readLastByte_1 ?_
  refine lv_aload_n hx hb d_Reader_readLastByte_4 rfl (lv_at hl 0 rfl) ?_
  refine mw_get (ci := 2) (i := 14) (v := .int (iI ra)) (C := R_Reader) (T := T_Reader) (N := 6) hx hb hts in_Reader hown hK hM hR rfl rfl 2 (by decide) (hts _ m_168) rfl d_Reader_readLastByte_5 ?_
  refine mw_rdV (i := 2) (As := [.int (iI ra)]) (rest := []) ⟨hx, hb, hml, hown, hts⟩ hK hM hS rfl hB.1 rfl (c_Bytes_get l D g lo L κ 2 3 mo n sz b hB ra (by omega)) (cwV 1 hts (gV m_278 m_251 m_252 m_52 m_253) rfl rfl rfl (by decide +kernel) ⟨Nat.le_of_ble_eq_true rfl, Nat.le_of_ble_eq_true rfl⟩) rfl hl.1 rfl (Nat.le_of_ble_eq_true rfl) d_Reader_readLastByte_8 ⟨Nat.le_of_ble_eq_true rfl, Nat.le_of_ble_eq_true rfl⟩ (fun H locs hM hS => ?_)
  have r1 := bGet_r (sz := sz) hB.2.2.2.1 ra
  refine ia_if_eq (a := bGet b sz ra) (tgt := 24) hx hb d_Reader_readLastByte_11 (by decide) (by omega) (fun c2 => ?_) (fun c2 => ?_)
  · refine lv_aload_n hx hb d_Reader_readLastByte_24 rfl (lv_at hl 0 rfl) ?_
    refine lv_dup hx hb d_Reader_readLastByte_25 rfl ?_
    refine mw_get (ci := 2) (i := 14) (v := .int (iI ra)) (C := R_Reader) (T := T_Reader) (N := 6) hx hb hts in_Reader hown hK hM hR rfl rfl 2 (by decide) (hts _ m_168) rfl d_Reader_readLastByte_26 ?_
    refine lv_iconst (v := iI (1)) hx hb d_Reader_readLastByte_29 rfl ?_
    refine ia_add hx hb d_Reader_readLastByte_30 ?_
    refine mw_put (ci := 2) (i := 14) (v := .int (iI (ra + 1))) (C := R_Reader) (T := T_Reader) (N := 6) hx hb hts in_Reader ty_Reader ty_Reader_ok nm_Reader hown hK hM hS hR rfl rfl 2 (by decide) (hts _ m_168) rfl (ty_Reader_ok 2 (by decide)) rfl rfl (Nat.le_of_ble_eq_true rfl) d_Reader_readLastByte_31 (fun κ3 H locs e3 hk3 hM hS => ?_)
    have e3 : κ3 14 = some (.inr (2, [.ref (L 6), .ref (L 2), .int (iI (ra + 1)), .int (iI ri), .int (iI rf), .int (iI rp)])) := e3
    have hN4 := nds_keep hN (fun r h1 h2 => hk3 r (by omega)) (fun r h1 h2 => rfl) rfl
    have hB5 := bxs_keep hB (hk3 2 (by omega)) (hk3 3 (by omega)) rfl
    refine lv_aload_n hx hb d_Reader_readLastByte_34 rfl (lv_at hl 0 rfl) ?_
    refine lv_aload_n hx hb d_Reader_readLastByte_35 rfl (lv_at hl 0 rfl) ?_
    refine mw_get (ci := 2) (i := 14) (v := .ref (L 6)) (C := R_Reader) (T := T_Reader) (N := 6) hx hb hts in_Reader hown hK hM e3 rfl rfl 0 (by decide) (hts _ m_166) rfl d_Reader_readLastByte_36 ?_
    refine lv_aload_n hx hb d_Reader_readLastByte_39 rfl (lv_at hl 0 rfl) ?_
    refine mw_get (ci := 2) (i := 14) (v := .int (iI ri)) (C := R_Reader) (T := T_Reader) (N := 6) hx hb hts in_Reader hown hK hM e3 rfl rfl 3 (by decide) (hts _ m_169) rfl d_Reader_readLastByte_40 ?_
    refine mw_rdV (i := 6) (As := [.int (iI ri)]) (rest := [.ref (L 14)]) ⟨hx, hb, hml, hown, hts⟩ hK hM hS rfl hN4.1 rfl (c_Nodes_parent l D g lo L κ3 T cnt 2 hN4 ri (by omega)) (cwV 1 hts (gV m_279 m_280 m_281 m_56 m_282) rfl rfl rfl (by decide +kernel) ⟨Nat.le_of_ble_eq_true rfl, Nat.le_of_ble_eq_true rfl⟩) rfl hl.1 rfl (Nat.le_of_ble_eq_true rfl) d_Reader_readLastByte_43 ⟨Nat.le_of_ble_eq_true rfl, Nat.le_of_ble_eq_true rfl⟩ (fun H locs hM hS => ?_)
    have r6 := nCell_r (cnt := cnt) hN4.2.2.2.1 1 ri
    refine mw_put (ci := 2) (i := 14) (v := .int (iI (nCell T cnt 1 ri))) (C := R_Reader) (T := T_Reader) (N := 6) hx hb hts in_Reader ty_Reader ty_Reader_ok nm_Reader hown hK hM hS e3 rfl rfl 3 (by decide) (hts _ m_169) rfl (ty_Reader_ok 3 (by decide)) rfl rfl (Nat.le_of_ble_eq_true rfl) d_Reader_readLastByte_46 (fun κ7 H locs e7 hk7 hM hS => ?_)
    have e7 : κ7 14 = some (.inr (2, [.ref (L 6), .ref (L 2), .int (iI (ra + 1)), .int (iI (nCell T cnt 1 ri)), .int (iI rf), .int (iI rp)])) := e7
    have hN8 := nds_keep hN4 (fun r h1 h2 => hk7 r (by omega)) (fun r h1 h2 => rfl) rfl
    have hB9 := bxs_keep hB5 (hk7 2 (by omega)) (hk7 3 (by omega)) rfl
    exact mw_vret hx hb hr hM hS hlocks d_Reader_readLastByte_49 (by rw [show rLastB b sz ra ri rf rp T cnt = ((ra + 1 : Int), (nCell T cnt 1 ri : Int), (rf : Int), (rp : Int), T, cnt) by unfold rLastB; rw [if_pos (by omega)]]; exact ⟨rfl, rfl, e7, hN8, fun r h => by rw [hk7 r (by omega), hk3 r (by omega)]⟩)
  · refine lv_aload_n hx hb d_Reader_readLastByte_14 rfl (lv_at hl 0 rfl) ?_
    refine lv_iconst (v := iI (2)) hx hb d_Reader_readLastByte_15 rfl ?_
    refine lv_aload_n hx hb d_Reader_readLastByte_16 rfl (lv_at hl 0 rfl) ?_
    refine mw_get (ci := 2) (i := 14) (v := .int (iI ra)) (C := R_Reader) (T := T_Reader) (N := 6) hx hb hts in_Reader hown hK hM hR rfl rfl 2 (by decide) (hts _ m_168) rfl d_Reader_readLastByte_17 ?_
    refine mw_callV (i := 14) (As := [.int (iI 2), .int (iI ra)]) (rest := []) ⟨hx, hb, hml, hown, hts⟩ hK hM hS rfl hR rfl (c_Reader_refuse l D g lo L κ T cnt hN mo n sz b hB ra ri rf rp hR (by omega) (by omega) 2 ra) (cwV 2 hts (gV m_242 m_244 m_1 m_57 m_245) rfl rfl rfl (by decide +kernel) ⟨Nat.le_of_ble_eq_true rfl, Nat.le_of_ble_eq_true rfl⟩) rfl hl.1 rfl (Nat.le_of_ble_eq_true rfl) d_Reader_readLastByte_20 ⟨Nat.le_of_ble_eq_true rfl, Nat.le_of_ble_eq_true rfl⟩ (fun v10 L10 κ10 H locs hp10 hM hS => ?_)
    obtain ⟨rfl, rfl, hR10, hN10, hk10⟩ := hp10
    have hR10 : rds L κ10 ra ri 2 ra := hR10
    have hN10 : nds g L κ10 T cnt 2 := hN10
    have hB11 := bxs_keep hB (hk10 2 (by omega)) (hk10 3 (by omega)) rfl
    exact mw_vret hx hb hr hM hS hlocks d_Reader_readLastByte_23 (by rw [show rLastB b sz ra ri rf rp T cnt = ((ra : Int), (ri : Int), (2 : Int), (ra : Int), T, cnt) by unfold rLastB; rw [if_neg (by omega)]]; exact ⟨rfl, rfl, hR10, hN10, fun r h => by rw [hk10 r (by omega)]⟩)
set_option maxHeartbeats 4000000 in
set_option maxRecDepth 100000 in
theorem c_Reader_readName (l : Launch) (D : va_G) (g : Nat → ClassId) (lo : Nat) (L : Nat → Nat) (κ : Nat → Option va_E) (T : Nat → Nat → Int) (cnt : Nat) (hN : nds g L κ T cnt 2) (mo n sz : Nat) (b : Nat → Int) (hB : bxs g L κ 2 3 mo n sz b) (ra ri rf rp : Int) (hR : rds L κ ra ri rf rp) (hra : 0 ≤ ra ∧ ra ≤ 100000) (hri : -1 ≤ ri ∧ ri ≤ 1000) (last : Int) (hri0 : 0 ≤ ri ∧ ri < cnt) (hla : -100000 ≤ last ∧ last ≤ 100000) : Met l y_Reader_readName w_Reader_readName ({ frames := 3, cells := 0, slots := 0, locals := 73 }) (mwP D vwCl (tyL g) lo L κ [.ref (L 14), .int (iI last)]) (mwQ D vwCl lo (rdQ g L κ (rName b sz last ra ri rf rp T cnt))) 0 0 (fun q => lo ≤ q) := by
  have hc0 := hN.2.2.1
  obtain ⟨hz1, hz2, hz3⟩ := hB.2.2.1
  have hel : 0 ≤ nCell T cnt 6 ri := by rw [nCell_in (by omega)]; exact hN.2.2.2.2.2.2 _
  refine Met.ofW (cc := b_Reader_readName) (maxL := 5) (ret := (Option.none : Option Jvm.ClassFile.FieldType)) (by decide) rfl ?_
  intro p e s m args below meth c s₁ B hml hpre
  obtain ⟨hargs, hM, hK⟩ := hpre
  have hx := B.exec
  have hb := B.bytes
  have hr := B.returns
  have hts : ∀ w ∈ wA, w.before args s = true := fun w h => atoms_spec (ws := w_Reader_readName) B.pre w (List.mem_cons_of_mem _ h)
  have hown : s.vm.findClass R_Reader = some m.cls := findClass_of_methodNamed B.named
  have hlocks := B.notSynchronized
  have hS : va_S (fun q => lo ≤ q) s.heap s.heap [] := va_S.rf
  obtain ⟨ls, hls, hl⟩ := mw_entry (m := m) [.ref (L 14), .int (iI last)] (n := 5) (Nat.le_of_ble_eq_true rfl) hargs
  refine W.eq hls ?_
  have hl : lv_has ls 5 [(0, .ref (L 14)), (1, .int (iI last))] := hl
  refine lv_aload_n hx hb d_Reader_readName_0 rfl (lv_at hl 0 rfl) ?_
  refine mw_get (ci := 2) (i := 14) (v := .ref (L 2)) (C := R_Reader) (T := T_Reader) (N := 6) hx hb hts in_Reader hown hK hM hR rfl rfl 1 (by decide) (hts _ m_167) rfl d_Reader_readName_1 ?_
  refine lv_aload_n hx hb d_Reader_readName_4 rfl (lv_at hl 0 rfl) ?_
  refine mw_get (ci := 2) (i := 14) (v := .int (iI ra)) (C := R_Reader) (T := T_Reader) (N := 6) hx hb hts in_Reader hown hK hM hR rfl rfl 2 (by decide) (hts _ m_168) rfl d_Reader_readName_5 ?_
  refine lv_iload_n hx hb d_Reader_readName_8 rfl (lv_at hl 1 rfl) ?_
  refine mw_rdV (i := 2) (As := [.int (iI ra), .int (iI last)]) (rest := []) ⟨hx, hb, hml, hown, hts⟩ hK hM hS rfl hB.1 rfl (c_Bytes_firstZero l D g lo L κ 2 3 mo n sz b hB ra last (by omega) (by omega)) (cwV 2 hts (gV m_298 m_299 m_300 m_52 m_301) rfl rfl rfl (by decide +kernel) ⟨Nat.le_of_ble_eq_true rfl, Nat.le_of_ble_eq_true rfl⟩) rfl hl.1 rfl (Nat.le_of_ble_eq_true rfl) d_Reader_readName_9 ⟨Nat.le_of_ble_eq_true rfl, Nat.le_of_ble_eq_true rfl⟩ (fun H locs hM hS => ?_)
  have r1 := bFz_r b sz ra last
  refine lv_istore_n (lv' := [(2, .int (iI (bFz b sz ra last))), (0, .ref (L 14)), (1, .int (iI last))]) hx hb d_Reader_readName_12 rfl hl (by decide) rfl (fun ls hl => ?_)
  refine lv_iload_n hx hb d_Reader_readName_13 rfl (lv_at hl 0 rfl) ?_
  refine lv_iconst (v := iI (-1)) hx hb d_Reader_readName_14 rfl ?_
  refine ia_icmp_ne (a := bFz b sz ra last) (b := -1) (tgt := 28) hx hb d_Reader_readName_15 (by decide) (by omega) (by omega) (fun c2 => ?_) (fun c2 => ?_)
  · refine lv_aload_n hx hb d_Reader_readName_28 rfl (lv_at hl 1 rfl) ?_
    refine mw_get (ci := 2) (i := 14) (v := .ref (L 2)) (C := R_Reader) (T := T_Reader) (N := 6) hx hb hts in_Reader hown hK hM hR rfl rfl 1 (by decide) (hts _ m_167) rfl d_Reader_readName_29 ?_
    refine lv_aload_n hx hb d_Reader_readName_32 rfl (lv_at hl 1 rfl) ?_
    refine mw_get (ci := 2) (i := 14) (v := .int (iI ra)) (C := R_Reader) (T := T_Reader) (N := 6) hx hb hts in_Reader hown hK hM hR rfl rfl 2 (by decide) (hts _ m_168) rfl d_Reader_readName_33 ?_
    refine lv_iload_n hx hb d_Reader_readName_36 rfl (lv_at hl 0 rfl) ?_
    refine mw_rdS (As := [.ref (L 2), .int (iI ra), .int (iI (bFz b sz ra last))]) (rest := []) ⟨hx, hb, hml, hown, hts⟩ hK hM hS (c_Utf8_firstWrong l D g lo L κ 2 3 mo n sz b hB ra (bFz b sz ra last) (by omega) (by omega)) (va_cwS 3 hts (gT m_302 m_303 m_60 m_304) rfl rfl rfl (by decide +kernel) ⟨Nat.le_of_ble_eq_true rfl, Nat.le_of_ble_eq_true rfl⟩) rfl hl.1 rfl (Nat.le_of_ble_eq_true rfl) d_Reader_readName_37 ⟨Nat.le_of_ble_eq_true rfl, Nat.le_of_ble_eq_true rfl⟩ (fun H locs hM hS => ?_)
    have r3 := uWrong_r b sz ra (bFz b sz ra last)
    refine lv_istore_n (lv' := [(3, .int (iI (uWrong b sz ra (bFz b sz ra last)))), (2, .int (iI (bFz b sz ra last))), (0, .ref (L 14)), (1, .int (iI last))]) hx hb d_Reader_readName_40 rfl hl (by decide) rfl (fun ls hl => ?_)
    refine lv_iload_n hx hb d_Reader_readName_41 rfl (lv_at hl 0 rfl) ?_
    refine lv_iconst (v := iI (-1)) hx hb d_Reader_readName_42 rfl ?_
    refine ia_icmp_eq (a := uWrong b sz ra (bFz b sz ra last)) (b := -1) (tgt := 53) hx hb d_Reader_readName_43 (by decide) (by omega) (by omega) (fun c4 => ?_) (fun c4 => ?_)
    · refine lv_aload_n hx hb d_Reader_readName_53 rfl (lv_at hl 2 rfl) ?_
      refine mw_get (ci := 2) (i := 14) (v := .ref (L 6)) (C := R_Reader) (T := T_Reader) (N := 6) hx hb hts in_Reader hown hK hM hR rfl rfl 0 (by decide) (hts _ m_166) rfl d_Reader_readName_54 ?_
      refine lv_aload_n hx hb d_Reader_readName_57 rfl (lv_at hl 2 rfl) ?_
      refine mw_get (ci := 2) (i := 14) (v := .int (iI ri)) (C := R_Reader) (T := T_Reader) (N := 6) hx hb hts in_Reader hown hK hM hR rfl rfl 3 (by decide) (hts _ m_169) rfl d_Reader_readName_58 ?_
      refine mw_rdV (i := 6) (As := [.int (iI ri)]) (rest := []) ⟨hx, hb, hml, hown, hts⟩ hK hM hS rfl hN.1 rfl (c_Nodes_kind l D g lo L κ T cnt 2 hN ri (by omega)) (cwV 1 hts (gV m_312 m_313 m_314 m_56 m_315) rfl rfl rfl (by decide +kernel) ⟨Nat.le_of_ble_eq_true rfl, Nat.le_of_ble_eq_true rfl⟩) rfl hl.1 rfl (Nat.le_of_ble_eq_true rfl) d_Reader_readName_61 ⟨Nat.le_of_ble_eq_true rfl, Nat.le_of_ble_eq_true rfl⟩ (fun H locs hM hS => ?_)
      have r5 := nCell_r (cnt := cnt) hN.2.2.2.1 0 ri
      refine lv_iconst (v := iI (4)) hx hb d_Reader_readName_64 rfl ?_
      refine ia_icmp_ne (a := nCell T cnt 0 ri) (b := 4) (tgt := 99) hx hb d_Reader_readName_65 (by decide) (by omega) (by omega) (fun c6 => ?_) (fun c6 => ?_)
      · refine lv_aload_n hx hb d_Reader_readName_99 rfl (lv_at hl 2 rfl) ?_
        refine mw_get (ci := 2) (i := 14) (v := .ref (L 6)) (C := R_Reader) (T := T_Reader) (N := 6) hx hb hts in_Reader hown hK hM hR rfl rfl 0 (by decide) (hts _ m_166) rfl d_Reader_readName_100 ?_
        refine lv_aload_n hx hb d_Reader_readName_103 rfl (lv_at hl 2 rfl) ?_
        refine mw_get (ci := 2) (i := 14) (v := .int (iI ri)) (C := R_Reader) (T := T_Reader) (N := 6) hx hb hts in_Reader hown hK hM hR rfl rfl 3 (by decide) (hts _ m_169) rfl d_Reader_readName_104 ?_
        refine lv_aload_n hx hb d_Reader_readName_107 rfl (lv_at hl 2 rfl) ?_
        refine mw_get (ci := 2) (i := 14) (v := .ref (L 2)) (C := R_Reader) (T := T_Reader) (N := 6) hx hb hts in_Reader hown hK hM hR rfl rfl 1 (by decide) (hts _ m_167) rfl d_Reader_readName_108 ?_
        refine lv_aload_n hx hb d_Reader_readName_111 rfl (lv_at hl 2 rfl) ?_
        refine mw_get (ci := 2) (i := 14) (v := .int (iI ra)) (C := R_Reader) (T := T_Reader) (N := 6) hx hb hts in_Reader hown hK hM hR rfl rfl 2 (by decide) (hts _ m_168) rfl d_Reader_readName_112 ?_
        refine lv_iload_n hx hb d_Reader_readName_115 rfl (lv_at hl 1 rfl) ?_
        refine lv_aload_n hx hb d_Reader_readName_116 rfl (lv_at hl 2 rfl) ?_
        refine mw_get (ci := 2) (i := 14) (v := .int (iI ra)) (C := R_Reader) (T := T_Reader) (N := 6) hx hb hts in_Reader hown hK hM hR rfl rfl 2 (by decide) (hts _ m_168) rfl d_Reader_readName_117 ?_
        refine ia_sub hx hb d_Reader_readName_120 ?_
        refine mw_rdV (i := 6) (As := [.int (iI ri), .ref (L 2), .int (iI ra), .int (iI ((bFz b sz ra last) - ra))]) (rest := []) ⟨hx, hb, hml, hown, hts⟩ hK hM hS rfl hN.1 rfl (c_Nodes_named l D g lo L κ T cnt 2 hN 3 mo n sz b hB 2 3 mo n sz b hB ri ra ((bFz b sz ra last) - ra) (by omega) (by omega) (by omega)) (cwV 4 hts (gV m_327 m_328 m_329 m_56 m_330) rfl rfl rfl (by decide +kernel) ⟨Nat.le_of_ble_eq_true rfl, Nat.le_of_ble_eq_true rfl⟩) rfl hl.1 rfl (Nat.le_of_ble_eq_true rfl) d_Reader_readName_121 ⟨Nat.le_of_ble_eq_true rfl, Nat.le_of_ble_eq_true rfl⟩ (fun H locs hM hS => ?_)
        have r7 := nNamed_r T cnt b sz ri b sz ra ((bFz b sz ra last) - ra)
        refine lv_iconst (v := iI (-1)) hx hb d_Reader_readName_124 rfl ?_
        refine ia_icmp_ne (a := nNamed T cnt b sz ri b sz ra ((bFz b sz ra last) - ra)) (b := -1) (tgt := 132) hx hb d_Reader_readName_125 (by decide) (by omega) (by omega) (fun c8 => ?_) (fun c8 => ?_)
        · refine lv_iconst (v := iI (0)) hx hb d_Reader_readName_132 rfl ?_
          refine lv_istore (lv' := [(4, .int (iI 0)), (3, .int (iI (uWrong b sz ra (bFz b sz ra last)))), (2, .int (iI (bFz b sz ra last))), (0, .ref (L 14)), (1, .int (iI last))]) hx hb d_Reader_readName_133 hl (by decide) rfl (fun ls hl => ?_)
          refine lv_iload hx hb d_Reader_readName_135 (lv_at hl 0 rfl) ?_
          refine ia_if_eq (a := 0) (tgt := 150) hx hb d_Reader_readName_137 (by decide) (by omega) (fun c9 => ?_) (fun c9 => ?_)
          · refine lv_aload_n hx hb d_Reader_readName_150 rfl (lv_at hl 3 rfl) ?_
            refine lv_bipush (v := iI (7)) hx hb d_Reader_readName_151 (by decide) ?_
            refine lv_aload_n hx hb d_Reader_readName_153 rfl (lv_at hl 3 rfl) ?_
            refine mw_get (ci := 2) (i := 14) (v := .int (iI ra)) (C := R_Reader) (T := T_Reader) (N := 6) hx hb hts in_Reader hown hK hM hR rfl rfl 2 (by decide) (hts _ m_168) rfl d_Reader_readName_154 ?_
            refine mw_callV (i := 14) (As := [.int (iI 7), .int (iI ra)]) (rest := []) ⟨hx, hb, hml, hown, hts⟩ hK hM hS rfl hR rfl (c_Reader_refuse l D g lo L κ T cnt hN mo n sz b hB ra ri rf rp hR (by omega) (by omega) 7 ra) (cwV 2 hts (gV m_242 m_244 m_1 m_57 m_245) rfl rfl rfl (by decide +kernel) ⟨Nat.le_of_ble_eq_true rfl, Nat.le_of_ble_eq_true rfl⟩) rfl hl.1 rfl (Nat.le_of_ble_eq_true rfl) d_Reader_readName_157 ⟨Nat.le_of_ble_eq_true rfl, Nat.le_of_ble_eq_true rfl⟩ (fun v10 L10 κ10 H locs hp10 hM hS => ?_)
            obtain ⟨rfl, rfl, hR10, hN10, hk10⟩ := hp10
            have hR10 : rds L κ10 ra ri 7 ra := hR10
            have hN10 : nds g L κ10 T cnt 2 := hN10
            have hB11 := bxs_keep hB (hk10 2 (by omega)) (hk10 3 (by omega)) rfl
            exact mw_vret hx hb hr hM hS hlocks d_Reader_readName_160 (by rw [show rName b sz last ra ri rf rp T cnt = ((ra : Int), (ri : Int), (7 : Int), (ra : Int), T, cnt) by unfold rName; rw [if_neg (by omega), if_neg (by omega), if_neg (zne (by first | (unfold rNameOk; rw [if_pos (by omega)]; assumption) | (unfold rNameOk; rw [if_neg (by omega)]; exact decide_eq_false (by omega))))]]; exact ⟨rfl, rfl, hR10, hN10, fun r h => by rw [hk10 r (by omega)]⟩)
          · exact absurd (by decide) c9
        · refine lv_iconst (v := iI (1)) hx hb d_Reader_readName_128 rfl ?_
          refine lv_goto (tgt := 133) hx hb d_Reader_readName_129 (by decide) ?_
          refine lv_istore (lv' := [(4, .int (iI 1)), (3, .int (iI (uWrong b sz ra (bFz b sz ra last)))), (2, .int (iI (bFz b sz ra last))), (0, .ref (L 14)), (1, .int (iI last))]) hx hb d_Reader_readName_133 hl (by decide) rfl (fun ls hl => ?_)
          refine lv_iload hx hb d_Reader_readName_135 (lv_at hl 0 rfl) ?_
          refine ia_if_eq (a := 1) (tgt := 150) hx hb d_Reader_readName_137 (by decide) (by omega) (fun c12 => ?_) (fun c12 => ?_)
          · exact absurd c12 (by decide)
          · refine lv_aload_n hx hb d_Reader_readName_140 rfl (lv_at hl 3 rfl) ?_
            refine lv_iload_n hx hb d_Reader_readName_141 rfl (lv_at hl 2 rfl) ?_
            refine lv_iconst (v := iI (1)) hx hb d_Reader_readName_142 rfl ?_
            refine ia_add hx hb d_Reader_readName_143 ?_
            refine mw_put (ci := 2) (i := 14) (v := .int (iI ((bFz b sz ra last) + 1))) (C := R_Reader) (T := T_Reader) (N := 6) hx hb hts in_Reader ty_Reader ty_Reader_ok nm_Reader hown hK hM hS hR rfl rfl 2 (by decide) (hts _ m_168) rfl (ty_Reader_ok 2 (by decide)) rfl rfl (Nat.le_of_ble_eq_true rfl) d_Reader_readName_144 (fun κ13 H locs e13 hk13 hM hS => ?_)
            have e13 : κ13 14 = some (.inr (2, [.ref (L 6), .ref (L 2), .int (iI ((bFz b sz ra last) + 1)), .int (iI ri), .int (iI rf), .int (iI rp)])) := e13
            have hN14 := nds_keep hN (fun r h1 h2 => hk13 r (by omega)) (fun r h1 h2 => rfl) rfl
            have hB15 := bxs_keep hB (hk13 2 (by omega)) (hk13 3 (by omega)) rfl
            refine lv_goto (tgt := 160) hx hb d_Reader_readName_147 (by decide) ?_
            exact mw_vret hx hb hr hM hS hlocks d_Reader_readName_160 (by rw [show rName b sz last ra ri rf rp T cnt = (((bFz b sz ra last) + 1 : Int), (ri : Int), (rf : Int), (rp : Int), T, cnt) by unfold rName; rw [if_neg (by omega), if_neg (by omega), if_pos (by first | (unfold rNameOk; rw [if_pos (by omega)]; assumption) | (unfold rNameOk; rw [if_neg (by omega)]; exact decide_eq_true (by omega)))]]; exact ⟨rfl, rfl, e13, hN14, fun r h => by rw [hk13 r (by omega)]⟩)
      · refine lv_aload_n hx hb d_Reader_readName_68 rfl (lv_at hl 2 rfl) ?_
        refine mw_get (ci := 2) (i := 14) (v := .ref (L 2)) (C := R_Reader) (T := T_Reader) (N := 6) hx hb hts in_Reader hown hK hM hR rfl rfl 1 (by decide) (hts _ m_167) rfl d_Reader_readName_69 ?_
        refine lv_aload_n hx hb d_Reader_readName_72 rfl (lv_at hl 2 rfl) ?_
        refine mw_get (ci := 2) (i := 14) (v := .int (iI ra)) (C := R_Reader) (T := T_Reader) (N := 6) hx hb hts in_Reader hown hK hM hR rfl rfl 2 (by decide) (hts _ m_168) rfl d_Reader_readName_73 ?_
        refine lv_iload_n hx hb d_Reader_readName_76 rfl (lv_at hl 1 rfl) ?_
        refine lv_aload_n hx hb d_Reader_readName_77 rfl (lv_at hl 2 rfl) ?_
        refine mw_get (ci := 2) (i := 14) (v := .int (iI ra)) (C := R_Reader) (T := T_Reader) (N := 6) hx hb hts in_Reader hown hK hM hR rfl rfl 2 (by decide) (hts _ m_168) rfl d_Reader_readName_78 ?_
        refine ia_sub hx hb d_Reader_readName_81 ?_
        refine lv_aload_n hx hb d_Reader_readName_82 rfl (lv_at hl 2 rfl) ?_
        refine mw_get (ci := 2) (i := 14) (v := .ref (L 6)) (C := R_Reader) (T := T_Reader) (N := 6) hx hb hts in_Reader hown hK hM hR rfl rfl 0 (by decide) (hts _ m_166) rfl d_Reader_readName_83 ?_
        refine lv_aload_n hx hb d_Reader_readName_86 rfl (lv_at hl 2 rfl) ?_
        refine mw_get (ci := 2) (i := 14) (v := .int (iI ri)) (C := R_Reader) (T := T_Reader) (N := 6) hx hb hts in_Reader hown hK hM hR rfl rfl 3 (by decide) (hts _ m_169) rfl d_Reader_readName_87 ?_
        refine mw_rdV (i := 6) (As := [.int (iI ri)]) (rest := [.int (iI ((bFz b sz ra last) - ra)), .int (iI ra), .ref (L 2)]) ⟨hx, hb, hml, hown, hts⟩ hK hM hS rfl hN.1 rfl (c_Nodes_elements l D g lo L κ T cnt 2 hN ri (by omega)) (cwV 1 hts (gV m_316 m_317 m_318 m_56 m_319) rfl rfl rfl (by decide +kernel) ⟨Nat.le_of_ble_eq_true rfl, Nat.le_of_ble_eq_true rfl⟩) rfl hl.1 rfl (Nat.le_of_ble_eq_true rfl) d_Reader_readName_90 ⟨Nat.le_of_ble_eq_true rfl, Nat.le_of_ble_eq_true rfl⟩ (fun H locs hM hS => ?_)
        have r16 := nCell_r (cnt := cnt) hN.2.2.2.1 6 ri
        refine mw_rdV (i := 2) (As := [.int (iI ra), .int (iI ((bFz b sz ra last) - ra)), .int (iI (nCell T cnt 6 ri))]) (rest := []) ⟨hx, hb, hml, hown, hts⟩ hK hM hS rfl hB.1 rfl (c_Bytes_hasDecimal l D g lo L κ 2 3 mo n sz b hB ra ((bFz b sz ra last) - ra) (nCell T cnt 6 ri) (by omega) (by omega) (by omega)) (cwV 3 hts (gV m_320 m_321 m_322 m_52 m_323) rfl rfl rfl (by decide +kernel) ⟨Nat.le_of_ble_eq_true rfl, Nat.le_of_ble_eq_true rfl⟩) rfl hl.1 rfl (Nat.le_of_ble_eq_true rfl) d_Reader_readName_93 ⟨Nat.le_of_ble_eq_true rfl, Nat.le_of_ble_eq_true rfl⟩ (fun H locs hM hS => ?_)
        refine lv_goto (tgt := 133) hx hb d_Reader_readName_96 (by decide) ?_
        refine lv_istore (lv' := [(4, .int (iI (bI (bDec b sz ra ((bFz b sz ra last) - ra) (nCell T cnt 6 ri))))), (3, .int (iI (uWrong b sz ra (bFz b sz ra last)))), (2, .int (iI (bFz b sz ra last))), (0, .ref (L 14)), (1, .int (iI last))]) hx hb d_Reader_readName_133 hl (by decide) rfl (fun ls hl => ?_)
        refine lv_iload hx hb d_Reader_readName_135 (lv_at hl 0 rfl) ?_
        refine ia_ifz_eq (x := bDec b sz ra ((bFz b sz ra last) - ra) (nCell T cnt 6 ri)) (tgt := 150) hx hb d_Reader_readName_137 (by decide) (fun c17 => ?_) (fun c17 => ?_)
        · refine lv_aload_n hx hb d_Reader_readName_150 rfl (lv_at hl 3 rfl) ?_
          refine lv_bipush (v := iI (7)) hx hb d_Reader_readName_151 (by decide) ?_
          refine lv_aload_n hx hb d_Reader_readName_153 rfl (lv_at hl 3 rfl) ?_
          refine mw_get (ci := 2) (i := 14) (v := .int (iI ra)) (C := R_Reader) (T := T_Reader) (N := 6) hx hb hts in_Reader hown hK hM hR rfl rfl 2 (by decide) (hts _ m_168) rfl d_Reader_readName_154 ?_
          refine mw_callV (i := 14) (As := [.int (iI 7), .int (iI ra)]) (rest := []) ⟨hx, hb, hml, hown, hts⟩ hK hM hS rfl hR rfl (c_Reader_refuse l D g lo L κ T cnt hN mo n sz b hB ra ri rf rp hR (by omega) (by omega) 7 ra) (cwV 2 hts (gV m_242 m_244 m_1 m_57 m_245) rfl rfl rfl (by decide +kernel) ⟨Nat.le_of_ble_eq_true rfl, Nat.le_of_ble_eq_true rfl⟩) rfl hl.1 rfl (Nat.le_of_ble_eq_true rfl) d_Reader_readName_157 ⟨Nat.le_of_ble_eq_true rfl, Nat.le_of_ble_eq_true rfl⟩ (fun v18 L18 κ18 H locs hp18 hM hS => ?_)
          obtain ⟨rfl, rfl, hR18, hN18, hk18⟩ := hp18
          have hR18 : rds L κ18 ra ri 7 ra := hR18
          have hN18 : nds g L κ18 T cnt 2 := hN18
          have hB19 := bxs_keep hB (hk18 2 (by omega)) (hk18 3 (by omega)) rfl
          exact mw_vret hx hb hr hM hS hlocks d_Reader_readName_160 (by rw [show rName b sz last ra ri rf rp T cnt = ((ra : Int), (ri : Int), (7 : Int), (ra : Int), T, cnt) by unfold rName; rw [if_neg (by omega), if_neg (by omega), if_neg (zne (by first | (unfold rNameOk; rw [if_pos (by omega)]; assumption) | (unfold rNameOk; rw [if_neg (by omega)]; exact decide_eq_false (by omega))))]]; exact ⟨rfl, rfl, hR18, hN18, fun r h => by rw [hk18 r (by omega)]⟩)
        · refine lv_aload_n hx hb d_Reader_readName_140 rfl (lv_at hl 3 rfl) ?_
          refine lv_iload_n hx hb d_Reader_readName_141 rfl (lv_at hl 2 rfl) ?_
          refine lv_iconst (v := iI (1)) hx hb d_Reader_readName_142 rfl ?_
          refine ia_add hx hb d_Reader_readName_143 ?_
          refine mw_put (ci := 2) (i := 14) (v := .int (iI ((bFz b sz ra last) + 1))) (C := R_Reader) (T := T_Reader) (N := 6) hx hb hts in_Reader ty_Reader ty_Reader_ok nm_Reader hown hK hM hS hR rfl rfl 2 (by decide) (hts _ m_168) rfl (ty_Reader_ok 2 (by decide)) rfl rfl (Nat.le_of_ble_eq_true rfl) d_Reader_readName_144 (fun κ20 H locs e20 hk20 hM hS => ?_)
          have e20 : κ20 14 = some (.inr (2, [.ref (L 6), .ref (L 2), .int (iI ((bFz b sz ra last) + 1)), .int (iI ri), .int (iI rf), .int (iI rp)])) := e20
          have hN21 := nds_keep hN (fun r h1 h2 => hk20 r (by omega)) (fun r h1 h2 => rfl) rfl
          have hB22 := bxs_keep hB (hk20 2 (by omega)) (hk20 3 (by omega)) rfl
          refine lv_goto (tgt := 160) hx hb d_Reader_readName_147 (by decide) ?_
          exact mw_vret hx hb hr hM hS hlocks d_Reader_readName_160 (by rw [show rName b sz last ra ri rf rp T cnt = (((bFz b sz ra last) + 1 : Int), (ri : Int), (rf : Int), (rp : Int), T, cnt) by unfold rName; rw [if_neg (by omega), if_neg (by omega), if_pos (by first | (unfold rNameOk; rw [if_pos (by omega)]; assumption) | (unfold rNameOk; rw [if_neg (by omega)]; exact decide_eq_true (by omega)))]]; exact ⟨rfl, rfl, e20, hN21, fun r h => by rw [hk20 r (by omega)]⟩)
    · refine lv_aload_n hx hb d_Reader_readName_46 rfl (lv_at hl 2 rfl) ?_
      refine lv_iconst (v := iI (4)) hx hb d_Reader_readName_47 rfl ?_
      refine lv_iload_n hx hb d_Reader_readName_48 rfl (lv_at hl 0 rfl) ?_
      refine mw_callV (i := 14) (As := [.int (iI 4), .int (iI (uWrong b sz ra (bFz b sz ra last)))]) (rest := []) ⟨hx, hb, hml, hown, hts⟩ hK hM hS rfl hR rfl (c_Reader_refuse l D g lo L κ T cnt hN mo n sz b hB ra ri rf rp hR (by omega) (by omega) 4 (uWrong b sz ra (bFz b sz ra last))) (cwV 2 hts (gV m_242 m_244 m_1 m_57 m_245) rfl rfl rfl (by decide +kernel) ⟨Nat.le_of_ble_eq_true rfl, Nat.le_of_ble_eq_true rfl⟩) rfl hl.1 rfl (Nat.le_of_ble_eq_true rfl) d_Reader_readName_49 ⟨Nat.le_of_ble_eq_true rfl, Nat.le_of_ble_eq_true rfl⟩ (fun v23 L23 κ23 H locs hp23 hM hS => ?_)
      obtain ⟨rfl, rfl, hR23, hN23, hk23⟩ := hp23
      have hR23 : rds L κ23 ra ri 4 (uWrong b sz ra (bFz b sz ra last)) := hR23
      have hN23 : nds g L κ23 T cnt 2 := hN23
      have hB24 := bxs_keep hB (hk23 2 (by omega)) (hk23 3 (by omega)) rfl
      exact mw_vret hx hb hr hM hS hlocks d_Reader_readName_52 (by rw [show rName b sz last ra ri rf rp T cnt = ((ra : Int), (ri : Int), (4 : Int), (uWrong b sz ra (bFz b sz ra last) : Int), T, cnt) by unfold rName; rw [if_neg (by omega), if_pos (by omega)]]; exact ⟨rfl, rfl, hR23, hN23, fun r h => by rw [hk23 r (by omega)]⟩)
  · refine lv_aload_n hx hb d_Reader_readName_18 rfl (lv_at hl 1 rfl) ?_
    refine lv_iconst (v := iI (1)) hx hb d_Reader_readName_19 rfl ?_
    refine lv_aload_n hx hb d_Reader_readName_20 rfl (lv_at hl 1 rfl) ?_
    refine mw_get (ci := 2) (i := 14) (v := .int (iI ra)) (C := R_Reader) (T := T_Reader) (N := 6) hx hb hts in_Reader hown hK hM hR rfl rfl 2 (by decide) (hts _ m_168) rfl d_Reader_readName_21 ?_
    refine mw_callV (i := 14) (As := [.int (iI 1), .int (iI ra)]) (rest := []) ⟨hx, hb, hml, hown, hts⟩ hK hM hS rfl hR rfl (c_Reader_refuse l D g lo L κ T cnt hN mo n sz b hB ra ri rf rp hR (by omega) (by omega) 1 ra) (cwV 2 hts (gV m_242 m_244 m_1 m_57 m_245) rfl rfl rfl (by decide +kernel) ⟨Nat.le_of_ble_eq_true rfl, Nat.le_of_ble_eq_true rfl⟩) rfl hl.1 rfl (Nat.le_of_ble_eq_true rfl) d_Reader_readName_24 ⟨Nat.le_of_ble_eq_true rfl, Nat.le_of_ble_eq_true rfl⟩ (fun v25 L25 κ25 H locs hp25 hM hS => ?_)
    obtain ⟨rfl, rfl, hR25, hN25, hk25⟩ := hp25
    have hR25 : rds L κ25 ra ri 1 ra := hR25
    have hN25 : nds g L κ25 T cnt 2 := hN25
    have hB26 := bxs_keep hB (hk25 2 (by omega)) (hk25 3 (by omega)) rfl
    exact mw_vret hx hb hr hM hS hlocks d_Reader_readName_27 (by rw [show rName b sz last ra ri rf rp T cnt = ((ra : Int), (ri : Int), (1 : Int), (ra : Int), T, cnt) by unfold rName; rw [if_pos (by omega)]]; exact ⟨rfl, rfl, hR25, hN25, fun r h => by rw [hk25 r (by omega)]⟩)
set_option maxHeartbeats 4000000 in
set_option maxRecDepth 100000 in
theorem c_Reader_readSize (l : Launch) (D : va_G) (g : Nat → ClassId) (lo : Nat) (L : Nat → Nat) (κ : Nat → Option va_E) (T : Nat → Nat → Int) (cnt : Nat) (hN : nds g L κ T cnt 2) (mo n sz : Nat) (b : Nat → Int) (hB : bxs g L κ 2 3 mo n sz b) (ra ri rf rp : Int) (hR : rds L κ ra ri rf rp) (hra : 0 ≤ ra ∧ ra ≤ 100000) (hri : -1 ≤ ri ∧ ri ≤ 1000) (k nm left : Int) (hcn : cnt < 700) (hk0 : -1000 ≤ k ∧ k ≤ 1000) (hnm : -1 ≤ nm ∧ nm ≤ 100000) (hle : -100000 ≤ left ∧ left ≤ 100000) : Met l y_Reader_readSize w_Reader_readSize ({ frames := 2, cells := 0, slots := 0, locals := 46 }) (mwP D vwCl (tyL g) lo L κ [.ref (L 14), .int (iI k), .int (iI nm), .int (iI left)]) (mwQ D vwCl lo (rdQ g L κ (rSize b sz k nm left ra ri rf rp T cnt))) 0 0 (fun q => lo ≤ q) := by
  have hc0 := hN.2.2.1
  obtain ⟨hz1, hz2, hz3⟩ := hB.2.2.1
  refine Met.ofW (cc := b_Reader_readSize) (maxL := 7) (ret := (Option.none : Option Jvm.ClassFile.FieldType)) (by decide) rfl ?_
  intro p e s m args below meth c s₁ B hml hpre
  obtain ⟨hargs, hM, hK⟩ := hpre
  have hx := B.exec
  have hb := B.bytes
  have hr := B.returns
  have hts : ∀ w ∈ wA, w.before args s = true := fun w h => atoms_spec (ws := w_Reader_readSize) B.pre w (List.mem_cons_of_mem _ h)
  have hown : s.vm.findClass R_Reader = some m.cls := findClass_of_methodNamed B.named
  have hlocks := B.notSynchronized
  have hS : va_S (fun q => lo ≤ q) s.heap s.heap [] := va_S.rf
  obtain ⟨ls, hls, hl⟩ := mw_entry (m := m) [.ref (L 14), .int (iI k), .int (iI nm), .int (iI left)] (n := 7) (Nat.le_of_ble_eq_true rfl) hargs
  refine W.eq hls ?_
  have hl : lv_has ls 7 [(0, .ref (L 14)), (1, .int (iI k)), (2, .int (iI nm)), (3, .int (iI left))] := hl
  refine lv_iload_n hx hb d_Reader_readSize_0 rfl (lv_at hl 3 rfl) ?_
  refine lv_iconst (v := iI (4)) hx hb d_Reader_readSize_1 rfl ?_
  refine ia_icmp_ge (a := left) (b := 4) (tgt := 15) hx hb d_Reader_readSize_2 (by decide) (by omega) (by omega) (fun c1 => ?_) (fun c1 => ?_)
  · refine lv_aload_n hx hb d_Reader_readSize_15 rfl (lv_at hl 0 rfl) ?_
    refine mw_get (ci := 2) (i := 14) (v := .ref (L 2)) (C := R_Reader) (T := T_Reader) (N := 6) hx hb hts in_Reader hown hK hM hR rfl rfl 1 (by decide) (hts _ m_167) rfl d_Reader_readSize_16 ?_
    refine lv_aload_n hx hb d_Reader_readSize_19 rfl (lv_at hl 0 rfl) ?_
    refine mw_get (ci := 2) (i := 14) (v := .int (iI ra)) (C := R_Reader) (T := T_Reader) (N := 6) hx hb hts in_Reader hown hK hM hR rfl rfl 2 (by decide) (hts _ m_168) rfl d_Reader_readSize_20 ?_
    refine lv_iconst (v := iI (4)) hx hb d_Reader_readSize_23 rfl ?_
    refine mw_rdV (i := 2) (As := [.int (iI ra), .int (iI 4)]) (rest := []) ⟨hx, hb, hml, hown, hts⟩ hK hM hS rfl hB.1 rfl (c_Bytes_numberAt l D g lo L κ 2 3 mo n sz b hB ra 4 (by omega) (by omega)) (cwV 2 hts (gV m_246 m_247 m_248 m_52 m_249) rfl rfl rfl (by decide +kernel) ⟨Nat.le_of_ble_eq_true rfl, Nat.le_of_ble_eq_true rfl⟩) rfl hl.1 rfl (Nat.le_of_ble_eq_true rfl) d_Reader_readSize_24 ⟨Nat.le_of_ble_eq_true rfl, Nat.le_of_ble_eq_true rfl⟩ (fun H locs hM hS => ?_)
    have r2 := bNum4_r b sz ra
    refine lv_lstore (lv' := [(4, .long (lI (bNum b sz ra 3 0))), (0, .ref (L 14)), (1, .int (iI k)), (2, .int (iI nm)), (3, .int (iI left))]) hx hb d_Reader_readSize_27 hl (by decide) rfl (fun ls hl => ?_)
    refine lv_aload_n hx hb d_Reader_readSize_29 rfl (lv_at hl 1 rfl) ?_
    refine mw_get (ci := 2) (i := 14) (v := .int (iI ri)) (C := R_Reader) (T := T_Reader) (N := 6) hx hb hts in_Reader hown hK hM hR rfl rfl 3 (by decide) (hts _ m_169) rfl d_Reader_readSize_30 ?_
    refine lv_iconst (v := iI (-1)) hx hb d_Reader_readSize_33 rfl ?_
    refine ia_icmp_ne (a := ri) (b := -1) (tgt := 41) hx hb d_Reader_readSize_34 (by decide) (by omega) (by omega) (fun c3 => ?_) (fun c3 => ?_)
    · refine lv_iconst (v := iI (0)) hx hb d_Reader_readSize_41 rfl ?_
      refine lv_istore (lv' := [(6, .int (iI 0)), (4, .long (lI (bNum b sz ra 3 0))), (0, .ref (L 14)), (1, .int (iI k)), (2, .int (iI nm)), (3, .int (iI left))]) hx hb d_Reader_readSize_42 hl (by decide) rfl (fun ls hl => ?_)
      refine lv_lload hx hb d_Reader_readSize_44 (lv_at hl 1 rfl) ?_
      refine lv_ldc2 (v := 5) hx hb hown (hts _ m_254) d_Reader_readSize_46 ?_
      refine W.eq (g2 := F0 m 49 ls (.long (lI 5) :: .long (lI (bNum b sz ra 3 0)) :: [])) (by rfl) ?_
      refine ia_lcmp (a := bNum b sz ra 3 0) (b := 5) hx hb (by omega) (by omega) d_Reader_readSize_49 ?_
      have r4 := cmpI_s (bNum b sz ra 3 0) 5
      refine ia_if_lt (a := cmpI (bNum b sz ra 3 0) 5) (tgt := 66) hx hb d_Reader_readSize_50 (by decide) (by omega) (fun c5 => ?_) (fun c5 => ?_)
      · refine lv_aload_n hx hb d_Reader_readSize_66 rfl (lv_at hl 2 rfl) ?_
        refine lv_iconst (v := iI (2)) hx hb d_Reader_readSize_67 rfl ?_
        refine lv_aload_n hx hb d_Reader_readSize_68 rfl (lv_at hl 2 rfl) ?_
        refine mw_get (ci := 2) (i := 14) (v := .int (iI ra)) (C := R_Reader) (T := T_Reader) (N := 6) hx hb hts in_Reader hown hK hM hR rfl rfl 2 (by decide) (hts _ m_168) rfl d_Reader_readSize_69 ?_
        refine mw_callV (i := 14) (As := [.int (iI 2), .int (iI ra)]) (rest := []) ⟨hx, hb, hml, hown, hts⟩ hK hM hS rfl hR rfl (c_Reader_refuse l D g lo L κ T cnt hN mo n sz b hB ra ri rf rp hR (by omega) (by omega) 2 ra) (cwV 2 hts (gV m_242 m_244 m_1 m_57 m_245) rfl rfl rfl (by decide +kernel) ⟨Nat.le_of_ble_eq_true rfl, Nat.le_of_ble_eq_true rfl⟩) rfl hl.1 rfl (Nat.le_of_ble_eq_true rfl) d_Reader_readSize_72 ⟨Nat.le_of_ble_eq_true rfl, Nat.le_of_ble_eq_true rfl⟩ (fun v6 L6 κ6 H locs hp6 hM hS => ?_)
        obtain ⟨rfl, rfl, hR6, hN6, hk6⟩ := hp6
        have hR6 : rds L κ6 ra ri 2 ra := hR6
        have hN6 : nds g L κ6 T cnt 2 := hN6
        have hB7 := bxs_keep hB (hk6 2 (by omega)) (hk6 3 (by omega)) rfl
        refine lv_goto (tgt := 161) hx hb d_Reader_readSize_75 (by decide) ?_
        exact mw_vret hx hb hr hM hS hlocks d_Reader_readSize_161 (by rw [show rSize b sz k nm left ra ri rf rp T cnt = ((ra : Int), (ri : Int), (2 : Int), (ra : Int), T, cnt) by unfold rSize; rw [if_neg (by omega), if_pos (by omega)]]; exact ⟨rfl, rfl, hR6, hN6, fun r h => by rw [hk6 r (by omega)]⟩)
      · refine lv_iload hx hb d_Reader_readSize_53 (lv_at hl 0 rfl) ?_
        refine ia_if_eq (a := 0) (tgt := 78) hx hb d_Reader_readSize_55 (by decide) (by omega) (fun c8 => ?_) (fun c8 => ?_)
        · refine lv_lload hx hb d_Reader_readSize_78 (lv_at hl 1 rfl) ?_
          refine lv_iload_n hx hb d_Reader_readSize_80 rfl (lv_at hl 5 rfl) ?_
          refine ia_i2l hx hb (by omega) d_Reader_readSize_81 ?_
          refine ia_lcmp (a := bNum b sz ra 3 0) (b := left) hx hb (by omega) (by omega) d_Reader_readSize_82 ?_
          have r9 := cmpI_s (bNum b sz ra 3 0) left
          refine ia_if_le (a := cmpI (bNum b sz ra 3 0) left) (tgt := 98) hx hb d_Reader_readSize_83 (by decide) (by omega) (fun c10 => ?_) (fun c10 => ?_)
          · refine lv_aload_n hx hb d_Reader_readSize_98 rfl (lv_at hl 2 rfl) ?_
            refine mw_get (ci := 2) (i := 14) (v := .ref (L 6)) (C := R_Reader) (T := T_Reader) (N := 6) hx hb hts in_Reader hown hK hM hR rfl rfl 0 (by decide) (hts _ m_166) rfl d_Reader_readSize_99 ?_
            refine lv_aload_n hx hb d_Reader_readSize_102 rfl (lv_at hl 2 rfl) ?_
            refine mw_get (ci := 2) (i := 14) (v := .int (iI ri)) (C := R_Reader) (T := T_Reader) (N := 6) hx hb hts in_Reader hown hK hM hR rfl rfl 3 (by decide) (hts _ m_169) rfl d_Reader_readSize_103 ?_
            refine mw_rdV (i := 6) (As := [.int (iI ri)]) (rest := []) ⟨hx, hb, hml, hown, hts⟩ hK hM hS rfl hN.1 rfl (c_Nodes_depth l D g lo L κ T cnt 2 hN ri (by omega)) (cwV 1 hts (gV m_255 m_256 m_257 m_56 m_258) rfl rfl rfl (by decide +kernel) ⟨Nat.le_of_ble_eq_true rfl, Nat.le_of_ble_eq_true rfl⟩) rfl hl.1 rfl (Nat.le_of_ble_eq_true rfl) d_Reader_readSize_106 ⟨Nat.le_of_ble_eq_true rfl, Nat.le_of_ble_eq_true rfl⟩ (fun H locs hM hS => ?_)
            have r11 := nCell_r (cnt := cnt) hN.2.2.2.1 2 ri
            refine lv_bipush (v := iI (16)) hx hb d_Reader_readSize_109 (by decide) ?_
            refine ia_icmp_lt (a := nCell T cnt 2 ri) (b := 16) (tgt := 127) hx hb d_Reader_readSize_111 (by decide) (by omega) (by omega) (fun c12 => ?_) (fun c12 => ?_)
            · refine lv_aload_n hx hb d_Reader_readSize_127 rfl (lv_at hl 2 rfl) ?_
              refine lv_aload_n hx hb d_Reader_readSize_128 rfl (lv_at hl 2 rfl) ?_
              refine mw_get (ci := 2) (i := 14) (v := .ref (L 6)) (C := R_Reader) (T := T_Reader) (N := 6) hx hb hts in_Reader hown hK hM hR rfl rfl 0 (by decide) (hts _ m_166) rfl d_Reader_readSize_129 ?_
              refine lv_iload_n hx hb d_Reader_readSize_132 rfl (lv_at hl 3 rfl) ?_
              refine lv_aload_n hx hb d_Reader_readSize_133 rfl (lv_at hl 2 rfl) ?_
              refine mw_get (ci := 2) (i := 14) (v := .int (iI ri)) (C := R_Reader) (T := T_Reader) (N := 6) hx hb hts in_Reader hown hK hM hR rfl rfl 3 (by decide) (hts _ m_169) rfl d_Reader_readSize_134 ?_
              refine lv_iload_n hx hb d_Reader_readSize_137 rfl (lv_at hl 4 rfl) ?_
              refine lv_aload_n hx hb d_Reader_readSize_138 rfl (lv_at hl 2 rfl) ?_
              refine mw_get (ci := 2) (i := 14) (v := .int (iI ra)) (C := R_Reader) (T := T_Reader) (N := 6) hx hb hts in_Reader hown hK hM hR rfl rfl 2 (by decide) (hts _ m_168) rfl d_Reader_readSize_139 ?_
              refine lv_lload hx hb d_Reader_readSize_142 (lv_at hl 1 rfl) ?_
              refine ia_l2i hx hb d_Reader_readSize_144 ?_
              refine mw_callV (i := 6) (As := [.int (iI k), .int (iI ri), .int (iI nm), .int (iI ra), .int (iI (bNum b sz ra 3 0))]) (rest := [.ref (L 14)]) ⟨hx, hb, hml, hown, hts⟩ hK hM hS rfl hN.1 rfl (c_Nodes_append l D g lo L κ T cnt 2 hN k ri nm ra (bNum b sz ra 3 0) hcn (by omega) (by omega) (by omega) (by omega) (by omega)) (cwV 5 hts (gV m_263 m_264 m_265 m_56 m_266) rfl rfl rfl (by decide +kernel) ⟨Nat.le_of_ble_eq_true rfl, Nat.le_of_ble_eq_true rfl⟩) rfl hl.1 rfl (Nat.le_of_ble_eq_true rfl) d_Reader_readSize_145 ⟨Nat.le_of_ble_eq_true rfl, Nat.le_of_ble_eq_true rfl⟩ (fun v13 L13 κ13 H locs hp13 hM hS => ?_)
              obtain ⟨rfl, rfl, hN13, hk13⟩ := hp13
              have hB14 := bxs_keep hB (hk13 2 (by omega)) (hk13 3 (by omega)) rfl
              have e15 := (hk13 14 (by omega)).trans hR
              refine mw_put (ci := 2) (i := 14) (v := .int (iI cnt)) (C := R_Reader) (T := T_Reader) (N := 6) hx hb hts in_Reader ty_Reader ty_Reader_ok nm_Reader hown hK hM hS e15 rfl rfl 3 (by decide) (hts _ m_169) rfl (ty_Reader_ok 3 (by decide)) rfl rfl (Nat.le_of_ble_eq_true rfl) d_Reader_readSize_148 (fun κ16 H locs e16 hk16 hM hS => ?_)
              have e16 : κ16 14 = some (.inr (2, [.ref (L 6), .ref (L 2), .int (iI ra), .int (iI cnt), .int (iI rf), .int (iI rp)])) := e16
              have hN17 := nds_keep hN13 (fun r h1 h2 => hk16 r (by omega)) (fun r h1 h2 => rfl) rfl
              have hB18 := bxs_keep hB14 (hk16 2 (by omega)) (hk16 3 (by omega)) rfl
              refine lv_aload_n hx hb d_Reader_readSize_151 rfl (lv_at hl 2 rfl) ?_
              refine lv_dup hx hb d_Reader_readSize_152 rfl ?_
              refine mw_get (ci := 2) (i := 14) (v := .int (iI ra)) (C := R_Reader) (T := T_Reader) (N := 6) hx hb hts in_Reader hown hK hM e16 rfl rfl 2 (by decide) (hts _ m_168) rfl d_Reader_readSize_153 ?_
              refine lv_iconst (v := iI (4)) hx hb d_Reader_readSize_156 rfl ?_
              refine ia_add hx hb d_Reader_readSize_157 ?_
              refine mw_put (ci := 2) (i := 14) (v := .int (iI (ra + 4))) (C := R_Reader) (T := T_Reader) (N := 6) hx hb hts in_Reader ty_Reader ty_Reader_ok nm_Reader hown hK hM hS e16 rfl rfl 2 (by decide) (hts _ m_168) rfl (ty_Reader_ok 2 (by decide)) rfl rfl (Nat.le_of_ble_eq_true rfl) d_Reader_readSize_158 (fun κ19 H locs e19 hk19 hM hS => ?_)
              have e19 : κ19 14 = some (.inr (2, [.ref (L 6), .ref (L 2), .int (iI (ra + 4)), .int (iI cnt), .int (iI rf), .int (iI rp)])) := e19
              have hN20 := nds_keep hN17 (fun r h1 h2 => hk19 r (by omega)) (fun r h1 h2 => rfl) rfl
              have hB21 := bxs_keep hB18 (hk19 2 (by omega)) (hk19 3 (by omega)) rfl
              exact mw_vret hx hb hr hM hS hlocks d_Reader_readSize_161 (by rw [show rSize b sz k nm left ra ri rf rp T cnt = ((ra + 4 : Int), (cnt : Int), (rf : Int), (rp : Int), nApp T cnt k ri nm ra (bNum b sz ra 3 0), cnt + 1) by unfold rSize; rw [if_neg (by omega), if_neg (by omega), if_neg (by omega), if_neg (by omega)]]; exact ⟨rfl, rfl, e19, hN20, fun r h => by rw [hk19 r (by omega), hk16 r (by omega), hk13 r (by omega)]⟩)
            · refine lv_aload_n hx hb d_Reader_readSize_114 rfl (lv_at hl 2 rfl) ?_
              refine lv_bipush (v := iI (8)) hx hb d_Reader_readSize_115 (by decide) ?_
              refine lv_aload_n hx hb d_Reader_readSize_117 rfl (lv_at hl 2 rfl) ?_
              refine mw_get (ci := 2) (i := 14) (v := .int (iI ra)) (C := R_Reader) (T := T_Reader) (N := 6) hx hb hts in_Reader hown hK hM hR rfl rfl 2 (by decide) (hts _ m_168) rfl d_Reader_readSize_118 ?_
              refine mw_callV (i := 14) (As := [.int (iI 8), .int (iI ra)]) (rest := []) ⟨hx, hb, hml, hown, hts⟩ hK hM hS rfl hR rfl (c_Reader_refuse l D g lo L κ T cnt hN mo n sz b hB ra ri rf rp hR (by omega) (by omega) 8 ra) (cwV 2 hts (gV m_242 m_244 m_1 m_57 m_245) rfl rfl rfl (by decide +kernel) ⟨Nat.le_of_ble_eq_true rfl, Nat.le_of_ble_eq_true rfl⟩) rfl hl.1 rfl (Nat.le_of_ble_eq_true rfl) d_Reader_readSize_121 ⟨Nat.le_of_ble_eq_true rfl, Nat.le_of_ble_eq_true rfl⟩ (fun v22 L22 κ22 H locs hp22 hM hS => ?_)
              obtain ⟨rfl, rfl, hR22, hN22, hk22⟩ := hp22
              have hR22 : rds L κ22 ra ri 8 ra := hR22
              have hN22 : nds g L κ22 T cnt 2 := hN22
              have hB23 := bxs_keep hB (hk22 2 (by omega)) (hk22 3 (by omega)) rfl
              refine lv_goto (tgt := 161) hx hb d_Reader_readSize_124 (by decide) ?_
              exact mw_vret hx hb hr hM hS hlocks d_Reader_readSize_161 (by rw [show rSize b sz k nm left ra ri rf rp T cnt = ((ra : Int), (ri : Int), (8 : Int), (ra : Int), T, cnt) by unfold rSize; rw [if_neg (by omega), if_neg (by omega), if_neg (by omega), if_pos (by omega)]]; exact ⟨rfl, rfl, hR22, hN22, fun r h => by rw [hk22 r (by omega)]⟩)
          · refine lv_aload_n hx hb d_Reader_readSize_86 rfl (lv_at hl 2 rfl) ?_
            refine lv_iconst (v := iI (1)) hx hb d_Reader_readSize_87 rfl ?_
            refine lv_aload_n hx hb d_Reader_readSize_88 rfl (lv_at hl 2 rfl) ?_
            refine mw_get (ci := 2) (i := 14) (v := .int (iI ra)) (C := R_Reader) (T := T_Reader) (N := 6) hx hb hts in_Reader hown hK hM hR rfl rfl 2 (by decide) (hts _ m_168) rfl d_Reader_readSize_89 ?_
            refine mw_callV (i := 14) (As := [.int (iI 1), .int (iI ra)]) (rest := []) ⟨hx, hb, hml, hown, hts⟩ hK hM hS rfl hR rfl (c_Reader_refuse l D g lo L κ T cnt hN mo n sz b hB ra ri rf rp hR (by omega) (by omega) 1 ra) (cwV 2 hts (gV m_242 m_244 m_1 m_57 m_245) rfl rfl rfl (by decide +kernel) ⟨Nat.le_of_ble_eq_true rfl, Nat.le_of_ble_eq_true rfl⟩) rfl hl.1 rfl (Nat.le_of_ble_eq_true rfl) d_Reader_readSize_92 ⟨Nat.le_of_ble_eq_true rfl, Nat.le_of_ble_eq_true rfl⟩ (fun v24 L24 κ24 H locs hp24 hM hS => ?_)
            obtain ⟨rfl, rfl, hR24, hN24, hk24⟩ := hp24
            have hR24 : rds L κ24 ra ri 1 ra := hR24
            have hN24 : nds g L κ24 T cnt 2 := hN24
            have hB25 := bxs_keep hB (hk24 2 (by omega)) (hk24 3 (by omega)) rfl
            refine lv_goto (tgt := 161) hx hb d_Reader_readSize_95 (by decide) ?_
            exact mw_vret hx hb hr hM hS hlocks d_Reader_readSize_161 (by rw [show rSize b sz k nm left ra ri rf rp T cnt = ((ra : Int), (ri : Int), (1 : Int), (ra : Int), T, cnt) by unfold rSize; rw [if_neg (by omega), if_neg (by omega), if_pos (by omega)]]; exact ⟨rfl, rfl, hR24, hN24, fun r h => by rw [hk24 r (by omega)]⟩)
        · exact absurd (by decide) c8
    · refine lv_iconst (v := iI (1)) hx hb d_Reader_readSize_37 rfl ?_
      refine lv_goto (tgt := 42) hx hb d_Reader_readSize_38 (by decide) ?_
      refine lv_istore (lv' := [(6, .int (iI 1)), (4, .long (lI (bNum b sz ra 3 0))), (0, .ref (L 14)), (1, .int (iI k)), (2, .int (iI nm)), (3, .int (iI left))]) hx hb d_Reader_readSize_42 hl (by decide) rfl (fun ls hl => ?_)
      refine lv_lload hx hb d_Reader_readSize_44 (lv_at hl 1 rfl) ?_
      refine lv_ldc2 (v := 5) hx hb hown (hts _ m_254) d_Reader_readSize_46 ?_
      refine W.eq (g2 := F0 m 49 ls (.long (lI 5) :: .long (lI (bNum b sz ra 3 0)) :: [])) (by rfl) ?_
      refine ia_lcmp (a := bNum b sz ra 3 0) (b := 5) hx hb (by omega) (by omega) d_Reader_readSize_49 ?_
      have r26 := cmpI_s (bNum b sz ra 3 0) 5
      refine ia_if_lt (a := cmpI (bNum b sz ra 3 0) 5) (tgt := 66) hx hb d_Reader_readSize_50 (by decide) (by omega) (fun c27 => ?_) (fun c27 => ?_)
      · refine lv_aload_n hx hb d_Reader_readSize_66 rfl (lv_at hl 2 rfl) ?_
        refine lv_iconst (v := iI (2)) hx hb d_Reader_readSize_67 rfl ?_
        refine lv_aload_n hx hb d_Reader_readSize_68 rfl (lv_at hl 2 rfl) ?_
        refine mw_get (ci := 2) (i := 14) (v := .int (iI ra)) (C := R_Reader) (T := T_Reader) (N := 6) hx hb hts in_Reader hown hK hM hR rfl rfl 2 (by decide) (hts _ m_168) rfl d_Reader_readSize_69 ?_
        refine mw_callV (i := 14) (As := [.int (iI 2), .int (iI ra)]) (rest := []) ⟨hx, hb, hml, hown, hts⟩ hK hM hS rfl hR rfl (c_Reader_refuse l D g lo L κ T cnt hN mo n sz b hB ra ri rf rp hR (by omega) (by omega) 2 ra) (cwV 2 hts (gV m_242 m_244 m_1 m_57 m_245) rfl rfl rfl (by decide +kernel) ⟨Nat.le_of_ble_eq_true rfl, Nat.le_of_ble_eq_true rfl⟩) rfl hl.1 rfl (Nat.le_of_ble_eq_true rfl) d_Reader_readSize_72 ⟨Nat.le_of_ble_eq_true rfl, Nat.le_of_ble_eq_true rfl⟩ (fun v28 L28 κ28 H locs hp28 hM hS => ?_)
        obtain ⟨rfl, rfl, hR28, hN28, hk28⟩ := hp28
        have hR28 : rds L κ28 ra ri 2 ra := hR28
        have hN28 : nds g L κ28 T cnt 2 := hN28
        have hB29 := bxs_keep hB (hk28 2 (by omega)) (hk28 3 (by omega)) rfl
        refine lv_goto (tgt := 161) hx hb d_Reader_readSize_75 (by decide) ?_
        exact mw_vret hx hb hr hM hS hlocks d_Reader_readSize_161 (by rw [show rSize b sz k nm left ra ri rf rp T cnt = ((ra : Int), (ri : Int), (2 : Int), (ra : Int), T, cnt) by unfold rSize; rw [if_neg (by omega), if_pos (by omega)]]; exact ⟨rfl, rfl, hR28, hN28, fun r h => by rw [hk28 r (by omega)]⟩)
      · refine lv_iload hx hb d_Reader_readSize_53 (lv_at hl 0 rfl) ?_
        refine ia_if_eq (a := 1) (tgt := 78) hx hb d_Reader_readSize_55 (by decide) (by omega) (fun c30 => ?_) (fun c30 => ?_)
        · exact absurd c30 (by decide)
        · refine lv_lload hx hb d_Reader_readSize_58 (lv_at hl 1 rfl) ?_
          refine lv_iload_n hx hb d_Reader_readSize_60 rfl (lv_at hl 5 rfl) ?_
          refine ia_i2l hx hb (by omega) d_Reader_readSize_61 ?_
          refine ia_lcmp (a := bNum b sz ra 3 0) (b := left) hx hb (by omega) (by omega) d_Reader_readSize_62 ?_
          have r31 := cmpI_s (bNum b sz ra 3 0) left
          refine ia_if_ge (a := cmpI (bNum b sz ra 3 0) left) (tgt := 78) hx hb d_Reader_readSize_63 (by decide) (by omega) (fun c32 => ?_) (fun c32 => ?_)
          · refine lv_lload hx hb d_Reader_readSize_78 (lv_at hl 1 rfl) ?_
            refine lv_iload_n hx hb d_Reader_readSize_80 rfl (lv_at hl 5 rfl) ?_
            refine ia_i2l hx hb (by omega) d_Reader_readSize_81 ?_
            refine ia_lcmp (a := bNum b sz ra 3 0) (b := left) hx hb (by omega) (by omega) d_Reader_readSize_82 ?_
            have r33 := cmpI_s (bNum b sz ra 3 0) left
            refine ia_if_le (a := cmpI (bNum b sz ra 3 0) left) (tgt := 98) hx hb d_Reader_readSize_83 (by decide) (by omega) (fun c34 => ?_) (fun c34 => ?_)
            · refine lv_aload_n hx hb d_Reader_readSize_98 rfl (lv_at hl 2 rfl) ?_
              refine mw_get (ci := 2) (i := 14) (v := .ref (L 6)) (C := R_Reader) (T := T_Reader) (N := 6) hx hb hts in_Reader hown hK hM hR rfl rfl 0 (by decide) (hts _ m_166) rfl d_Reader_readSize_99 ?_
              refine lv_aload_n hx hb d_Reader_readSize_102 rfl (lv_at hl 2 rfl) ?_
              refine mw_get (ci := 2) (i := 14) (v := .int (iI ri)) (C := R_Reader) (T := T_Reader) (N := 6) hx hb hts in_Reader hown hK hM hR rfl rfl 3 (by decide) (hts _ m_169) rfl d_Reader_readSize_103 ?_
              refine mw_rdV (i := 6) (As := [.int (iI ri)]) (rest := []) ⟨hx, hb, hml, hown, hts⟩ hK hM hS rfl hN.1 rfl (c_Nodes_depth l D g lo L κ T cnt 2 hN ri (by omega)) (cwV 1 hts (gV m_255 m_256 m_257 m_56 m_258) rfl rfl rfl (by decide +kernel) ⟨Nat.le_of_ble_eq_true rfl, Nat.le_of_ble_eq_true rfl⟩) rfl hl.1 rfl (Nat.le_of_ble_eq_true rfl) d_Reader_readSize_106 ⟨Nat.le_of_ble_eq_true rfl, Nat.le_of_ble_eq_true rfl⟩ (fun H locs hM hS => ?_)
              have r35 := nCell_r (cnt := cnt) hN.2.2.2.1 2 ri
              refine lv_bipush (v := iI (16)) hx hb d_Reader_readSize_109 (by decide) ?_
              refine ia_icmp_lt (a := nCell T cnt 2 ri) (b := 16) (tgt := 127) hx hb d_Reader_readSize_111 (by decide) (by omega) (by omega) (fun c36 => ?_) (fun c36 => ?_)
              · refine lv_aload_n hx hb d_Reader_readSize_127 rfl (lv_at hl 2 rfl) ?_
                refine lv_aload_n hx hb d_Reader_readSize_128 rfl (lv_at hl 2 rfl) ?_
                refine mw_get (ci := 2) (i := 14) (v := .ref (L 6)) (C := R_Reader) (T := T_Reader) (N := 6) hx hb hts in_Reader hown hK hM hR rfl rfl 0 (by decide) (hts _ m_166) rfl d_Reader_readSize_129 ?_
                refine lv_iload_n hx hb d_Reader_readSize_132 rfl (lv_at hl 3 rfl) ?_
                refine lv_aload_n hx hb d_Reader_readSize_133 rfl (lv_at hl 2 rfl) ?_
                refine mw_get (ci := 2) (i := 14) (v := .int (iI ri)) (C := R_Reader) (T := T_Reader) (N := 6) hx hb hts in_Reader hown hK hM hR rfl rfl 3 (by decide) (hts _ m_169) rfl d_Reader_readSize_134 ?_
                refine lv_iload_n hx hb d_Reader_readSize_137 rfl (lv_at hl 4 rfl) ?_
                refine lv_aload_n hx hb d_Reader_readSize_138 rfl (lv_at hl 2 rfl) ?_
                refine mw_get (ci := 2) (i := 14) (v := .int (iI ra)) (C := R_Reader) (T := T_Reader) (N := 6) hx hb hts in_Reader hown hK hM hR rfl rfl 2 (by decide) (hts _ m_168) rfl d_Reader_readSize_139 ?_
                refine lv_lload hx hb d_Reader_readSize_142 (lv_at hl 1 rfl) ?_
                refine ia_l2i hx hb d_Reader_readSize_144 ?_
                refine mw_callV (i := 6) (As := [.int (iI k), .int (iI ri), .int (iI nm), .int (iI ra), .int (iI (bNum b sz ra 3 0))]) (rest := [.ref (L 14)]) ⟨hx, hb, hml, hown, hts⟩ hK hM hS rfl hN.1 rfl (c_Nodes_append l D g lo L κ T cnt 2 hN k ri nm ra (bNum b sz ra 3 0) hcn (by omega) (by omega) (by omega) (by omega) (by omega)) (cwV 5 hts (gV m_263 m_264 m_265 m_56 m_266) rfl rfl rfl (by decide +kernel) ⟨Nat.le_of_ble_eq_true rfl, Nat.le_of_ble_eq_true rfl⟩) rfl hl.1 rfl (Nat.le_of_ble_eq_true rfl) d_Reader_readSize_145 ⟨Nat.le_of_ble_eq_true rfl, Nat.le_of_ble_eq_true rfl⟩ (fun v37 L37 κ37 H locs hp37 hM hS => ?_)
                obtain ⟨rfl, rfl, hN37, hk37⟩ := hp37
                have hB38 := bxs_keep hB (hk37 2 (by omega)) (hk37 3 (by omega)) rfl
                have e39 := (hk37 14 (by omega)).trans hR
                refine mw_put (ci := 2) (i := 14) (v := .int (iI cnt)) (C := R_Reader) (T := T_Reader) (N := 6) hx hb hts in_Reader ty_Reader ty_Reader_ok nm_Reader hown hK hM hS e39 rfl rfl 3 (by decide) (hts _ m_169) rfl (ty_Reader_ok 3 (by decide)) rfl rfl (Nat.le_of_ble_eq_true rfl) d_Reader_readSize_148 (fun κ40 H locs e40 hk40 hM hS => ?_)
                have e40 : κ40 14 = some (.inr (2, [.ref (L 6), .ref (L 2), .int (iI ra), .int (iI cnt), .int (iI rf), .int (iI rp)])) := e40
                have hN41 := nds_keep hN37 (fun r h1 h2 => hk40 r (by omega)) (fun r h1 h2 => rfl) rfl
                have hB42 := bxs_keep hB38 (hk40 2 (by omega)) (hk40 3 (by omega)) rfl
                refine lv_aload_n hx hb d_Reader_readSize_151 rfl (lv_at hl 2 rfl) ?_
                refine lv_dup hx hb d_Reader_readSize_152 rfl ?_
                refine mw_get (ci := 2) (i := 14) (v := .int (iI ra)) (C := R_Reader) (T := T_Reader) (N := 6) hx hb hts in_Reader hown hK hM e40 rfl rfl 2 (by decide) (hts _ m_168) rfl d_Reader_readSize_153 ?_
                refine lv_iconst (v := iI (4)) hx hb d_Reader_readSize_156 rfl ?_
                refine ia_add hx hb d_Reader_readSize_157 ?_
                refine mw_put (ci := 2) (i := 14) (v := .int (iI (ra + 4))) (C := R_Reader) (T := T_Reader) (N := 6) hx hb hts in_Reader ty_Reader ty_Reader_ok nm_Reader hown hK hM hS e40 rfl rfl 2 (by decide) (hts _ m_168) rfl (ty_Reader_ok 2 (by decide)) rfl rfl (Nat.le_of_ble_eq_true rfl) d_Reader_readSize_158 (fun κ43 H locs e43 hk43 hM hS => ?_)
                have e43 : κ43 14 = some (.inr (2, [.ref (L 6), .ref (L 2), .int (iI (ra + 4)), .int (iI cnt), .int (iI rf), .int (iI rp)])) := e43
                have hN44 := nds_keep hN41 (fun r h1 h2 => hk43 r (by omega)) (fun r h1 h2 => rfl) rfl
                have hB45 := bxs_keep hB42 (hk43 2 (by omega)) (hk43 3 (by omega)) rfl
                exact mw_vret hx hb hr hM hS hlocks d_Reader_readSize_161 (by rw [show rSize b sz k nm left ra ri rf rp T cnt = ((ra + 4 : Int), (cnt : Int), (rf : Int), (rp : Int), nApp T cnt k ri nm ra (bNum b sz ra 3 0), cnt + 1) by unfold rSize; rw [if_neg (by omega), if_neg (by omega), if_neg (by omega), if_neg (by omega)]]; exact ⟨rfl, rfl, e43, hN44, fun r h => by rw [hk43 r (by omega), hk40 r (by omega), hk37 r (by omega)]⟩)
              · refine lv_aload_n hx hb d_Reader_readSize_114 rfl (lv_at hl 2 rfl) ?_
                refine lv_bipush (v := iI (8)) hx hb d_Reader_readSize_115 (by decide) ?_
                refine lv_aload_n hx hb d_Reader_readSize_117 rfl (lv_at hl 2 rfl) ?_
                refine mw_get (ci := 2) (i := 14) (v := .int (iI ra)) (C := R_Reader) (T := T_Reader) (N := 6) hx hb hts in_Reader hown hK hM hR rfl rfl 2 (by decide) (hts _ m_168) rfl d_Reader_readSize_118 ?_
                refine mw_callV (i := 14) (As := [.int (iI 8), .int (iI ra)]) (rest := []) ⟨hx, hb, hml, hown, hts⟩ hK hM hS rfl hR rfl (c_Reader_refuse l D g lo L κ T cnt hN mo n sz b hB ra ri rf rp hR (by omega) (by omega) 8 ra) (cwV 2 hts (gV m_242 m_244 m_1 m_57 m_245) rfl rfl rfl (by decide +kernel) ⟨Nat.le_of_ble_eq_true rfl, Nat.le_of_ble_eq_true rfl⟩) rfl hl.1 rfl (Nat.le_of_ble_eq_true rfl) d_Reader_readSize_121 ⟨Nat.le_of_ble_eq_true rfl, Nat.le_of_ble_eq_true rfl⟩ (fun v46 L46 κ46 H locs hp46 hM hS => ?_)
                obtain ⟨rfl, rfl, hR46, hN46, hk46⟩ := hp46
                have hR46 : rds L κ46 ra ri 8 ra := hR46
                have hN46 : nds g L κ46 T cnt 2 := hN46
                have hB47 := bxs_keep hB (hk46 2 (by omega)) (hk46 3 (by omega)) rfl
                refine lv_goto (tgt := 161) hx hb d_Reader_readSize_124 (by decide) ?_
                exact mw_vret hx hb hr hM hS hlocks d_Reader_readSize_161 (by rw [show rSize b sz k nm left ra ri rf rp T cnt = ((ra : Int), (ri : Int), (8 : Int), (ra : Int), T, cnt) by unfold rSize; rw [if_neg (by omega), if_neg (by omega), if_neg (by omega), if_pos (by omega)]]; exact ⟨rfl, rfl, hR46, hN46, fun r h => by rw [hk46 r (by omega)]⟩)
            · refine lv_aload_n hx hb d_Reader_readSize_86 rfl (lv_at hl 2 rfl) ?_
              refine lv_iconst (v := iI (1)) hx hb d_Reader_readSize_87 rfl ?_
              refine lv_aload_n hx hb d_Reader_readSize_88 rfl (lv_at hl 2 rfl) ?_
              refine mw_get (ci := 2) (i := 14) (v := .int (iI ra)) (C := R_Reader) (T := T_Reader) (N := 6) hx hb hts in_Reader hown hK hM hR rfl rfl 2 (by decide) (hts _ m_168) rfl d_Reader_readSize_89 ?_
              refine mw_callV (i := 14) (As := [.int (iI 1), .int (iI ra)]) (rest := []) ⟨hx, hb, hml, hown, hts⟩ hK hM hS rfl hR rfl (c_Reader_refuse l D g lo L κ T cnt hN mo n sz b hB ra ri rf rp hR (by omega) (by omega) 1 ra) (cwV 2 hts (gV m_242 m_244 m_1 m_57 m_245) rfl rfl rfl (by decide +kernel) ⟨Nat.le_of_ble_eq_true rfl, Nat.le_of_ble_eq_true rfl⟩) rfl hl.1 rfl (Nat.le_of_ble_eq_true rfl) d_Reader_readSize_92 ⟨Nat.le_of_ble_eq_true rfl, Nat.le_of_ble_eq_true rfl⟩ (fun v48 L48 κ48 H locs hp48 hM hS => ?_)
              obtain ⟨rfl, rfl, hR48, hN48, hk48⟩ := hp48
              have hR48 : rds L κ48 ra ri 1 ra := hR48
              have hN48 : nds g L κ48 T cnt 2 := hN48
              have hB49 := bxs_keep hB (hk48 2 (by omega)) (hk48 3 (by omega)) rfl
              refine lv_goto (tgt := 161) hx hb d_Reader_readSize_95 (by decide) ?_
              exact mw_vret hx hb hr hM hS hlocks d_Reader_readSize_161 (by rw [show rSize b sz k nm left ra ri rf rp T cnt = ((ra : Int), (ri : Int), (1 : Int), (ra : Int), T, cnt) by unfold rSize; rw [if_neg (by omega), if_neg (by omega), if_pos (by omega)]]; exact ⟨rfl, rfl, hR48, hN48, fun r h => by rw [hk48 r (by omega)]⟩)
          · refine lv_aload_n hx hb d_Reader_readSize_66 rfl (lv_at hl 2 rfl) ?_
            refine lv_iconst (v := iI (2)) hx hb d_Reader_readSize_67 rfl ?_
            refine lv_aload_n hx hb d_Reader_readSize_68 rfl (lv_at hl 2 rfl) ?_
            refine mw_get (ci := 2) (i := 14) (v := .int (iI ra)) (C := R_Reader) (T := T_Reader) (N := 6) hx hb hts in_Reader hown hK hM hR rfl rfl 2 (by decide) (hts _ m_168) rfl d_Reader_readSize_69 ?_
            refine mw_callV (i := 14) (As := [.int (iI 2), .int (iI ra)]) (rest := []) ⟨hx, hb, hml, hown, hts⟩ hK hM hS rfl hR rfl (c_Reader_refuse l D g lo L κ T cnt hN mo n sz b hB ra ri rf rp hR (by omega) (by omega) 2 ra) (cwV 2 hts (gV m_242 m_244 m_1 m_57 m_245) rfl rfl rfl (by decide +kernel) ⟨Nat.le_of_ble_eq_true rfl, Nat.le_of_ble_eq_true rfl⟩) rfl hl.1 rfl (Nat.le_of_ble_eq_true rfl) d_Reader_readSize_72 ⟨Nat.le_of_ble_eq_true rfl, Nat.le_of_ble_eq_true rfl⟩ (fun v50 L50 κ50 H locs hp50 hM hS => ?_)
            obtain ⟨rfl, rfl, hR50, hN50, hk50⟩ := hp50
            have hR50 : rds L κ50 ra ri 2 ra := hR50
            have hN50 : nds g L κ50 T cnt 2 := hN50
            have hB51 := bxs_keep hB (hk50 2 (by omega)) (hk50 3 (by omega)) rfl
            refine lv_goto (tgt := 161) hx hb d_Reader_readSize_75 (by decide) ?_
            exact mw_vret hx hb hr hM hS hlocks d_Reader_readSize_161 (by rw [show rSize b sz k nm left ra ri rf rp T cnt = ((ra : Int), (ri : Int), (2 : Int), (ra : Int), T, cnt) by unfold rSize; rw [if_neg (by omega), if_pos (by omega)]]; exact ⟨rfl, rfl, hR50, hN50, fun r h => by rw [hk50 r (by omega)]⟩)
  · refine lv_aload_n hx hb d_Reader_readSize_5 rfl (lv_at hl 0 rfl) ?_
    refine lv_iconst (v := iI (1)) hx hb d_Reader_readSize_6 rfl ?_
    refine lv_aload_n hx hb d_Reader_readSize_7 rfl (lv_at hl 0 rfl) ?_
    refine mw_get (ci := 2) (i := 14) (v := .int (iI ra)) (C := R_Reader) (T := T_Reader) (N := 6) hx hb hts in_Reader hown hK hM hR rfl rfl 2 (by decide) (hts _ m_168) rfl d_Reader_readSize_8 ?_
    refine mw_callV (i := 14) (As := [.int (iI 1), .int (iI ra)]) (rest := []) ⟨hx, hb, hml, hown, hts⟩ hK hM hS rfl hR rfl (c_Reader_refuse l D g lo L κ T cnt hN mo n sz b hB ra ri rf rp hR (by omega) (by omega) 1 ra) (cwV 2 hts (gV m_242 m_244 m_1 m_57 m_245) rfl rfl rfl (by decide +kernel) ⟨Nat.le_of_ble_eq_true rfl, Nat.le_of_ble_eq_true rfl⟩) rfl hl.1 rfl (Nat.le_of_ble_eq_true rfl) d_Reader_readSize_11 ⟨Nat.le_of_ble_eq_true rfl, Nat.le_of_ble_eq_true rfl⟩ (fun v52 L52 κ52 H locs hp52 hM hS => ?_)
    obtain ⟨rfl, rfl, hR52, hN52, hk52⟩ := hp52
    have hR52 : rds L κ52 ra ri 1 ra := hR52
    have hN52 : nds g L κ52 T cnt 2 := hN52
    have hB53 := bxs_keep hB (hk52 2 (by omega)) (hk52 3 (by omega)) rfl
    exact mw_vret hx hb hr hM hS hlocks d_Reader_readSize_14 (by rw [show rSize b sz k nm left ra ri rf rp T cnt = ((ra : Int), (ri : Int), (1 : Int), (ra : Int), T, cnt) by unfold rSize; rw [if_pos (by omega)]]; exact ⟨rfl, rfl, hR52, hN52, fun r h => by rw [hk52 r (by omega)]⟩)
set_option maxHeartbeats 4000000 in
set_option maxRecDepth 100000 in
theorem c_Reader_readText (l : Launch) (D : va_G) (g : Nat → ClassId) (lo : Nat) (L : Nat → Nat) (κ : Nat → Option va_E) (T : Nat → Nat → Int) (cnt : Nat) (hN : nds g L κ T cnt 2) (mo n sz : Nat) (b : Nat → Int) (hB : bxs g L κ 2 3 mo n sz b) (ra ri rf rp : Int) (hR : rds L κ ra ri rf rp) (hra : 0 ≤ ra ∧ ra ≤ 100000) (hri : -1 ≤ ri ∧ ri ≤ 1000) (left : Int) (hle : -100000 ≤ left ∧ left ≤ 100000) : Met l y_Reader_readText w_Reader_readText ({ frames := 3, cells := 0, slots := 0, locals := 73 }) (mwP D vwCl (tyL g) lo L κ [.ref (L 14), .int (iI left)]) (mwQ D vwCl lo (rdQ g L κ (rText b sz left ra ri rf rp T cnt))) 0 0 (fun q => lo ≤ q) := by
  have hc0 := hN.2.2.1
  obtain ⟨hz1, hz2, hz3⟩ := hB.2.2.1
  refine Met.ofW (cc := b_Reader_readText) (maxL := 7) (ret := (Option.none : Option Jvm.ClassFile.FieldType)) (by decide) rfl ?_
  intro p e s m args below meth c s₁ B hml hpre
  obtain ⟨hargs, hM, hK⟩ := hpre
  have hx := B.exec
  have hb := B.bytes
  have hr := B.returns
  have hts : ∀ w ∈ wA, w.before args s = true := fun w h => atoms_spec (ws := w_Reader_readText) B.pre w (List.mem_cons_of_mem _ h)
  have hown : s.vm.findClass R_Reader = some m.cls := findClass_of_methodNamed B.named
  have hlocks := B.notSynchronized
  have hS : va_S (fun q => lo ≤ q) s.heap s.heap [] := va_S.rf
  obtain ⟨ls, hls, hl⟩ := mw_entry (m := m) [.ref (L 14), .int (iI left)] (n := 7) (Nat.le_of_ble_eq_true rfl) hargs
  refine W.eq hls ?_
  have hl : lv_has ls 7 [(0, .ref (L 14)), (1, .int (iI left))] := hl
  refine lv_iload_n hx hb d_Reader_readText_0 rfl (lv_at hl 1 rfl) ?_
  refine lv_iconst (v := iI (4)) hx hb d_Reader_readText_1 rfl ?_
  refine ia_icmp_ge (a := left) (b := 4) (tgt := 15) hx hb d_Reader_readText_2 (by decide) (by omega) (by omega) (fun c1 => ?_) (fun c1 => ?_)
  · refine lv_aload_n hx hb d_Reader_readText_15 rfl (lv_at hl 0 rfl) ?_
    refine mw_get (ci := 2) (i := 14) (v := .ref (L 2)) (C := R_Reader) (T := T_Reader) (N := 6) hx hb hts in_Reader hown hK hM hR rfl rfl 1 (by decide) (hts _ m_167) rfl d_Reader_readText_16 ?_
    refine lv_aload_n hx hb d_Reader_readText_19 rfl (lv_at hl 0 rfl) ?_
    refine mw_get (ci := 2) (i := 14) (v := .int (iI ra)) (C := R_Reader) (T := T_Reader) (N := 6) hx hb hts in_Reader hown hK hM hR rfl rfl 2 (by decide) (hts _ m_168) rfl d_Reader_readText_20 ?_
    refine lv_iconst (v := iI (4)) hx hb d_Reader_readText_23 rfl ?_
    refine mw_rdV (i := 2) (As := [.int (iI ra), .int (iI 4)]) (rest := []) ⟨hx, hb, hml, hown, hts⟩ hK hM hS rfl hB.1 rfl (c_Bytes_numberAt l D g lo L κ 2 3 mo n sz b hB ra 4 (by omega) (by omega)) (cwV 2 hts (gV m_246 m_247 m_248 m_52 m_249) rfl rfl rfl (by decide +kernel) ⟨Nat.le_of_ble_eq_true rfl, Nat.le_of_ble_eq_true rfl⟩) rfl hl.1 rfl (Nat.le_of_ble_eq_true rfl) d_Reader_readText_24 ⟨Nat.le_of_ble_eq_true rfl, Nat.le_of_ble_eq_true rfl⟩ (fun H locs hM hS => ?_)
    have r2 := bNum4_r b sz ra
    refine lv_lstore_n (lv' := [(2, .long (lI (bNum b sz ra 3 0))), (0, .ref (L 14)), (1, .int (iI left))]) hx hb d_Reader_readText_27 rfl hl (by decide) rfl (fun ls hl => ?_)
    refine lv_lload_n hx hb d_Reader_readText_28 rfl (lv_at hl 0 rfl) ?_
    refine lv_lconst (v := lI (1)) hx hb d_Reader_readText_29 (by decide) ?_
    refine ia_lcmp (a := bNum b sz ra 3 0) (b := 1) hx hb (by omega) (by omega) d_Reader_readText_30 ?_
    have r3 := cmpI_s (bNum b sz ra 3 0) 1
    refine ia_if_lt (a := cmpI (bNum b sz ra 3 0) 1) (tgt := 43) hx hb d_Reader_readText_31 (by decide) (by omega) (fun c4 => ?_) (fun c4 => ?_)
    · refine lv_aload_n hx hb d_Reader_readText_43 rfl (lv_at hl 1 rfl) ?_
      refine lv_lload_n hx hb d_Reader_readText_44 rfl (lv_at hl 0 rfl) ?_
      refine lv_lconst (v := lI (1)) hx hb d_Reader_readText_45 (by decide) ?_
      refine ia_lcmp (a := bNum b sz ra 3 0) (b := 1) hx hb (by omega) (by omega) d_Reader_readText_46 ?_
      have r5 := cmpI_s (bNum b sz ra 3 0) 1
      refine ia_if_ge (a := cmpI (bNum b sz ra 3 0) 1) (tgt := 55) hx hb d_Reader_readText_47 (by decide) (by omega) (fun c6 => ?_) (fun c6 => ?_)
      · refine lv_iconst (v := iI (1)) hx hb d_Reader_readText_55 rfl ?_
        refine lv_aload_n hx hb d_Reader_readText_56 rfl (lv_at hl 1 rfl) ?_
        refine mw_get (ci := 2) (i := 14) (v := .int (iI ra)) (C := R_Reader) (T := T_Reader) (N := 6) hx hb hts in_Reader hown hK hM hR rfl rfl 2 (by decide) (hts _ m_168) rfl d_Reader_readText_57 ?_
        refine mw_callV (i := 14) (As := [.int (iI 1), .int (iI ra)]) (rest := []) ⟨hx, hb, hml, hown, hts⟩ hK hM hS rfl hR rfl (c_Reader_refuse l D g lo L κ T cnt hN mo n sz b hB ra ri rf rp hR (by omega) (by omega) 1 ra) (cwV 2 hts (gV m_242 m_244 m_1 m_57 m_245) rfl rfl rfl (by decide +kernel) ⟨Nat.le_of_ble_eq_true rfl, Nat.le_of_ble_eq_true rfl⟩) rfl hl.1 rfl (Nat.le_of_ble_eq_true rfl) d_Reader_readText_60 ⟨Nat.le_of_ble_eq_true rfl, Nat.le_of_ble_eq_true rfl⟩ (fun v7 L7 κ7 H locs hp7 hM hS => ?_)
        obtain ⟨rfl, rfl, hR7, hN7, hk7⟩ := hp7
        have hR7 : rds L κ7 ra ri 1 ra := hR7
        have hN7 : nds g L κ7 T cnt 2 := hN7
        have hB8 := bxs_keep hB (hk7 2 (by omega)) (hk7 3 (by omega)) rfl
        exact mw_vret hx hb hr hM hS hlocks d_Reader_readText_63 (by rw [show rText b sz left ra ri rf rp T cnt = ((ra : Int), (ri : Int), (1 : Int), (ra : Int), T, cnt) by unfold rText; rw [if_neg (by omega), if_neg (by omega), if_pos (by omega)]]; exact ⟨rfl, rfl, hR7, hN7, fun r h => by rw [hk7 r (by omega)]⟩)
      · refine lv_bipush (v := iI (6)) hx hb d_Reader_readText_50 (by decide) ?_
        refine lv_goto (tgt := 56) hx hb d_Reader_readText_52 (by decide) ?_
        refine lv_aload_n hx hb d_Reader_readText_56 rfl (lv_at hl 1 rfl) ?_
        refine mw_get (ci := 2) (i := 14) (v := .int (iI ra)) (C := R_Reader) (T := T_Reader) (N := 6) hx hb hts in_Reader hown hK hM hR rfl rfl 2 (by decide) (hts _ m_168) rfl d_Reader_readText_57 ?_
        refine mw_callV (i := 14) (As := [.int (iI 6), .int (iI ra)]) (rest := []) ⟨hx, hb, hml, hown, hts⟩ hK hM hS rfl hR rfl (c_Reader_refuse l D g lo L κ T cnt hN mo n sz b hB ra ri rf rp hR (by omega) (by omega) 6 ra) (cwV 2 hts (gV m_242 m_244 m_1 m_57 m_245) rfl rfl rfl (by decide +kernel) ⟨Nat.le_of_ble_eq_true rfl, Nat.le_of_ble_eq_true rfl⟩) rfl hl.1 rfl (Nat.le_of_ble_eq_true rfl) d_Reader_readText_60 ⟨Nat.le_of_ble_eq_true rfl, Nat.le_of_ble_eq_true rfl⟩ (fun v9 L9 κ9 H locs hp9 hM hS => ?_)
        obtain ⟨rfl, rfl, hR9, hN9, hk9⟩ := hp9
        have hR9 : rds L κ9 ra ri 6 ra := hR9
        have hN9 : nds g L κ9 T cnt 2 := hN9
        have hB10 := bxs_keep hB (hk9 2 (by omega)) (hk9 3 (by omega)) rfl
        exact mw_vret hx hb hr hM hS hlocks d_Reader_readText_63 (by rw [show rText b sz left ra ri rf rp T cnt = ((ra : Int), (ri : Int), (6 : Int), (ra : Int), T, cnt) by unfold rText; rw [if_neg (by omega), if_pos (by omega)]]; exact ⟨rfl, rfl, hR9, hN9, fun r h => by rw [hk9 r (by omega)]⟩)
    · refine lv_lload_n hx hb d_Reader_readText_34 rfl (lv_at hl 0 rfl) ?_
      refine lv_iload_n hx hb d_Reader_readText_35 rfl (lv_at hl 2 rfl) ?_
      refine lv_iconst (v := iI (4)) hx hb d_Reader_readText_36 rfl ?_
      refine ia_sub hx hb d_Reader_readText_37 ?_
      refine ia_i2l hx hb (by omega) d_Reader_readText_38 ?_
      refine ia_lcmp (a := bNum b sz ra 3 0) (b := left - 4) hx hb (by omega) (by omega) d_Reader_readText_39 ?_
      have r11 := cmpI_s (bNum b sz ra 3 0) (left - 4)
      refine ia_if_le (a := cmpI (bNum b sz ra 3 0) (left - 4)) (tgt := 64) hx hb d_Reader_readText_40 (by decide) (by omega) (fun c12 => ?_) (fun c12 => ?_)
      · refine lv_aload_n hx hb d_Reader_readText_64 rfl (lv_at hl 1 rfl) ?_
        refine mw_get (ci := 2) (i := 14) (v := .int (iI ra)) (C := R_Reader) (T := T_Reader) (N := 6) hx hb hts in_Reader hown hK hM hR rfl rfl 2 (by decide) (hts _ m_168) rfl d_Reader_readText_65 ?_
        refine lv_iconst (v := iI (4)) hx hb d_Reader_readText_68 rfl ?_
        refine ia_add hx hb d_Reader_readText_69 ?_
        refine lv_istore (lv' := [(4, .int (iI (ra + 4))), (2, .long (lI (bNum b sz ra 3 0))), (0, .ref (L 14)), (1, .int (iI left))]) hx hb d_Reader_readText_70 hl (by decide) rfl (fun ls hl => ?_)
        refine lv_iload hx hb d_Reader_readText_72 (lv_at hl 0 rfl) ?_
        refine lv_lload_n hx hb d_Reader_readText_74 rfl (lv_at hl 1 rfl) ?_
        refine ia_l2i hx hb d_Reader_readText_75 ?_
        refine ia_add hx hb d_Reader_readText_76 ?_
        refine lv_iconst (v := iI (1)) hx hb d_Reader_readText_77 rfl ?_
        refine ia_sub hx hb d_Reader_readText_78 ?_
        refine lv_istore (lv' := [(5, .int (iI (((ra + 4) + (bNum b sz ra 3 0)) - 1))), (4, .int (iI (ra + 4))), (2, .long (lI (bNum b sz ra 3 0))), (0, .ref (L 14)), (1, .int (iI left))]) hx hb d_Reader_readText_79 hl (by decide) rfl (fun ls hl => ?_)
        refine lv_aload_n hx hb d_Reader_readText_81 rfl (lv_at hl 3 rfl) ?_
        refine mw_get (ci := 2) (i := 14) (v := .ref (L 2)) (C := R_Reader) (T := T_Reader) (N := 6) hx hb hts in_Reader hown hK hM hR rfl rfl 1 (by decide) (hts _ m_167) rfl d_Reader_readText_82 ?_
        refine lv_iload hx hb d_Reader_readText_85 (lv_at hl 0 rfl) ?_
        refine mw_rdV (i := 2) (As := [.int (iI (((ra + 4) + (bNum b sz ra 3 0)) - 1))]) (rest := []) ⟨hx, hb, hml, hown, hts⟩ hK hM hS rfl hB.1 rfl (c_Bytes_get l D g lo L κ 2 3 mo n sz b hB (((ra + 4) + (bNum b sz ra 3 0)) - 1) (by omega)) (cwV 1 hts (gV m_278 m_251 m_252 m_52 m_253) rfl rfl rfl (by decide +kernel) ⟨Nat.le_of_ble_eq_true rfl, Nat.le_of_ble_eq_true rfl⟩) rfl hl.1 rfl (Nat.le_of_ble_eq_true rfl) d_Reader_readText_87 ⟨Nat.le_of_ble_eq_true rfl, Nat.le_of_ble_eq_true rfl⟩ (fun H locs hM hS => ?_)
        have r13 := bGet_r (sz := sz) hB.2.2.2.1 (((ra + 4) + (bNum b sz ra 3 0)) - 1)
        refine ia_if_eq (a := bGet b sz (((ra + 4) + (bNum b sz ra 3 0)) - 1)) (tgt := 102) hx hb d_Reader_readText_90 (by decide) (by omega) (fun c14 => ?_) (fun c14 => ?_)
        · refine lv_aload_n hx hb d_Reader_readText_102 rfl (lv_at hl 3 rfl) ?_
          refine mw_get (ci := 2) (i := 14) (v := .ref (L 2)) (C := R_Reader) (T := T_Reader) (N := 6) hx hb hts in_Reader hown hK hM hR rfl rfl 1 (by decide) (hts _ m_167) rfl d_Reader_readText_103 ?_
          refine lv_iload hx hb d_Reader_readText_106 (lv_at hl 1 rfl) ?_
          refine lv_iload hx hb d_Reader_readText_108 (lv_at hl 0 rfl) ?_
          refine mw_rdS (As := [.ref (L 2), .int (iI (ra + 4)), .int (iI (((ra + 4) + (bNum b sz ra 3 0)) - 1))]) (rest := []) ⟨hx, hb, hml, hown, hts⟩ hK hM hS (c_Utf8_firstWrong l D g lo L κ 2 3 mo n sz b hB (ra + 4) (((ra + 4) + (bNum b sz ra 3 0)) - 1) (by omega) (by omega)) (va_cwS 3 hts (gT m_302 m_303 m_60 m_304) rfl rfl rfl (by decide +kernel) ⟨Nat.le_of_ble_eq_true rfl, Nat.le_of_ble_eq_true rfl⟩) rfl hl.1 rfl (Nat.le_of_ble_eq_true rfl) d_Reader_readText_110 ⟨Nat.le_of_ble_eq_true rfl, Nat.le_of_ble_eq_true rfl⟩ (fun H locs hM hS => ?_)
          have r15 := uWrong_r b sz (ra + 4) (((ra + 4) + (bNum b sz ra 3 0)) - 1)
          refine lv_istore (lv' := [(6, .int (iI (uWrong b sz (ra + 4) (((ra + 4) + (bNum b sz ra 3 0)) - 1)))), (5, .int (iI (((ra + 4) + (bNum b sz ra 3 0)) - 1))), (4, .int (iI (ra + 4))), (2, .long (lI (bNum b sz ra 3 0))), (0, .ref (L 14)), (1, .int (iI left))]) hx hb d_Reader_readText_113 hl (by decide) rfl (fun ls hl => ?_)
          refine lv_iload hx hb d_Reader_readText_115 (lv_at hl 0 rfl) ?_
          refine lv_iconst (v := iI (-1)) hx hb d_Reader_readText_117 rfl ?_
          refine ia_icmp_eq (a := uWrong b sz (ra + 4) (((ra + 4) + (bNum b sz ra 3 0)) - 1)) (b := -1) (tgt := 131) hx hb d_Reader_readText_118 (by decide) (by omega) (by omega) (fun c16 => ?_) (fun c16 => ?_)
          · refine lv_aload_n hx hb d_Reader_readText_131 rfl (lv_at hl 4 rfl) ?_
            refine lv_iload hx hb d_Reader_readText_132 (lv_at hl 1 rfl) ?_
            refine lv_iconst (v := iI (1)) hx hb d_Reader_readText_134 rfl ?_
            refine ia_add hx hb d_Reader_readText_135 ?_
            refine mw_put (ci := 2) (i := 14) (v := .int (iI ((((ra + 4) + (bNum b sz ra 3 0)) - 1) + 1))) (C := R_Reader) (T := T_Reader) (N := 6) hx hb hts in_Reader ty_Reader ty_Reader_ok nm_Reader hown hK hM hS hR rfl rfl 2 (by decide) (hts _ m_168) rfl (ty_Reader_ok 2 (by decide)) rfl rfl (Nat.le_of_ble_eq_true rfl) d_Reader_readText_136 (fun κ17 H locs e17 hk17 hM hS => ?_)
            have e17 : κ17 14 = some (.inr (2, [.ref (L 6), .ref (L 2), .int (iI ((((ra + 4) + (bNum b sz ra 3 0)) - 1) + 1)), .int (iI ri), .int (iI rf), .int (iI rp)])) := e17
            have hN18 := nds_keep hN (fun r h1 h2 => hk17 r (by omega)) (fun r h1 h2 => rfl) rfl
            have hB19 := bxs_keep hB (hk17 2 (by omega)) (hk17 3 (by omega)) rfl
            exact mw_vret hx hb hr hM hS hlocks d_Reader_readText_139 (by rw [show rText b sz left ra ri rf rp T cnt = (((((ra + 4) + (bNum b sz ra 3 0)) - 1) + 1 : Int), (ri : Int), (rf : Int), (rp : Int), T, cnt) by unfold rText; rw [if_neg (by omega), if_neg (by omega), if_neg (by omega), if_neg (by omega), if_neg (by omega)]]; exact ⟨rfl, rfl, e17, hN18, fun r h => by rw [hk17 r (by omega)]⟩)
          · refine lv_aload_n hx hb d_Reader_readText_121 rfl (lv_at hl 4 rfl) ?_
            refine lv_iconst (v := iI (4)) hx hb d_Reader_readText_122 rfl ?_
            refine lv_iload hx hb d_Reader_readText_123 (lv_at hl 0 rfl) ?_
            refine mw_callV (i := 14) (As := [.int (iI 4), .int (iI (uWrong b sz (ra + 4) (((ra + 4) + (bNum b sz ra 3 0)) - 1)))]) (rest := []) ⟨hx, hb, hml, hown, hts⟩ hK hM hS rfl hR rfl (c_Reader_refuse l D g lo L κ T cnt hN mo n sz b hB ra ri rf rp hR (by omega) (by omega) 4 (uWrong b sz (ra + 4) (((ra + 4) + (bNum b sz ra 3 0)) - 1))) (cwV 2 hts (gV m_242 m_244 m_1 m_57 m_245) rfl rfl rfl (by decide +kernel) ⟨Nat.le_of_ble_eq_true rfl, Nat.le_of_ble_eq_true rfl⟩) rfl hl.1 rfl (Nat.le_of_ble_eq_true rfl) d_Reader_readText_125 ⟨Nat.le_of_ble_eq_true rfl, Nat.le_of_ble_eq_true rfl⟩ (fun v20 L20 κ20 H locs hp20 hM hS => ?_)
            obtain ⟨rfl, rfl, hR20, hN20, hk20⟩ := hp20
            have hR20 : rds L κ20 ra ri 4 (uWrong b sz (ra + 4) (((ra + 4) + (bNum b sz ra 3 0)) - 1)) := hR20
            have hN20 : nds g L κ20 T cnt 2 := hN20
            have hB21 := bxs_keep hB (hk20 2 (by omega)) (hk20 3 (by omega)) rfl
            refine lv_goto (tgt := 139) hx hb d_Reader_readText_128 (by decide) ?_
            exact mw_vret hx hb hr hM hS hlocks d_Reader_readText_139 (by rw [show rText b sz left ra ri rf rp T cnt = ((ra : Int), (ri : Int), (4 : Int), (uWrong b sz (ra + 4) (((ra + 4) + (bNum b sz ra 3 0)) - 1) : Int), T, cnt) by unfold rText; rw [if_neg (by omega), if_neg (by omega), if_neg (by omega), if_neg (by omega), if_pos (by omega)]]; exact ⟨rfl, rfl, hR20, hN20, fun r h => by rw [hk20 r (by omega)]⟩)
        · refine lv_aload_n hx hb d_Reader_readText_93 rfl (lv_at hl 3 rfl) ?_
          refine lv_bipush (v := iI (6)) hx hb d_Reader_readText_94 (by decide) ?_
          refine lv_iload hx hb d_Reader_readText_96 (lv_at hl 0 rfl) ?_
          refine mw_callV (i := 14) (As := [.int (iI 6), .int (iI (((ra + 4) + (bNum b sz ra 3 0)) - 1))]) (rest := []) ⟨hx, hb, hml, hown, hts⟩ hK hM hS rfl hR rfl (c_Reader_refuse l D g lo L κ T cnt hN mo n sz b hB ra ri rf rp hR (by omega) (by omega) 6 (((ra + 4) + (bNum b sz ra 3 0)) - 1)) (cwV 2 hts (gV m_242 m_244 m_1 m_57 m_245) rfl rfl rfl (by decide +kernel) ⟨Nat.le_of_ble_eq_true rfl, Nat.le_of_ble_eq_true rfl⟩) rfl hl.1 rfl (Nat.le_of_ble_eq_true rfl) d_Reader_readText_98 ⟨Nat.le_of_ble_eq_true rfl, Nat.le_of_ble_eq_true rfl⟩ (fun v22 L22 κ22 H locs hp22 hM hS => ?_)
          obtain ⟨rfl, rfl, hR22, hN22, hk22⟩ := hp22
          have hR22 : rds L κ22 ra ri 6 (((ra + 4) + (bNum b sz ra 3 0)) - 1) := hR22
          have hN22 : nds g L κ22 T cnt 2 := hN22
          have hB23 := bxs_keep hB (hk22 2 (by omega)) (hk22 3 (by omega)) rfl
          exact mw_vret hx hb hr hM hS hlocks d_Reader_readText_101 (by rw [show rText b sz left ra ri rf rp T cnt = ((ra : Int), (ri : Int), (6 : Int), (((ra + 4) + (bNum b sz ra 3 0)) - 1 : Int), T, cnt) by unfold rText; rw [if_neg (by omega), if_neg (by omega), if_neg (by omega), if_pos (by omega)]]; exact ⟨rfl, rfl, hR22, hN22, fun r h => by rw [hk22 r (by omega)]⟩)
      · refine lv_aload_n hx hb d_Reader_readText_43 rfl (lv_at hl 1 rfl) ?_
        refine lv_lload_n hx hb d_Reader_readText_44 rfl (lv_at hl 0 rfl) ?_
        refine lv_lconst (v := lI (1)) hx hb d_Reader_readText_45 (by decide) ?_
        refine ia_lcmp (a := bNum b sz ra 3 0) (b := 1) hx hb (by omega) (by omega) d_Reader_readText_46 ?_
        have r24 := cmpI_s (bNum b sz ra 3 0) 1
        refine ia_if_ge (a := cmpI (bNum b sz ra 3 0) 1) (tgt := 55) hx hb d_Reader_readText_47 (by decide) (by omega) (fun c25 => ?_) (fun c25 => ?_)
        · refine lv_iconst (v := iI (1)) hx hb d_Reader_readText_55 rfl ?_
          refine lv_aload_n hx hb d_Reader_readText_56 rfl (lv_at hl 1 rfl) ?_
          refine mw_get (ci := 2) (i := 14) (v := .int (iI ra)) (C := R_Reader) (T := T_Reader) (N := 6) hx hb hts in_Reader hown hK hM hR rfl rfl 2 (by decide) (hts _ m_168) rfl d_Reader_readText_57 ?_
          refine mw_callV (i := 14) (As := [.int (iI 1), .int (iI ra)]) (rest := []) ⟨hx, hb, hml, hown, hts⟩ hK hM hS rfl hR rfl (c_Reader_refuse l D g lo L κ T cnt hN mo n sz b hB ra ri rf rp hR (by omega) (by omega) 1 ra) (cwV 2 hts (gV m_242 m_244 m_1 m_57 m_245) rfl rfl rfl (by decide +kernel) ⟨Nat.le_of_ble_eq_true rfl, Nat.le_of_ble_eq_true rfl⟩) rfl hl.1 rfl (Nat.le_of_ble_eq_true rfl) d_Reader_readText_60 ⟨Nat.le_of_ble_eq_true rfl, Nat.le_of_ble_eq_true rfl⟩ (fun v26 L26 κ26 H locs hp26 hM hS => ?_)
          obtain ⟨rfl, rfl, hR26, hN26, hk26⟩ := hp26
          have hR26 : rds L κ26 ra ri 1 ra := hR26
          have hN26 : nds g L κ26 T cnt 2 := hN26
          have hB27 := bxs_keep hB (hk26 2 (by omega)) (hk26 3 (by omega)) rfl
          exact mw_vret hx hb hr hM hS hlocks d_Reader_readText_63 (by rw [show rText b sz left ra ri rf rp T cnt = ((ra : Int), (ri : Int), (1 : Int), (ra : Int), T, cnt) by unfold rText; rw [if_neg (by omega), if_neg (by omega), if_pos (by omega)]]; exact ⟨rfl, rfl, hR26, hN26, fun r h => by rw [hk26 r (by omega)]⟩)
        · refine lv_bipush (v := iI (6)) hx hb d_Reader_readText_50 (by decide) ?_
          refine lv_goto (tgt := 56) hx hb d_Reader_readText_52 (by decide) ?_
          refine lv_aload_n hx hb d_Reader_readText_56 rfl (lv_at hl 1 rfl) ?_
          refine mw_get (ci := 2) (i := 14) (v := .int (iI ra)) (C := R_Reader) (T := T_Reader) (N := 6) hx hb hts in_Reader hown hK hM hR rfl rfl 2 (by decide) (hts _ m_168) rfl d_Reader_readText_57 ?_
          refine mw_callV (i := 14) (As := [.int (iI 6), .int (iI ra)]) (rest := []) ⟨hx, hb, hml, hown, hts⟩ hK hM hS rfl hR rfl (c_Reader_refuse l D g lo L κ T cnt hN mo n sz b hB ra ri rf rp hR (by omega) (by omega) 6 ra) (cwV 2 hts (gV m_242 m_244 m_1 m_57 m_245) rfl rfl rfl (by decide +kernel) ⟨Nat.le_of_ble_eq_true rfl, Nat.le_of_ble_eq_true rfl⟩) rfl hl.1 rfl (Nat.le_of_ble_eq_true rfl) d_Reader_readText_60 ⟨Nat.le_of_ble_eq_true rfl, Nat.le_of_ble_eq_true rfl⟩ (fun v28 L28 κ28 H locs hp28 hM hS => ?_)
          obtain ⟨rfl, rfl, hR28, hN28, hk28⟩ := hp28
          have hR28 : rds L κ28 ra ri 6 ra := hR28
          have hN28 : nds g L κ28 T cnt 2 := hN28
          have hB29 := bxs_keep hB (hk28 2 (by omega)) (hk28 3 (by omega)) rfl
          exact mw_vret hx hb hr hM hS hlocks d_Reader_readText_63 (by rw [show rText b sz left ra ri rf rp T cnt = ((ra : Int), (ri : Int), (6 : Int), (ra : Int), T, cnt) by unfold rText; rw [if_neg (by omega), if_pos (by omega)]]; exact ⟨rfl, rfl, hR28, hN28, fun r h => by rw [hk28 r (by omega)]⟩)
  · refine lv_aload_n hx hb d_Reader_readText_5 rfl (lv_at hl 0 rfl) ?_
    refine lv_iconst (v := iI (1)) hx hb d_Reader_readText_6 rfl ?_
    refine lv_aload_n hx hb d_Reader_readText_7 rfl (lv_at hl 0 rfl) ?_
    refine mw_get (ci := 2) (i := 14) (v := .int (iI ra)) (C := R_Reader) (T := T_Reader) (N := 6) hx hb hts in_Reader hown hK hM hR rfl rfl 2 (by decide) (hts _ m_168) rfl d_Reader_readText_8 ?_
    refine mw_callV (i := 14) (As := [.int (iI 1), .int (iI ra)]) (rest := []) ⟨hx, hb, hml, hown, hts⟩ hK hM hS rfl hR rfl (c_Reader_refuse l D g lo L κ T cnt hN mo n sz b hB ra ri rf rp hR (by omega) (by omega) 1 ra) (cwV 2 hts (gV m_242 m_244 m_1 m_57 m_245) rfl rfl rfl (by decide +kernel) ⟨Nat.le_of_ble_eq_true rfl, Nat.le_of_ble_eq_true rfl⟩) rfl hl.1 rfl (Nat.le_of_ble_eq_true rfl) d_Reader_readText_11 ⟨Nat.le_of_ble_eq_true rfl, Nat.le_of_ble_eq_true rfl⟩ (fun v30 L30 κ30 H locs hp30 hM hS => ?_)
    obtain ⟨rfl, rfl, hR30, hN30, hk30⟩ := hp30
    have hR30 : rds L κ30 ra ri 1 ra := hR30
    have hN30 : nds g L κ30 T cnt 2 := hN30
    have hB31 := bxs_keep hB (hk30 2 (by omega)) (hk30 3 (by omega)) rfl
    exact mw_vret hx hb hr hM hS hlocks d_Reader_readText_14 (by rw [show rText b sz left ra ri rf rp T cnt = ((ra : Int), (ri : Int), (1 : Int), (ra : Int), T, cnt) by unfold rText; rw [if_pos (by omega)]]; exact ⟨rfl, rfl, hR30, hN30, fun r h => by rw [hk30 r (by omega)]⟩)
set_option maxHeartbeats 4000000 in
set_option maxRecDepth 100000 in
theorem c_Reader_readNumber (l : Launch) (D : va_G) (g : Nat → ClassId) (lo : Nat) (L : Nat → Nat) (κ : Nat → Option va_E) (T : Nat → Nat → Int) (cnt : Nat) (hN : nds g L κ T cnt 2) (mo n sz : Nat) (b : Nat → Int) (hB : bxs g L κ 2 3 mo n sz b) (ra ri rf rp : Int) (hR : rds L κ ra ri rf rp) (hra : 0 ≤ ra ∧ ra ≤ 100000) (hri : -1 ≤ ri ∧ ri ≤ 1000) (k left : Int) (hk0 : -1000 ≤ k ∧ k ≤ 1000) (hle : -100000 ≤ left ∧ left ≤ 100000) : Met l y_Reader_readNumber w_Reader_readNumber ({ frames := 1, cells := 0, slots := 0, locals := 22 }) (mwP D vwCl (tyL g) lo L κ [.ref (L 14), .int (iI k), .int (iI left)]) (mwQ D vwCl lo (rdQ g L κ (rNum b sz k left ra ri rf rp T cnt))) 0 0 (fun q => lo ≤ q) := by
  have hc0 := hN.2.2.1
  obtain ⟨hz1, hz2, hz3⟩ := hB.2.2.1
  refine Met.ofW (cc := b_Reader_readNumber) (maxL := 4) (ret := (Option.none : Option Jvm.ClassFile.FieldType)) (by decide) rfl ?_
  intro p e s m args below meth c s₁ B hml hpre
  obtain ⟨hargs, hM, hK⟩ := hpre
  have hx := B.exec
  have hb := B.bytes
  have hr := B.returns
  have hts : ∀ w ∈ wA, w.before args s = true := fun w h => atoms_spec (ws := w_Reader_readNumber) B.pre w (List.mem_cons_of_mem _ h)
  have hown : s.vm.findClass R_Reader = some m.cls := findClass_of_methodNamed B.named
  have hlocks := B.notSynchronized
  have hS : va_S (fun q => lo ≤ q) s.heap s.heap [] := va_S.rf
  obtain ⟨ls, hls, hl⟩ := mw_entry (m := m) [.ref (L 14), .int (iI k), .int (iI left)] (n := 4) (Nat.le_of_ble_eq_true rfl) hargs
  refine W.eq hls ?_
  have hl : lv_has ls 4 [(0, .ref (L 14)), (1, .int (iI k)), (2, .int (iI left))] := hl
  refine lv_iload_n hx hb d_Reader_readNumber_0 rfl (lv_at hl 1 rfl) ?_
  refine mw_rdS (As := [.int (iI k)]) (rest := []) ⟨hx, hb, hml, hown, hts⟩ hK hM hS (c_Kinds_width l D g lo L κ k (by omega)) (va_cwS 1 hts (gT m_353 m_292 m_59 m_293) rfl rfl rfl (by decide +kernel) ⟨Nat.le_of_ble_eq_true rfl, Nat.le_of_ble_eq_true rfl⟩) rfl hl.1 rfl (Nat.le_of_ble_eq_true rfl) d_Reader_readNumber_1 ⟨Nat.le_of_ble_eq_true rfl, Nat.le_of_ble_eq_true rfl⟩ (fun H locs hM hS => ?_)
  have r1 := kWidth_r k
  refine lv_istore_n (lv' := [(3, .int (iI (kWidth k))), (0, .ref (L 14)), (1, .int (iI k)), (2, .int (iI left))]) hx hb d_Reader_readNumber_4 rfl hl (by decide) rfl (fun ls hl => ?_)
  refine lv_iload_n hx hb d_Reader_readNumber_5 rfl (lv_at hl 3 rfl) ?_
  refine lv_iload_n hx hb d_Reader_readNumber_6 rfl (lv_at hl 0 rfl) ?_
  refine ia_icmp_ge (a := left) (b := kWidth k) (tgt := 22) hx hb d_Reader_readNumber_7 (by decide) (by omega) (by omega) (fun c2 => ?_) (fun c2 => ?_)
  · refine lv_iload_n hx hb d_Reader_readNumber_22 rfl (lv_at hl 2 rfl) ?_
    refine lv_bipush (v := iI (8)) hx hb d_Reader_readNumber_23 (by decide) ?_
    refine ia_icmp_ne (a := k) (b := 8) (tgt := 55) hx hb d_Reader_readNumber_25 (by decide) (by omega) (by omega) (fun c3 => ?_) (fun c3 => ?_)
    · refine lv_aload_n hx hb d_Reader_readNumber_55 rfl (lv_at hl 1 rfl) ?_
      refine lv_dup hx hb d_Reader_readNumber_56 rfl ?_
      refine mw_get (ci := 2) (i := 14) (v := .int (iI ra)) (C := R_Reader) (T := T_Reader) (N := 6) hx hb hts in_Reader hown hK hM hR rfl rfl 2 (by decide) (hts _ m_168) rfl d_Reader_readNumber_57 ?_
      refine lv_iload_n hx hb d_Reader_readNumber_60 rfl (lv_at hl 0 rfl) ?_
      refine ia_add hx hb d_Reader_readNumber_61 ?_
      refine mw_put (ci := 2) (i := 14) (v := .int (iI (ra + (kWidth k)))) (C := R_Reader) (T := T_Reader) (N := 6) hx hb hts in_Reader ty_Reader ty_Reader_ok nm_Reader hown hK hM hS hR rfl rfl 2 (by decide) (hts _ m_168) rfl (ty_Reader_ok 2 (by decide)) rfl rfl (Nat.le_of_ble_eq_true rfl) d_Reader_readNumber_62 (fun κ4 H locs e4 hk4 hM hS => ?_)
      have e4 : κ4 14 = some (.inr (2, [.ref (L 6), .ref (L 2), .int (iI (ra + (kWidth k))), .int (iI ri), .int (iI rf), .int (iI rp)])) := e4
      have hN5 := nds_keep hN (fun r h1 h2 => hk4 r (by omega)) (fun r h1 h2 => rfl) rfl
      have hB6 := bxs_keep hB (hk4 2 (by omega)) (hk4 3 (by omega)) rfl
      exact mw_vret hx hb hr hM hS hlocks d_Reader_readNumber_65 (by rw [show rNum b sz k left ra ri rf rp T cnt = ((ra + (kWidth k) : Int), (ri : Int), (rf : Int), (rp : Int), T, cnt) by unfold rNum; rw [if_neg (by omega), if_neg (by omega)]]; exact ⟨rfl, rfl, e4, hN5, fun r h => by rw [hk4 r (by omega)]⟩)
    · refine lv_aload_n hx hb d_Reader_readNumber_28 rfl (lv_at hl 1 rfl) ?_
      refine mw_get (ci := 2) (i := 14) (v := .ref (L 2)) (C := R_Reader) (T := T_Reader) (N := 6) hx hb hts in_Reader hown hK hM hR rfl rfl 1 (by decide) (hts _ m_167) rfl d_Reader_readNumber_29 ?_
      refine lv_aload_n hx hb d_Reader_readNumber_32 rfl (lv_at hl 1 rfl) ?_
      refine mw_get (ci := 2) (i := 14) (v := .int (iI ra)) (C := R_Reader) (T := T_Reader) (N := 6) hx hb hts in_Reader hown hK hM hR rfl rfl 2 (by decide) (hts _ m_168) rfl d_Reader_readNumber_33 ?_
      refine mw_rdV (i := 2) (As := [.int (iI ra)]) (rest := []) ⟨hx, hb, hml, hown, hts⟩ hK hM hS rfl hB.1 rfl (c_Bytes_get l D g lo L κ 2 3 mo n sz b hB ra (by omega)) (cwV 1 hts (gV m_278 m_251 m_252 m_52 m_253) rfl rfl rfl (by decide +kernel) ⟨Nat.le_of_ble_eq_true rfl, Nat.le_of_ble_eq_true rfl⟩) rfl hl.1 rfl (Nat.le_of_ble_eq_true rfl) d_Reader_readNumber_36 ⟨Nat.le_of_ble_eq_true rfl, Nat.le_of_ble_eq_true rfl⟩ (fun H locs hM hS => ?_)
      have r7 := bGet_r (sz := sz) hB.2.2.2.1 ra
      refine lv_iconst (v := iI (1)) hx hb d_Reader_readNumber_39 rfl ?_
      refine ia_icmp_le (a := bGet b sz ra) (b := 1) (tgt := 55) hx hb d_Reader_readNumber_40 (by decide) (by omega) (by omega) (fun c8 => ?_) (fun c8 => ?_)
      · refine lv_aload_n hx hb d_Reader_readNumber_55 rfl (lv_at hl 1 rfl) ?_
        refine lv_dup hx hb d_Reader_readNumber_56 rfl ?_
        refine mw_get (ci := 2) (i := 14) (v := .int (iI ra)) (C := R_Reader) (T := T_Reader) (N := 6) hx hb hts in_Reader hown hK hM hR rfl rfl 2 (by decide) (hts _ m_168) rfl d_Reader_readNumber_57 ?_
        refine lv_iload_n hx hb d_Reader_readNumber_60 rfl (lv_at hl 0 rfl) ?_
        refine ia_add hx hb d_Reader_readNumber_61 ?_
        refine mw_put (ci := 2) (i := 14) (v := .int (iI (ra + (kWidth k)))) (C := R_Reader) (T := T_Reader) (N := 6) hx hb hts in_Reader ty_Reader ty_Reader_ok nm_Reader hown hK hM hS hR rfl rfl 2 (by decide) (hts _ m_168) rfl (ty_Reader_ok 2 (by decide)) rfl rfl (Nat.le_of_ble_eq_true rfl) d_Reader_readNumber_62 (fun κ9 H locs e9 hk9 hM hS => ?_)
        have e9 : κ9 14 = some (.inr (2, [.ref (L 6), .ref (L 2), .int (iI (ra + (kWidth k))), .int (iI ri), .int (iI rf), .int (iI rp)])) := e9
        have hN10 := nds_keep hN (fun r h1 h2 => hk9 r (by omega)) (fun r h1 h2 => rfl) rfl
        have hB11 := bxs_keep hB (hk9 2 (by omega)) (hk9 3 (by omega)) rfl
        exact mw_vret hx hb hr hM hS hlocks d_Reader_readNumber_65 (by rw [show rNum b sz k left ra ri rf rp T cnt = ((ra + (kWidth k) : Int), (ri : Int), (rf : Int), (rp : Int), T, cnt) by unfold rNum; rw [if_neg (by omega), if_neg (by omega)]]; exact ⟨rfl, rfl, e9, hN10, fun r h => by rw [hk9 r (by omega)]⟩)
      · refine lv_aload_n hx hb d_Reader_readNumber_43 rfl (lv_at hl 1 rfl) ?_
        refine lv_iconst (v := iI (5)) hx hb d_Reader_readNumber_44 rfl ?_
        refine lv_aload_n hx hb d_Reader_readNumber_45 rfl (lv_at hl 1 rfl) ?_
        refine mw_get (ci := 2) (i := 14) (v := .int (iI ra)) (C := R_Reader) (T := T_Reader) (N := 6) hx hb hts in_Reader hown hK hM hR rfl rfl 2 (by decide) (hts _ m_168) rfl d_Reader_readNumber_46 ?_
        refine mw_callV (i := 14) (As := [.int (iI 5), .int (iI ra)]) (rest := []) ⟨hx, hb, hml, hown, hts⟩ hK hM hS rfl hR rfl (c_Reader_refuse l D g lo L κ T cnt hN mo n sz b hB ra ri rf rp hR (by omega) (by omega) 5 ra) (cwV 2 hts (gV m_242 m_244 m_1 m_57 m_245) rfl rfl rfl (by decide +kernel) ⟨Nat.le_of_ble_eq_true rfl, Nat.le_of_ble_eq_true rfl⟩) rfl hl.1 rfl (Nat.le_of_ble_eq_true rfl) d_Reader_readNumber_49 ⟨Nat.le_of_ble_eq_true rfl, Nat.le_of_ble_eq_true rfl⟩ (fun v12 L12 κ12 H locs hp12 hM hS => ?_)
        obtain ⟨rfl, rfl, hR12, hN12, hk12⟩ := hp12
        have hR12 : rds L κ12 ra ri 5 ra := hR12
        have hN12 : nds g L κ12 T cnt 2 := hN12
        have hB13 := bxs_keep hB (hk12 2 (by omega)) (hk12 3 (by omega)) rfl
        refine lv_goto (tgt := 65) hx hb d_Reader_readNumber_52 (by decide) ?_
        exact mw_vret hx hb hr hM hS hlocks d_Reader_readNumber_65 (by rw [show rNum b sz k left ra ri rf rp T cnt = ((ra : Int), (ri : Int), (5 : Int), (ra : Int), T, cnt) by unfold rNum; rw [if_neg (by omega), if_pos (by omega)]]; exact ⟨rfl, rfl, hR12, hN12, fun r h => by rw [hk12 r (by omega)]⟩)
  · refine lv_aload_n hx hb d_Reader_readNumber_10 rfl (lv_at hl 1 rfl) ?_
    refine lv_iconst (v := iI (1)) hx hb d_Reader_readNumber_11 rfl ?_
    refine lv_aload_n hx hb d_Reader_readNumber_12 rfl (lv_at hl 1 rfl) ?_
    refine mw_get (ci := 2) (i := 14) (v := .int (iI ra)) (C := R_Reader) (T := T_Reader) (N := 6) hx hb hts in_Reader hown hK hM hR rfl rfl 2 (by decide) (hts _ m_168) rfl d_Reader_readNumber_13 ?_
    refine mw_callV (i := 14) (As := [.int (iI 1), .int (iI ra)]) (rest := []) ⟨hx, hb, hml, hown, hts⟩ hK hM hS rfl hR rfl (c_Reader_refuse l D g lo L κ T cnt hN mo n sz b hB ra ri rf rp hR (by omega) (by omega) 1 ra) (cwV 2 hts (gV m_242 m_244 m_1 m_57 m_245) rfl rfl rfl (by decide +kernel) ⟨Nat.le_of_ble_eq_true rfl, Nat.le_of_ble_eq_true rfl⟩) rfl hl.1 rfl (Nat.le_of_ble_eq_true rfl) d_Reader_readNumber_16 ⟨Nat.le_of_ble_eq_true rfl, Nat.le_of_ble_eq_true rfl⟩ (fun v14 L14 κ14 H locs hp14 hM hS => ?_)
    obtain ⟨rfl, rfl, hR14, hN14, hk14⟩ := hp14
    have hR14 : rds L κ14 ra ri 1 ra := hR14
    have hN14 : nds g L κ14 T cnt 2 := hN14
    have hB15 := bxs_keep hB (hk14 2 (by omega)) (hk14 3 (by omega)) rfl
    refine lv_goto (tgt := 65) hx hb d_Reader_readNumber_19 (by decide) ?_
    exact mw_vret hx hb hr hM hS hlocks d_Reader_readNumber_65 (by rw [show rNum b sz k left ra ri rf rp T cnt = ((ra : Int), (ri : Int), (1 : Int), (ra : Int), T, cnt) by unfold rNum; rw [if_pos (by omega)]]; exact ⟨rfl, rfl, hR14, hN14, fun r h => by rw [hk14 r (by omega)]⟩)
