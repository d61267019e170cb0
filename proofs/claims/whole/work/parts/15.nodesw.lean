set_option maxHeartbeats 4000000 in
set_option maxRecDepth 100000 in
theorem c_Nodes_begin (l : Launch) (D : va_G) (g : Nat → ClassId) (lo : Nat) (L : Nat → Nat) (κ : Nat → Option va_E) (T : Nat → Nat → Int) (cnt d : Nat) (hN : nds g L κ T cnt d) (d2 : Nat) : Met l y_Nodes_begin w_Nodes_begin ({ frames := 0, cells := 0, slots := 0, locals := 0 }) (mwP D vwCl (tyL g) lo L κ [.ref (L 6), .ref (L d2)]) (mwQ D vwCl lo (fun v L1 κ1 => v = none ∧ L = L1 ∧ nds g L κ1 T 0 d2 ∧ ∀ r, r ≠ 6 → κ1 r = κ r)) 0 0 (fun q => lo ≤ q) := by
  have hc0 := hN.2.2.1
  refine Met.ofW (cc := b_Nodes_begin) (maxL := 2) (ret := (Option.none : Option Jvm.ClassFile.FieldType)) (by decide) rfl ?_
  intro p e s m args below meth c s₁ B hml hpre
  obtain ⟨hargs, hM, hK⟩ := hpre
  have hx := B.exec
  have hb := B.bytes
  have hr := B.returns
  have hts : ∀ w ∈ wA, w.before args s = true := fun w h => atoms_spec (ws := w_Nodes_begin) B.pre w (List.mem_cons_of_mem _ h)
  have hown : s.vm.findClass R_Nodes = some m.cls := findClass_of_methodNamed B.named
  have hlocks := B.notSynchronized
  have hS : va_S (fun q => lo ≤ q) s.heap s.heap [] := va_S.rf
  obtain ⟨ls, hls, hl⟩ := mw_entry (m := m) [.ref (L 6), .ref (L d2)] (n := 2) (Nat.le_of_ble_eq_true rfl) hargs
  refine W.eq hls ?_
  have hl : lv_has ls 2 [(0, .ref (L 6)), (1, .ref (L d2))] := hl
  refine lv_aload_n hx hb d_Nodes_begin_0 rfl (lv_at hl 0 rfl) ?_
  refine lv_aload_n hx hb d_Nodes_begin_1 rfl (lv_at hl 1 rfl) ?_
  refine mw_put (ci := 1) (i := 6) (v := .ref (L d2)) (C := R_Nodes) (T := T_Nodes) (N := 9) hx hb hts in_Nodes ty_Nodes ty_Nodes_ok nm_Nodes hown hK hM hS hN.1 rfl rfl 7 (by decide) (hts _ m_138) rfl (ty_Nodes_ok 7 (by decide)) rfl rfl (Nat.le_of_ble_eq_true rfl) d_Nodes_begin_2 (fun κ1 H locs e1 hk1 hM hS => ?_)
  have e1 : κ1 6 = some (.inr (1, [.ref (L 7), .ref (L 8), .ref (L 9), .ref (L 10), .ref (L 11), .ref (L 12), .ref (L 13), .ref (L d2), .int (iI cnt)])) := e1
  have e2 := (hk1 7 (by omega)).trans (hN.2.1 0 (by decide))
  have e3 := (hk1 8 (by omega)).trans (hN.2.1 1 (by decide))
  have e4 := (hk1 9 (by omega)).trans (hN.2.1 2 (by decide))
  have e5 := (hk1 10 (by omega)).trans (hN.2.1 3 (by decide))
  have e6 := (hk1 11 (by omega)).trans (hN.2.1 4 (by decide))
  have e7 := (hk1 12 (by omega)).trans (hN.2.1 5 (by decide))
  have e8 := (hk1 13 (by omega)).trans (hN.2.1 6 (by decide))
  refine lv_aload_n hx hb d_Nodes_begin_5 rfl (lv_at hl 0 rfl) ?_
  refine lv_iconst (v := iI (0)) hx hb d_Nodes_begin_6 rfl ?_
  refine mw_put (ci := 1) (i := 6) (v := .int (iI 0)) (C := R_Nodes) (T := T_Nodes) (N := 9) hx hb hts in_Nodes ty_Nodes ty_Nodes_ok nm_Nodes hown hK hM hS e1 rfl rfl 8 (by decide) (hts _ m_139) rfl (ty_Nodes_ok 8 (by decide)) rfl rfl (Nat.le_of_ble_eq_true rfl) d_Nodes_begin_7 (fun κ9 H locs e9 hk9 hM hS => ?_)
  have e9 : κ9 6 = some (.inr (1, [.ref (L 7), .ref (L 8), .ref (L 9), .ref (L 10), .ref (L 11), .ref (L 12), .ref (L 13), .ref (L d2), .int (iI 0)])) := e9
  have e10 := (hk9 7 (by omega)).trans e2
  have e11 := (hk9 8 (by omega)).trans e3
  have e12 := (hk9 9 (by omega)).trans e4
  have e13 := (hk9 10 (by omega)).trans e5
  have e14 := (hk9 11 (by omega)).trans e6
  have e15 := (hk9 12 (by omega)).trans e7
  have e16 := (hk9 13 (by omega)).trans e8
  exact mw_vret hx hb hr hM hS hlocks d_Nodes_begin_10 ⟨rfl, rfl, nds_begin hN e9 (fun r h => by rw [hk9 r h, hk1 r h]), fun r h => by rw [hk9 r h, hk1 r h]⟩
set_option maxHeartbeats 4000000 in
set_option maxRecDepth 100000 in
theorem c_Nodes_append (l : Launch) (D : va_G) (g : Nat → ClassId) (lo : Nat) (L : Nat → Nat) (κ : Nat → Option va_E) (T : Nat → Nat → Int) (cnt d : Nat) (hN : nds g L κ T cnt d) (k pa nm va vl : Int) (hc : cnt < 700) (ha1 : -1000000 ≤ k ∧ k ≤ 1000000) (ha2 : -1000000 ≤ pa ∧ pa ≤ 1000000) (ha3 : -1000000 ≤ nm ∧ nm ≤ 1000000) (ha4 : -1000000 ≤ va ∧ va ≤ 1000000) (ha5 : -1000000 ≤ vl ∧ vl ≤ 1000000) : Met l y_Nodes_append w_Nodes_append ({ frames := 1, cells := 0, slots := 0, locals := 20 }) (mwP D vwCl (tyL g) lo L κ [.ref (L 6), .int (iI k), .int (iI pa), .int (iI nm), .int (iI va), .int (iI vl)]) (mwQ D vwCl lo (fun v L1 κ1 => v = some (.int (iI cnt)) ∧ L = L1 ∧ nds g L κ1 (nApp T cnt k pa nm va vl) (cnt + 1) d ∧ ∀ r, (r < 6 ∨ 14 ≤ r) → κ1 r = κ r)) 0 0 (fun q => lo ≤ q) := by
  have hc0 := hN.2.2.1
  refine Met.ofW (cc := b_Nodes_append) (maxL := 7) (ret := (Option.some Jvm.ClassFile.FieldType.int)) (by decide) rfl ?_
  intro p e s m args below meth c s₁ B hml hpre
  obtain ⟨hargs, hM, hK⟩ := hpre
  have hx := B.exec
  have hb := B.bytes
  have hr := B.returns
  have hts : ∀ w ∈ wA, w.before args s = true := fun w h => atoms_spec (ws := w_Nodes_append) B.pre w (List.mem_cons_of_mem _ h)
  have hown : s.vm.findClass R_Nodes = some m.cls := findClass_of_methodNamed B.named
  have hlocks := B.notSynchronized
  have hS : va_S (fun q => lo ≤ q) s.heap s.heap [] := va_S.rf
  obtain ⟨ls, hls, hl⟩ := mw_entry (m := m) [.ref (L 6), .int (iI k), .int (iI pa), .int (iI nm), .int (iI va), .int (iI vl)] (n := 7) (Nat.le_of_ble_eq_true rfl) hargs
  refine W.eq hls ?_
  have hl : lv_has ls 7 [(0, .ref (L 6)), (1, .int (iI k)), (2, .int (iI pa)), (3, .int (iI nm)), (4, .int (iI va)), (5, .int (iI vl))] := hl
  refine lv_aload_n hx hb d_Nodes_append_0 rfl (lv_at hl 0 rfl) ?_
  refine mw_get (ci := 1) (i := 6) (v := .int (iI cnt)) (C := R_Nodes) (T := T_Nodes) (N := 9) hx hb hts in_Nodes hown hK hM hN.1 rfl rfl 8 (by decide) (hts _ m_139) rfl d_Nodes_append_1 ?_
  refine lv_sipush (v := iI (700)) hx hb d_Nodes_append_4 (by decide) ?_
  refine ia_icmp_lt (a := cnt) (b := 700) (tgt := 12) hx hb d_Nodes_append_7 (by decide) (by omega) (by omega) (fun c1 => ?_) (fun c1 => ?_)
  · refine lv_aload_n hx hb d_Nodes_append_12 rfl (lv_at hl 0 rfl) ?_
    refine mw_get (ci := 1) (i := 6) (v := .int (iI cnt)) (C := R_Nodes) (T := T_Nodes) (N := 9) hx hb hts in_Nodes hown hK hM hN.1 rfl rfl 8 (by decide) (hts _ m_139) rfl d_Nodes_append_13 ?_
    refine lv_istore (lv' := [(6, .int (iI cnt)), (0, .ref (L 6)), (1, .int (iI k)), (2, .int (iI pa)), (3, .int (iI nm)), (4, .int (iI va)), (5, .int (iI vl))]) hx hb d_Nodes_append_16 hl (by decide) rfl (fun ls hl => ?_)
    refine lv_aload_n hx hb d_Nodes_append_18 rfl (lv_at hl 1 rfl) ?_
    refine lv_dup hx hb d_Nodes_append_19 rfl ?_
    refine mw_get (ci := 1) (i := 6) (v := .int (iI cnt)) (C := R_Nodes) (T := T_Nodes) (N := 9) hx hb hts in_Nodes hown hK hM hN.1 rfl rfl 8 (by decide) (hts _ m_139) rfl d_Nodes_append_20 ?_
    refine lv_iconst (v := iI (1)) hx hb d_Nodes_append_23 rfl ?_
    refine ia_add hx hb d_Nodes_append_24 ?_
    refine mw_put (ci := 1) (i := 6) (v := .int (iI (cnt + 1))) (C := R_Nodes) (T := T_Nodes) (N := 9) hx hb hts in_Nodes ty_Nodes ty_Nodes_ok nm_Nodes hown hK hM hS hN.1 rfl rfl 8 (by decide) (hts _ m_139) rfl (ty_Nodes_ok 8 (by decide)) rfl rfl (Nat.le_of_ble_eq_true rfl) d_Nodes_append_25 (fun κ2 H locs e2 hk2 hM hS => ?_)
    have e2 : κ2 6 = some (.inr (1, [.ref (L 7), .ref (L 8), .ref (L 9), .ref (L 10), .ref (L 11), .ref (L 12), .ref (L 13), .ref (L d), .int (iI (cnt + 1))])) := e2
    have e3 := (hk2 7 (by omega)).trans (hN.2.1 0 (by decide))
    have e4 := (hk2 8 (by omega)).trans (hN.2.1 1 (by decide))
    have e5 := (hk2 9 (by omega)).trans (hN.2.1 2 (by decide))
    have e6 := (hk2 10 (by omega)).trans (hN.2.1 3 (by decide))
    have e7 := (hk2 11 (by omega)).trans (hN.2.1 4 (by decide))
    have e8 := (hk2 12 (by omega)).trans (hN.2.1 5 (by decide))
    have e9 := (hk2 13 (by omega)).trans (hN.2.1 6 (by decide))
    refine lv_aload_n hx hb d_Nodes_append_28 rfl (lv_at hl 1 rfl) ?_
    refine mw_get (ci := 1) (i := 6) (v := .ref (L 7)) (C := R_Nodes) (T := T_Nodes) (N := 9) hx hb hts in_Nodes hown hK hM e2 rfl rfl 0 (by decide) (hts _ m_131) rfl d_Nodes_append_29 ?_
    refine lv_iload hx hb d_Nodes_append_32 (lv_at hl 0 rfl) ?_
    refine lv_iload_n hx hb d_Nodes_append_34 rfl (lv_at hl 2 rfl) ?_
    refine mw_iast (a := cnt) (v := k) (i := 7) hx hb hK hM hS 1 e3 rfl rfl (by omega) (by decide) d_Nodes_append_35 (fun κ10 H locs e10 hk10 hM hS => ?_)
    have e11 := (hk10 6 (by omega)).trans e2
    have e12 := (hk10 8 (by omega)).trans e4
    have e13 := (hk10 9 (by omega)).trans e5
    have e14 := (hk10 10 (by omega)).trans e6
    have e15 := (hk10 11 (by omega)).trans e7
    have e16 := (hk10 12 (by omega)).trans e8
    have e17 := (hk10 13 (by omega)).trans e9
    refine lv_aload_n hx hb d_Nodes_append_36 rfl (lv_at hl 1 rfl) ?_
    refine mw_get (ci := 1) (i := 6) (v := .ref (L 8)) (C := R_Nodes) (T := T_Nodes) (N := 9) hx hb hts in_Nodes hown hK hM e11 rfl rfl 1 (by decide) (hts _ m_132) rfl d_Nodes_append_37 ?_
    refine lv_iload hx hb d_Nodes_append_40 (lv_at hl 0 rfl) ?_
    refine lv_iload_n hx hb d_Nodes_append_42 rfl (lv_at hl 3 rfl) ?_
    refine mw_iast (a := cnt) (v := pa) (i := 8) hx hb hK hM hS 1 e12 rfl rfl (by omega) (by decide) d_Nodes_append_43 (fun κ18 H locs e18 hk18 hM hS => ?_)
    have e19 := (hk18 6 (by omega)).trans e11
    have e20 := (hk18 7 (by omega)).trans e10
    have e21 := (hk18 9 (by omega)).trans e13
    have e22 := (hk18 10 (by omega)).trans e14
    have e23 := (hk18 11 (by omega)).trans e15
    have e24 := (hk18 12 (by omega)).trans e16
    have e25 := (hk18 13 (by omega)).trans e17
    refine lv_aload_n hx hb d_Nodes_append_44 rfl (lv_at hl 1 rfl) ?_
    refine mw_get (ci := 1) (i := 6) (v := .ref (L 9)) (C := R_Nodes) (T := T_Nodes) (N := 9) hx hb hts in_Nodes hown hK hM e19 rfl rfl 2 (by decide) (hts _ m_133) rfl d_Nodes_append_45 ?_
    refine lv_iload hx hb d_Nodes_append_48 (lv_at hl 0 rfl) ?_
    refine lv_iload_n hx hb d_Nodes_append_50 rfl (lv_at hl 2 rfl) ?_
    refine mw_rdS (As := [.int (iI k)]) (rest := [.int (iI cnt), .ref (L 9)]) ⟨hx, hb, hml, hown, hts⟩ hK hM hS (c_Kinds_hold l D g lo L κ18 k (by omega)) (va_cwS 1 hts (gT m_267 m_268 m_59 m_269) rfl rfl rfl (by decide +kernel) ⟨Nat.le_of_ble_eq_true rfl, Nat.le_of_ble_eq_true rfl⟩) rfl hl.1 rfl (Nat.le_of_ble_eq_true rfl) d_Nodes_append_51 ⟨Nat.le_of_ble_eq_true rfl, Nat.le_of_ble_eq_true rfl⟩ (fun H locs hM hS => ?_)
    refine ia_ifz_eq (x := kHold k) (tgt := 61) hx hb d_Nodes_append_54 (by decide) (fun c26 => ?_) (fun c26 => ?_)
    · refine lv_iconst (v := iI (0)) hx hb d_Nodes_append_61 rfl ?_
      refine mw_iast (a := cnt) (v := 0) (i := 9) hx hb hK hM hS 1 e21 rfl rfl (by omega) (by decide) d_Nodes_append_62 (fun κ27 H locs e27 hk27 hM hS => ?_)
      have e28 := (hk27 6 (by omega)).trans e19
      have e29 := (hk27 7 (by omega)).trans e20
      have e30 := (hk27 8 (by omega)).trans e18
      have e31 := (hk27 10 (by omega)).trans e22
      have e32 := (hk27 11 (by omega)).trans e23
      have e33 := (hk27 12 (by omega)).trans e24
      have e34 := (hk27 13 (by omega)).trans e25
      refine lv_aload_n hx hb d_Nodes_append_63 rfl (lv_at hl 1 rfl) ?_
      refine mw_get (ci := 1) (i := 6) (v := .ref (L 10)) (C := R_Nodes) (T := T_Nodes) (N := 9) hx hb hts in_Nodes hown hK hM e28 rfl rfl 3 (by decide) (hts _ m_134) rfl d_Nodes_append_64 ?_
      refine lv_iload hx hb d_Nodes_append_67 (lv_at hl 0 rfl) ?_
      refine lv_iload_n hx hb d_Nodes_append_69 rfl (lv_at hl 4 rfl) ?_
      refine mw_iast (a := cnt) (v := nm) (i := 10) hx hb hK hM hS 1 e31 rfl rfl (by omega) (by decide) d_Nodes_append_70 (fun κ35 H locs e35 hk35 hM hS => ?_)
      have e36 := (hk35 6 (by omega)).trans e28
      have e37 := (hk35 7 (by omega)).trans e29
      have e38 := (hk35 8 (by omega)).trans e30
      have e39 := (hk35 9 (by omega)).trans e27
      have e40 := (hk35 11 (by omega)).trans e32
      have e41 := (hk35 12 (by omega)).trans e33
      have e42 := (hk35 13 (by omega)).trans e34
      refine lv_aload_n hx hb d_Nodes_append_71 rfl (lv_at hl 1 rfl) ?_
      refine mw_get (ci := 1) (i := 6) (v := .ref (L 11)) (C := R_Nodes) (T := T_Nodes) (N := 9) hx hb hts in_Nodes hown hK hM e36 rfl rfl 4 (by decide) (hts _ m_135) rfl d_Nodes_append_72 ?_
      refine lv_iload hx hb d_Nodes_append_75 (lv_at hl 0 rfl) ?_
      refine lv_iload hx hb d_Nodes_append_77 (lv_at hl 5 rfl) ?_
      refine mw_iast (a := cnt) (v := va) (i := 11) hx hb hK hM hS 1 e40 rfl rfl (by omega) (by decide) d_Nodes_append_79 (fun κ43 H locs e43 hk43 hM hS => ?_)
      have e44 := (hk43 6 (by omega)).trans e36
      have e45 := (hk43 7 (by omega)).trans e37
      have e46 := (hk43 8 (by omega)).trans e38
      have e47 := (hk43 9 (by omega)).trans e39
      have e48 := (hk43 10 (by omega)).trans e35
      have e49 := (hk43 12 (by omega)).trans e41
      have e50 := (hk43 13 (by omega)).trans e42
      refine lv_aload_n hx hb d_Nodes_append_80 rfl (lv_at hl 1 rfl) ?_
      refine mw_get (ci := 1) (i := 6) (v := .ref (L 12)) (C := R_Nodes) (T := T_Nodes) (N := 9) hx hb hts in_Nodes hown hK hM e44 rfl rfl 5 (by decide) (hts _ m_136) rfl d_Nodes_append_81 ?_
      refine lv_iload hx hb d_Nodes_append_84 (lv_at hl 0 rfl) ?_
      refine lv_iload hx hb d_Nodes_append_86 (lv_at hl 6 rfl) ?_
      refine mw_iast (a := cnt) (v := vl) (i := 12) hx hb hK hM hS 1 e49 rfl rfl (by omega) (by decide) d_Nodes_append_88 (fun κ51 H locs e51 hk51 hM hS => ?_)
      have e52 := (hk51 6 (by omega)).trans e44
      have e53 := (hk51 7 (by omega)).trans e45
      have e54 := (hk51 8 (by omega)).trans e46
      have e55 := (hk51 9 (by omega)).trans e47
      have e56 := (hk51 10 (by omega)).trans e48
      have e57 := (hk51 11 (by omega)).trans e43
      have e58 := (hk51 13 (by omega)).trans e50
      refine lv_aload_n hx hb d_Nodes_append_89 rfl (lv_at hl 1 rfl) ?_
      refine mw_get (ci := 1) (i := 6) (v := .ref (L 13)) (C := R_Nodes) (T := T_Nodes) (N := 9) hx hb hts in_Nodes hown hK hM e52 rfl rfl 6 (by decide) (hts _ m_137) rfl d_Nodes_append_90 ?_
      refine lv_iload hx hb d_Nodes_append_93 (lv_at hl 0 rfl) ?_
      refine lv_iconst (v := iI (0)) hx hb d_Nodes_append_95 rfl ?_
      refine mw_iast (a := cnt) (v := 0) (i := 13) hx hb hK hM hS 1 e58 rfl rfl (by omega) (by decide) d_Nodes_append_96 (fun κ59 H locs e59 hk59 hM hS => ?_)
      have e60 := (hk59 6 (by omega)).trans e52
      have e61 := (hk59 7 (by omega)).trans e53
      have e62 := (hk59 8 (by omega)).trans e54
      have e63 := (hk59 9 (by omega)).trans e55
      have e64 := (hk59 10 (by omega)).trans e56
      have e65 := (hk59 11 (by omega)).trans e57
      have e66 := (hk59 12 (by omega)).trans e51
      refine lv_iload_n hx hb d_Nodes_append_97 rfl (lv_at hl 3 rfl) ?_
      refine ia_if_lt (a := pa) (tgt := 133) hx hb d_Nodes_append_98 (by decide) (by omega) (fun c67 => ?_) (fun c67 => ?_)
      · refine lv_iload hx hb d_Nodes_append_133 (lv_at hl 0 rfl) ?_
        exact mw_iret hx hb hr hM hS hlocks d_Nodes_append_135 ⟨rfl, rfl, nds_app hN hc e60 e61 e62 e63 e64 e65 e66 e59 nApp_eq (nApp_eq2 (show (0 : Int) = bI (kHold k) by rw [show kHold k = false by assumption]; rfl) (by omega)) ha1 ha2 ha3 ha4 ha5, fun r h => by rw [hk59 r (by omega), hk51 r (by omega), hk43 r (by omega), hk35 r (by omega), hk27 r (by omega), hk18 r (by omega), hk10 r (by omega), hk2 r (by omega)]⟩
      · refine lv_iload_n hx hb d_Nodes_append_101 rfl (lv_at hl 3 rfl) ?_
        refine lv_iload hx hb d_Nodes_append_102 (lv_at hl 0 rfl) ?_
        refine ia_icmp_ge (a := pa) (b := cnt) (tgt := 133) hx hb d_Nodes_append_104 (by decide) (by omega) (by omega) (fun c68 => ?_) (fun c68 => ?_)
        · refine lv_iload hx hb d_Nodes_append_133 (lv_at hl 0 rfl) ?_
          exact mw_iret hx hb hr hM hS hlocks d_Nodes_append_135 ⟨rfl, rfl, nds_app hN hc e60 e61 e62 e63 e64 e65 e66 e59 nApp_eq (nApp_eq2 (show (0 : Int) = bI (kHold k) by rw [show kHold k = false by assumption]; rfl) (by omega)) ha1 ha2 ha3 ha4 ha5, fun r h => by rw [hk59 r (by omega), hk51 r (by omega), hk43 r (by omega), hk35 r (by omega), hk27 r (by omega), hk18 r (by omega), hk10 r (by omega), hk2 r (by omega)]⟩
        · refine lv_aload_n hx hb d_Nodes_append_107 rfl (lv_at hl 1 rfl) ?_
          refine mw_get (ci := 1) (i := 6) (v := .ref (L 9)) (C := R_Nodes) (T := T_Nodes) (N := 9) hx hb hts in_Nodes hown hK hM e60 rfl rfl 2 (by decide) (hts _ m_133) rfl d_Nodes_append_108 ?_
          refine lv_iload hx hb d_Nodes_append_111 (lv_at hl 0 rfl) ?_
          refine lv_dup2_11 hx hb d_Nodes_append_113 rfl rfl ?_
          refine mw_iald (a := cnt) (i := 9) hx hb hK hM 1 e63 rfl rfl (by omega) (by decide) d_Nodes_append_114 ?_
          have r69 := hN.2.2.2.1 2 (cnt : Int).toNat
          refine lv_aload_n hx hb d_Nodes_append_115 rfl (lv_at hl 1 rfl) ?_
          refine mw_get (ci := 1) (i := 6) (v := .ref (L 9)) (C := R_Nodes) (T := T_Nodes) (N := 9) hx hb hts in_Nodes hown hK hM e60 rfl rfl 2 (by decide) (hts _ m_133) rfl d_Nodes_append_116 ?_
          refine lv_iload_n hx hb d_Nodes_append_119 rfl (lv_at hl 3 rfl) ?_
          refine mw_iald (a := pa) (i := 9) hx hb hK hM 1 e63 rfl rfl (by omega) (by decide) d_Nodes_append_120 ?_
          have r70 := hN.2.2.2.1 2 (pa : Int).toNat
          refine ia_add hx hb d_Nodes_append_121 ?_
          refine mw_iast (a := cnt) (v := ((va_up (T 2) (cnt : Int).toNat (0)) (cnt : Int).toNat) + ((va_up (T 2) (cnt : Int).toNat (0)) (pa : Int).toNat)) (i := 9) hx hb hK hM hS 1 e63 rfl rfl (by omega) (by decide) d_Nodes_append_122 (fun κ71 H locs e71 hk71 hM hS => ?_)
          have e72 := (hk71 6 (by omega)).trans e60
          have e73 := (hk71 7 (by omega)).trans e61
          have e74 := (hk71 8 (by omega)).trans e62
          have e75 := (hk71 10 (by omega)).trans e64
          have e76 := (hk71 11 (by omega)).trans e65
          have e77 := (hk71 12 (by omega)).trans e66
          have e78 := (hk71 13 (by omega)).trans e59
          refine lv_aload_n hx hb d_Nodes_append_123 rfl (lv_at hl 1 rfl) ?_
          refine mw_get (ci := 1) (i := 6) (v := .ref (L 13)) (C := R_Nodes) (T := T_Nodes) (N := 9) hx hb hts in_Nodes hown hK hM e72 rfl rfl 6 (by decide) (hts _ m_137) rfl d_Nodes_append_124 ?_
          refine lv_iload_n hx hb d_Nodes_append_127 rfl (lv_at hl 3 rfl) ?_
          refine lv_dup2_11 hx hb d_Nodes_append_128 rfl rfl ?_
          refine mw_iald (a := pa) (i := 13) hx hb hK hM 1 e78 rfl rfl (by omega) (by decide) d_Nodes_append_129 ?_
          have r79 := hN.2.2.2.1 6 (pa : Int).toNat
          refine lv_iconst (v := iI (1)) hx hb d_Nodes_append_130 rfl ?_
          refine ia_add hx hb d_Nodes_append_131 ?_
          refine mw_iast (a := pa) (v := ((va_up (T 6) (cnt : Int).toNat (0)) (pa : Int).toNat) + 1) (i := 13) hx hb hK hM hS 1 e78 rfl rfl (by omega) (by decide) d_Nodes_append_132 (fun κ80 H locs e80 hk80 hM hS => ?_)
          have e81 := (hk80 6 (by omega)).trans e72
          have e82 := (hk80 7 (by omega)).trans e73
          have e83 := (hk80 8 (by omega)).trans e74
          have e84 := (hk80 9 (by omega)).trans e71
          have e85 := (hk80 10 (by omega)).trans e75
          have e86 := (hk80 11 (by omega)).trans e76
          have e87 := (hk80 12 (by omega)).trans e77
          refine lv_iload hx hb d_Nodes_append_133 (lv_at hl 0 rfl) ?_
          exact mw_iret hx hb hr hM hS hlocks d_Nodes_append_135 ⟨rfl, rfl, nds_app hN hc e81 e82 e83 e84 e85 e86 e87 e80 nApp_eq (nApp_eq3 (show (0 : Int) = bI (kHold k) by rw [show kHold k = false by assumption]; rfl) (by omega)) ha1 ha2 ha3 ha4 ha5, fun r h => by rw [hk80 r (by omega), hk71 r (by omega), hk59 r (by omega), hk51 r (by omega), hk43 r (by omega), hk35 r (by omega), hk27 r (by omega), hk18 r (by omega), hk10 r (by omega), hk2 r (by omega)]⟩
    · refine lv_iconst (v := iI (1)) hx hb d_Nodes_append_57 rfl ?_
      refine lv_goto (tgt := 62) hx hb d_Nodes_append_58 (by decide) ?_
      refine mw_iast (a := cnt) (v := 1) (i := 9) hx hb hK hM hS 1 e21 rfl rfl (by omega) (by decide) d_Nodes_append_62 (fun κ88 H locs e88 hk88 hM hS => ?_)
      have e89 := (hk88 6 (by omega)).trans e19
      have e90 := (hk88 7 (by omega)).trans e20
      have e91 := (hk88 8 (by omega)).trans e18
      have e92 := (hk88 10 (by omega)).trans e22
      have e93 := (hk88 11 (by omega)).trans e23
      have e94 := (hk88 12 (by omega)).trans e24
      have e95 := (hk88 13 (by omega)).trans e25
      refine lv_aload_n hx hb d_Nodes_append_63 rfl (lv_at hl 1 rfl) ?_
      refine mw_get (ci := 1) (i := 6) (v := .ref (L 10)) (C := R_Nodes) (T := T_Nodes) (N := 9) hx hb hts in_Nodes hown hK hM e89 rfl rfl 3 (by decide) (hts _ m_134) rfl d_Nodes_append_64 ?_
      refine lv_iload hx hb d_Nodes_append_67 (lv_at hl 0 rfl) ?_
      refine lv_iload_n hx hb d_Nodes_append_69 rfl (lv_at hl 4 rfl) ?_
      refine mw_iast (a := cnt) (v := nm) (i := 10) hx hb hK hM hS 1 e92 rfl rfl (by omega) (by decide) d_Nodes_append_70 (fun κ96 H locs e96 hk96 hM hS => ?_)
      have e97 := (hk96 6 (by omega)).trans e89
      have e98 := (hk96 7 (by omega)).trans e90
      have e99 := (hk96 8 (by omega)).trans e91
      have e100 := (hk96 9 (by omega)).trans e88
      have e101 := (hk96 11 (by omega)).trans e93
      have e102 := (hk96 12 (by omega)).trans e94
      have e103 := (hk96 13 (by omega)).trans e95
      refine lv_aload_n hx hb d_Nodes_append_71 rfl (lv_at hl 1 rfl) ?_
      refine mw_get (ci := 1) (i := 6) (v := .ref (L 11)) (C := R_Nodes) (T := T_Nodes) (N := 9) hx hb hts in_Nodes hown hK hM e97 rfl rfl 4 (by decide) (hts _ m_135) rfl d_Nodes_append_72 ?_
      refine lv_iload hx hb d_Nodes_append_75 (lv_at hl 0 rfl) ?_
      refine lv_iload hx hb d_Nodes_append_77 (lv_at hl 5 rfl) ?_
      refine mw_iast (a := cnt) (v := va) (i := 11) hx hb hK hM hS 1 e101 rfl rfl (by omega) (by decide) d_Nodes_append_79 (fun κ104 H locs e104 hk104 hM hS => ?_)
      have e105 := (hk104 6 (by omega)).trans e97
      have e106 := (hk104 7 (by omega)).trans e98
      have e107 := (hk104 8 (by omega)).trans e99
      have e108 := (hk104 9 (by omega)).trans e100
      have e109 := (hk104 10 (by omega)).trans e96
      have e110 := (hk104 12 (by omega)).trans e102
      have e111 := (hk104 13 (by omega)).trans e103
      refine lv_aload_n hx hb d_Nodes_append_80 rfl (lv_at hl 1 rfl) ?_
      refine mw_get (ci := 1) (i := 6) (v := .ref (L 12)) (C := R_Nodes) (T := T_Nodes) (N := 9) hx hb hts in_Nodes hown hK hM e105 rfl rfl 5 (by decide) (hts _ m_136) rfl d_Nodes_append_81 ?_
      refine lv_iload hx hb d_Nodes_append_84 (lv_at hl 0 rfl) ?_
      refine lv_iload hx hb d_Nodes_append_86 (lv_at hl 6 rfl) ?_
      refine mw_iast (a := cnt) (v := vl) (i := 12) hx hb hK hM hS 1 e110 rfl rfl (by omega) (by decide) d_Nodes_append_88 (fun κ112 H locs e112 hk112 hM hS => ?_)
      have e113 := (hk112 6 (by omega)).trans e105
      have e114 := (hk112 7 (by omega)).trans e106
      have e115 := (hk112 8 (by omega)).trans e107
      have e116 := (hk112 9 (by omega)).trans e108
      have e117 := (hk112 10 (by omega)).trans e109
      have e118 := (hk112 11 (by omega)).trans e104
      have e119 := (hk112 13 (by omega)).trans e111
      refine lv_aload_n hx hb d_Nodes_append_89 rfl (lv_at hl 1 rfl) ?_
      refine mw_get (ci := 1) (i := 6) (v := .ref (L 13)) (C := R_Nodes) (T := T_Nodes) (N := 9) hx hb hts in_Nodes hown hK hM e113 rfl rfl 6 (by decide) (hts _ m_137) rfl d_Nodes_append_90 ?_
      refine lv_iload hx hb d_Nodes_append_93 (lv_at hl 0 rfl) ?_
      refine lv_iconst (v := iI (0)) hx hb d_Nodes_append_95 rfl ?_
      refine mw_iast (a := cnt) (v := 0) (i := 13) hx hb hK hM hS 1 e119 rfl rfl (by omega) (by decide) d_Nodes_append_96 (fun κ120 H locs e120 hk120 hM hS => ?_)
      have e121 := (hk120 6 (by omega)).trans e113
      have e122 := (hk120 7 (by omega)).trans e114
      have e123 := (hk120 8 (by omega)).trans e115
      have e124 := (hk120 9 (by omega)).trans e116
      have e125 := (hk120 10 (by omega)).trans e117
      have e126 := (hk120 11 (by omega)).trans e118
      have e127 := (hk120 12 (by omega)).trans e112
      refine lv_iload_n hx hb d_Nodes_append_97 rfl (lv_at hl 3 rfl) ?_
      refine ia_if_lt (a := pa) (tgt := 133) hx hb d_Nodes_append_98 (by decide) (by omega) (fun c128 => ?_) (fun c128 => ?_)
      · refine lv_iload hx hb d_Nodes_append_133 (lv_at hl 0 rfl) ?_
        exact mw_iret hx hb hr hM hS hlocks d_Nodes_append_135 ⟨rfl, rfl, nds_app hN hc e121 e122 e123 e124 e125 e126 e127 e120 nApp_eq (nApp_eq2 (show (1 : Int) = bI (kHold k) by rw [show kHold k = true by assumption]; rfl) (by omega)) ha1 ha2 ha3 ha4 ha5, fun r h => by rw [hk120 r (by omega), hk112 r (by omega), hk104 r (by omega), hk96 r (by omega), hk88 r (by omega), hk18 r (by omega), hk10 r (by omega), hk2 r (by omega)]⟩
      · refine lv_iload_n hx hb d_Nodes_append_101 rfl (lv_at hl 3 rfl) ?_
        refine lv_iload hx hb d_Nodes_append_102 (lv_at hl 0 rfl) ?_
        refine ia_icmp_ge (a := pa) (b := cnt) (tgt := 133) hx hb d_Nodes_append_104 (by decide) (by omega) (by omega) (fun c129 => ?_) (fun c129 => ?_)
        · refine lv_iload hx hb d_Nodes_append_133 (lv_at hl 0 rfl) ?_
          exact mw_iret hx hb hr hM hS hlocks d_Nodes_append_135 ⟨rfl, rfl, nds_app hN hc e121 e122 e123 e124 e125 e126 e127 e120 nApp_eq (nApp_eq2 (show (1 : Int) = bI (kHold k) by rw [show kHold k = true by assumption]; rfl) (by omega)) ha1 ha2 ha3 ha4 ha5, fun r h => by rw [hk120 r (by omega), hk112 r (by omega), hk104 r (by omega), hk96 r (by omega), hk88 r (by omega), hk18 r (by omega), hk10 r (by omega), hk2 r (by omega)]⟩
        · refine lv_aload_n hx hb d_Nodes_append_107 rfl (lv_at hl 1 rfl) ?_
          refine mw_get (ci := 1) (i := 6) (v := .ref (L 9)) (C := R_Nodes) (T := T_Nodes) (N := 9) hx hb hts in_Nodes hown hK hM e121 rfl rfl 2 (by decide) (hts _ m_133) rfl d_Nodes_append_108 ?_
          refine lv_iload hx hb d_Nodes_append_111 (lv_at hl 0 rfl) ?_
          refine lv_dup2_11 hx hb d_Nodes_append_113 rfl rfl ?_
          refine mw_iald (a := cnt) (i := 9) hx hb hK hM 1 e124 rfl rfl (by omega) (by decide) d_Nodes_append_114 ?_
          have r130 := hN.2.2.2.1 2 (cnt : Int).toNat
          refine lv_aload_n hx hb d_Nodes_append_115 rfl (lv_at hl 1 rfl) ?_
          refine mw_get (ci := 1) (i := 6) (v := .ref (L 9)) (C := R_Nodes) (T := T_Nodes) (N := 9) hx hb hts in_Nodes hown hK hM e121 rfl rfl 2 (by decide) (hts _ m_133) rfl d_Nodes_append_116 ?_
          refine lv_iload_n hx hb d_Nodes_append_119 rfl (lv_at hl 3 rfl) ?_
          refine mw_iald (a := pa) (i := 9) hx hb hK hM 1 e124 rfl rfl (by omega) (by decide) d_Nodes_append_120 ?_
          have r131 := hN.2.2.2.1 2 (pa : Int).toNat
          refine ia_add hx hb d_Nodes_append_121 ?_
          refine mw_iast (a := cnt) (v := ((va_up (T 2) (cnt : Int).toNat (1)) (cnt : Int).toNat) + ((va_up (T 2) (cnt : Int).toNat (1)) (pa : Int).toNat)) (i := 9) hx hb hK hM hS 1 e124 rfl rfl (by omega) (by decide) d_Nodes_append_122 (fun κ132 H locs e132 hk132 hM hS => ?_)
          have e133 := (hk132 6 (by omega)).trans e121
          have e134 := (hk132 7 (by omega)).trans e122
          have e135 := (hk132 8 (by omega)).trans e123
          have e136 := (hk132 10 (by omega)).trans e125
          have e137 := (hk132 11 (by omega)).trans e126
          have e138 := (hk132 12 (by omega)).trans e127
          have e139 := (hk132 13 (by omega)).trans e120
          refine lv_aload_n hx hb d_Nodes_append_123 rfl (lv_at hl 1 rfl) ?_
          refine mw_get (ci := 1) (i := 6) (v := .ref (L 13)) (C := R_Nodes) (T := T_Nodes) (N := 9) hx hb hts in_Nodes hown hK hM e133 rfl rfl 6 (by decide) (hts _ m_137) rfl d_Nodes_append_124 ?_
          refine lv_iload_n hx hb d_Nodes_append_127 rfl (lv_at hl 3 rfl) ?_
          refine lv_dup2_11 hx hb d_Nodes_append_128 rfl rfl ?_
          refine mw_iald (a := pa) (i := 13) hx hb hK hM 1 e139 rfl rfl (by omega) (by decide) d_Nodes_append_129 ?_
          have r140 := hN.2.2.2.1 6 (pa : Int).toNat
          refine lv_iconst (v := iI (1)) hx hb d_Nodes_append_130 rfl ?_
          refine ia_add hx hb d_Nodes_append_131 ?_
          refine mw_iast (a := pa) (v := ((va_up (T 6) (cnt : Int).toNat (0)) (pa : Int).toNat) + 1) (i := 13) hx hb hK hM hS 1 e139 rfl rfl (by omega) (by decide) d_Nodes_append_132 (fun κ141 H locs e141 hk141 hM hS => ?_)
          have e142 := (hk141 6 (by omega)).trans e133
          have e143 := (hk141 7 (by omega)).trans e134
          have e144 := (hk141 8 (by omega)).trans e135
          have e145 := (hk141 9 (by omega)).trans e132
          have e146 := (hk141 10 (by omega)).trans e136
          have e147 := (hk141 11 (by omega)).trans e137
          have e148 := (hk141 12 (by omega)).trans e138
          refine lv_iload hx hb d_Nodes_append_133 (lv_at hl 0 rfl) ?_
          exact mw_iret hx hb hr hM hS hlocks d_Nodes_append_135 ⟨rfl, rfl, nds_app hN hc e142 e143 e144 e145 e146 e147 e148 e141 nApp_eq (nApp_eq3 (show (1 : Int) = bI (kHold k) by rw [show kHold k = true by assumption]; rfl) (by omega)) ha1 ha2 ha3 ha4 ha5, fun r h => by rw [hk141 r (by omega), hk132 r (by omega), hk120 r (by omega), hk112 r (by omega), hk104 r (by omega), hk96 r (by omega), hk88 r (by omega), hk18 r (by omega), hk10 r (by omega), hk2 r (by omega)]⟩
  · exfalso; omega
