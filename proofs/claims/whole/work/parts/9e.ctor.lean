set_option maxHeartbeats 4000000 in
set_option maxRecDepth 100000 in
theorem c_Bytes_init (l : Launch) (D : va_G) (g : Nat → ClassId) (lo : Nat) (L : Nat → Nat) (κ : Nat → Option va_E) (i j mo : Nat) (hij : i ≠ j) (hmo : 64 ≤ mo ∧ mo ≤ 2005) (he : κ i = some (.inr (bxC, [.int (iI 0), .null, .int (iI 0)]))) : Met l y_Bytes_init w_Bytes_init ({ frames := 1, cells := 1, slots := 64, locals := 20 }) (mwP D vwCl (tyL g) lo L κ [.ref (L i), .int (iI mo)]) (mwQ D vwCl lo (bxW g L κ i j mo 0 (fun _ => (0 : Int)))) 1 64 (fun q => lo ≤ q) := by
  refine Met.ofW (cc := b_Bytes_init) (maxL := 2) (ret := (Option.none : Option Jvm.ClassFile.FieldType)) (by decide) rfl ?_
  intro p e s m args below meth c s₁ B hml hpre
  obtain ⟨hargs, hM, hK⟩ := hpre
  have hx := B.exec
  have hb := B.bytes
  have hr := B.returns
  have hts : ∀ w ∈ wA, w.before args s = true := fun w h => atoms_spec (ws := w_Bytes_init) B.pre w (List.mem_cons_of_mem _ h)
  have hown : s.vm.findClass R_Bytes = some m.cls := findClass_of_methodNamed B.named
  have hlocks := B.notSynchronized
  have hin : meth.name = "<init>" := (name_of_methodNamed B.named B.method).1
  have hS : va_S (fun q => lo ≤ q) s.heap s.heap [] := va_S.rf
  obtain ⟨ls, hls, hl⟩ := mw_entry (m := m) [.ref (L i), .int (iI mo)] (n := 2) (Nat.le_of_ble_eq_true rfl) hargs
  refine W.eq hls ?_
  have hl : lv_has ls 2 [(0, .ref (L i)), (1, .int (iI mo))] := hl
  refine lv_aload_n hx hb d_Bytes_init_0 rfl (lv_at hl 0 rfl) ?_
  refine W.objInit hx hb hown (hts _ m_74) (hts _ m_67) (hts _ m_68) rfl (by rw [hml]; exact hl.1) rfl d_Bytes_init_1 (Nat.le_of_ble_eq_true rfl) (Nat.le_of_ble_eq_true rfl) ?_
  refine W.eq (g2 := F0 m 4 ls []) rfl ?_
  refine lv_aload_n hx hb d_Bytes_init_4 rfl (lv_at hl 0 rfl) ?_
  refine lv_iload_n hx hb d_Bytes_init_5 rfl (lv_at hl 1 rfl) ?_
  refine mw_putF (ci := 0) (i := i) (v := .int (iI mo)) (C := R_Bytes) (T := T_Bytes) (N := 3) hx hb hts in_Bytes ty_Bytes ty_Bytes_ok nm_Bytes hown hK hM hS he rfl rfl 0 (by decide) (hts _ m_75) rfl hin rfl (ty_Bytes_ok 0 (by decide)) rfl rfl (Nat.le_of_ble_eq_true rfl) d_Bytes_init_6 (fun κ1 H locs e1 hk1 hM hS => ?_)
  have e1 : κ1 i = some (.inr (0, [.int (iI mo), .null, .int (iI 0)])) := e1
  refine lv_aload_n hx hb d_Bytes_init_9 rfl (lv_at hl 0 rfl) ?_
  refine lv_bipush (v := iI (64)) hx hb d_Bytes_init_10 (by decide) ?_
  refine mw_newaK (atype := .byte) (a0 := (64, .inl (fun _ => byt 0))) (a := 64) hx hb (hts _ m_85) (ty := .byte) rfl hM hS j rfl (fun cA => rfl) (by decide) (by decide) (Nat.le_of_ble_eq_true rfl) (Nat.le_of_ble_eq_true rfl) d_Bytes_init_12 (fun L2 κ2 cA2 H hA2 hZ2 e2 hk2 hL2 hM hS => ?_)
  have hc2 : cA2 = g 0 := Option.some.inj (hZ2.symm.trans (hK.2 0 _ rfl).2)
  subst hc2
  have e2 : κ2 j = some (.inl (g 0, 64, .inl (fun x => byt ((fun _ => (0 : Int)) x)))) := e2
  have e3 := (hk2 i (by omega)).trans e1
  refine mw_put (ci := 0) (i := i) (v := .ref (L2 j)) (C := R_Bytes) (T := T_Bytes) (N := 3) hx hb hts in_Bytes ty_Bytes ty_Bytes_ok nm_Bytes hown hK hM hS e3 (hL2 i (by omega)) rfl 1 (by decide) (hts _ m_76) rfl (ty_Bytes_ok 1 (by decide)) rfl rfl (Nat.le_of_ble_eq_true rfl) d_Bytes_init_14 (fun κ4 H locs e4 hk4 hM hS => ?_)
  have e4 : κ4 i = some (.inr (0, [.int (iI mo), .ref (L2 j), .int (iI 0)])) := e4
  have e5 := (hk4 j (by omega)).trans e2
  refine lv_aload_n hx hb d_Bytes_init_17 rfl (lv_at hl 0 rfl) ?_
  refine lv_iconst (v := iI (0)) hx hb d_Bytes_init_18 rfl ?_
  refine mw_put (ci := 0) (i := i) (v := .int (iI 0)) (C := R_Bytes) (T := T_Bytes) (N := 3) hx hb hts in_Bytes ty_Bytes ty_Bytes_ok nm_Bytes hown hK hM hS e4 (hL2 i (by omega)) rfl 2 (by decide) (hts _ m_77) rfl (ty_Bytes_ok 2 (by decide)) rfl rfl (Nat.le_of_ble_eq_true rfl) d_Bytes_init_19 (fun κ6 H locs e6 hk6 hM hS => ?_)
  have e6 : κ6 i = some (.inr (0, [.int (iI mo), .ref (L2 j), .int (iI 0)])) := e6
  have e7 := (hk6 j (by omega)).trans e5
  exact mw_vret hx hb hr hM hS hlocks d_Bytes_init_22 ⟨64, rfl, fun r h1 => by rw [hL2 r h1], ⟨e6, e7, ⟨by omega, by omega, by omega⟩, fun x => by dsimp only; omega, fun x _ => rfl⟩, fun r h1 h2 => by rw [hk6 r h1, hk4 r h1, hk2 r h2, hk1 r h1]⟩
set_option maxHeartbeats 4000000 in
set_option maxRecDepth 100000 in
theorem c_Nodes_init (l : Launch) (D : va_G) (g : Nat → ClassId) (lo : Nat) (L : Nat → Nat) (κ : Nat → Option va_E) (he : κ 6 = some (.inr (ndC, [.null, .null, .null, .null, .null, .null, .null, .null, .int (iI 0)]))) : Met l y_Nodes_init w_Nodes_init ({ frames := 1, cells := 7, slots := 4900, locals := 20 }) (mwP D vwCl (tyL g) lo L κ [.ref (L 6), .ref (L 2)]) (mwQ D vwCl lo (fun v L1 κ1 => v = none ∧ (∀ r, (r < 7 ∨ 13 < r) → L1 r = L r) ∧ nds g L1 κ1 (fun _ _ => (0 : Int)) 0 2 ∧ ∀ r, (r < 6 ∨ 13 < r) → κ1 r = κ r)) 7 4900 (fun q => lo ≤ q) := by
  refine Met.ofW (cc := b_Nodes_init) (maxL := 2) (ret := (Option.none : Option Jvm.ClassFile.FieldType)) (by decide) rfl ?_
  intro p e s m args below meth c s₁ B hml hpre
  obtain ⟨hargs, hM, hK⟩ := hpre
  have hx := B.exec
  have hb := B.bytes
  have hr := B.returns
  have hts : ∀ w ∈ wA, w.before args s = true := fun w h => atoms_spec (ws := w_Nodes_init) B.pre w (List.mem_cons_of_mem _ h)
  have hown : s.vm.findClass R_Nodes = some m.cls := findClass_of_methodNamed B.named
  have hlocks := B.notSynchronized
  have hin : meth.name = "<init>" := (name_of_methodNamed B.named B.method).1
  have hS : va_S (fun q => lo ≤ q) s.heap s.heap [] := va_S.rf
  obtain ⟨ls, hls, hl⟩ := mw_entry (m := m) [.ref (L 6), .ref (L 2)] (n := 2) (Nat.le_of_ble_eq_true rfl) hargs
  refine W.eq hls ?_
  have hl : lv_has ls 2 [(0, .ref (L 6)), (1, .ref (L 2))] := hl
  refine lv_aload_n hx hb d_Nodes_init_0 rfl (lv_at hl 0 rfl) ?_
  refine W.objInit hx hb hown (hts _ m_130) (hts _ m_67) (hts _ m_68) rfl (by rw [hml]; exact hl.1) rfl d_Nodes_init_1 (Nat.le_of_ble_eq_true rfl) (Nat.le_of_ble_eq_true rfl) ?_
  refine W.eq (g2 := F0 m 4 ls []) rfl ?_
  refine lv_aload_n hx hb d_Nodes_init_4 rfl (lv_at hl 0 rfl) ?_
  refine lv_sipush (v := iI (700)) hx hb d_Nodes_init_5 (by decide) ?_
  refine mw_newaK (atype := .int) (a0 := (700, .inl (fun _ => iI 0))) (a := 700) hx hb (hts _ m_159) (ty := .int) rfl hM hS 7 rfl (fun cA => rfl) (by decide) (by decide) (Nat.le_of_ble_eq_true rfl) (Nat.le_of_ble_eq_true rfl) d_Nodes_init_8 (fun L1 κ1 cA1 H hA1 hZ1 e1 hk1 hL1 hM hS => ?_)
  have hc1 : cA1 = g 1 := Option.some.inj (hZ1.symm.trans (hK.2 1 _ rfl).2)
  subst hc1
  have e1 : κ1 7 = some (.inl (g 1, 700, .inl (fun x => iI ((fun _ => (0 : Int)) x)))) := e1
  have e2 := (hk1 6 (by omega)).trans he
  refine mw_putF (ci := 1) (i := 6) (v := .ref (L1 7)) (C := R_Nodes) (T := T_Nodes) (N := 9) hx hb hts in_Nodes ty_Nodes ty_Nodes_ok nm_Nodes hown hK hM hS e2 (hL1 6 (by omega)) rfl 0 (by decide) (hts _ m_131) rfl hin rfl (ty_Nodes_ok 0 (by decide)) rfl rfl (Nat.le_of_ble_eq_true rfl) d_Nodes_init_10 (fun κ3 H locs e3 hk3 hM hS => ?_)
  have e3 : κ3 6 = some (.inr (1, [.ref (L1 7), .null, .null, .null, .null, .null, .null, .null, .int (iI 0)])) := e3
  have e4 := (hk3 7 (by omega)).trans e1
  refine lv_aload_n hx hb d_Nodes_init_13 rfl (lv_at hl 0 rfl) ?_
  refine lv_sipush (v := iI (700)) hx hb d_Nodes_init_14 (by decide) ?_
  refine mw_newaK (atype := .int) (a0 := (700, .inl (fun _ => iI 0))) (a := 700) hx hb (hts _ m_159) (ty := .int) rfl hM hS 8 rfl (fun cA => rfl) (by decide) (by decide) (Nat.le_of_ble_eq_true rfl) (Nat.le_of_ble_eq_true rfl) d_Nodes_init_17 (fun L5 κ5 cA5 H hA5 hZ5 e5 hk5 hL5 hM hS => ?_)
  have hc5 : cA5 = g 1 := Option.some.inj (hZ5.symm.trans (hK.2 1 _ rfl).2)
  subst hc5
  have e5 : κ5 8 = some (.inl (g 1, 700, .inl (fun x => iI ((fun _ => (0 : Int)) x)))) := e5
  have e6 := (hk5 6 (by omega)).trans e3
  have e7 := (hk5 7 (by omega)).trans e4
  refine mw_putF (ci := 1) (i := 6) (v := .ref (L5 8)) (C := R_Nodes) (T := T_Nodes) (N := 9) hx hb hts in_Nodes ty_Nodes ty_Nodes_ok nm_Nodes hown hK hM hS e6 ((hL5 6 (by omega)).trans (hL1 6 (by omega))) rfl 1 (by decide) (hts _ m_132) rfl hin rfl (ty_Nodes_ok 1 (by decide)) rfl rfl (Nat.le_of_ble_eq_true rfl) d_Nodes_init_19 (fun κ8 H locs e8 hk8 hM hS => ?_)
  have e8 : κ8 6 = some (.inr (1, [.ref (L1 7), .ref (L5 8), .null, .null, .null, .null, .null, .null, .int (iI 0)])) := e8
  have e9 := (hk8 7 (by omega)).trans e7
  have e10 := (hk8 8 (by omega)).trans e5
  refine lv_aload_n hx hb d_Nodes_init_22 rfl (lv_at hl 0 rfl) ?_
  refine lv_sipush (v := iI (700)) hx hb d_Nodes_init_23 (by decide) ?_
  refine mw_newaK (atype := .int) (a0 := (700, .inl (fun _ => iI 0))) (a := 700) hx hb (hts _ m_159) (ty := .int) rfl hM hS 9 rfl (fun cA => rfl) (by decide) (by decide) (Nat.le_of_ble_eq_true rfl) (Nat.le_of_ble_eq_true rfl) d_Nodes_init_26 (fun L11 κ11 cA11 H hA11 hZ11 e11 hk11 hL11 hM hS => ?_)
  have hc11 : cA11 = g 1 := Option.some.inj (hZ11.symm.trans (hK.2 1 _ rfl).2)
  subst hc11
  have e11 : κ11 9 = some (.inl (g 1, 700, .inl (fun x => iI ((fun _ => (0 : Int)) x)))) := e11
  have e12 := (hk11 6 (by omega)).trans e8
  have e13 := (hk11 7 (by omega)).trans e9
  have e14 := (hk11 8 (by omega)).trans e10
  refine mw_putF (ci := 1) (i := 6) (v := .ref (L11 9)) (C := R_Nodes) (T := T_Nodes) (N := 9) hx hb hts in_Nodes ty_Nodes ty_Nodes_ok nm_Nodes hown hK hM hS e12 (((hL11 6 (by omega)).trans (hL5 6 (by omega))).trans (hL1 6 (by omega))) rfl 2 (by decide) (hts _ m_133) rfl hin rfl (ty_Nodes_ok 2 (by decide)) rfl rfl (Nat.le_of_ble_eq_true rfl) d_Nodes_init_28 (fun κ15 H locs e15 hk15 hM hS => ?_)
  have e15 : κ15 6 = some (.inr (1, [.ref (L1 7), .ref (L5 8), .ref (L11 9), .null, .null, .null, .null, .null, .int (iI 0)])) := e15
  have e16 := (hk15 7 (by omega)).trans e13
  have e17 := (hk15 8 (by omega)).trans e14
  have e18 := (hk15 9 (by omega)).trans e11
  refine lv_aload_n hx hb d_Nodes_init_31 rfl (lv_at hl 0 rfl) ?_
  refine lv_sipush (v := iI (700)) hx hb d_Nodes_init_32 (by decide) ?_
  refine mw_newaK (atype := .int) (a0 := (700, .inl (fun _ => iI 0))) (a := 700) hx hb (hts _ m_159) (ty := .int) rfl hM hS 10 rfl (fun cA => rfl) (by decide) (by decide) (Nat.le_of_ble_eq_true rfl) (Nat.le_of_ble_eq_true rfl) d_Nodes_init_35 (fun L19 κ19 cA19 H hA19 hZ19 e19 hk19 hL19 hM hS => ?_)
  have hc19 : cA19 = g 1 := Option.some.inj (hZ19.symm.trans (hK.2 1 _ rfl).2)
  subst hc19
  have e19 : κ19 10 = some (.inl (g 1, 700, .inl (fun x => iI ((fun _ => (0 : Int)) x)))) := e19
  have e20 := (hk19 6 (by omega)).trans e15
  have e21 := (hk19 7 (by omega)).trans e16
  have e22 := (hk19 8 (by omega)).trans e17
  have e23 := (hk19 9 (by omega)).trans e18
  refine mw_putF (ci := 1) (i := 6) (v := .ref (L19 10)) (C := R_Nodes) (T := T_Nodes) (N := 9) hx hb hts in_Nodes ty_Nodes ty_Nodes_ok nm_Nodes hown hK hM hS e20 ((((hL19 6 (by omega)).trans (hL11 6 (by omega))).trans (hL5 6 (by omega))).trans (hL1 6 (by omega))) rfl 3 (by decide) (hts _ m_134) rfl hin rfl (ty_Nodes_ok 3 (by decide)) rfl rfl (Nat.le_of_ble_eq_true rfl) d_Nodes_init_37 (fun κ24 H locs e24 hk24 hM hS => ?_)
  have e24 : κ24 6 = some (.inr (1, [.ref (L1 7), .ref (L5 8), .ref (L11 9), .ref (L19 10), .null, .null, .null, .null, .int (iI 0)])) := e24
  have e25 := (hk24 7 (by omega)).trans e21
  have e26 := (hk24 8 (by omega)).trans e22
  have e27 := (hk24 9 (by omega)).trans e23
  have e28 := (hk24 10 (by omega)).trans e19
  refine lv_aload_n hx hb d_Nodes_init_40 rfl (lv_at hl 0 rfl) ?_
  refine lv_sipush (v := iI (700)) hx hb d_Nodes_init_41 (by decide) ?_
  refine mw_newaK (atype := .int) (a0 := (700, .inl (fun _ => iI 0))) (a := 700) hx hb (hts _ m_159) (ty := .int) rfl hM hS 11 rfl (fun cA => rfl) (by decide) (by decide) (Nat.le_of_ble_eq_true rfl) (Nat.le_of_ble_eq_true rfl) d_Nodes_init_44 (fun L29 κ29 cA29 H hA29 hZ29 e29 hk29 hL29 hM hS => ?_)
  have hc29 : cA29 = g 1 := Option.some.inj (hZ29.symm.trans (hK.2 1 _ rfl).2)
  subst hc29
  have e29 : κ29 11 = some (.inl (g 1, 700, .inl (fun x => iI ((fun _ => (0 : Int)) x)))) := e29
  have e30 := (hk29 6 (by omega)).trans e24
  have e31 := (hk29 7 (by omega)).trans e25
  have e32 := (hk29 8 (by omega)).trans e26
  have e33 := (hk29 9 (by omega)).trans e27
  have e34 := (hk29 10 (by omega)).trans e28
  refine mw_putF (ci := 1) (i := 6) (v := .ref (L29 11)) (C := R_Nodes) (T := T_Nodes) (N := 9) hx hb hts in_Nodes ty_Nodes ty_Nodes_ok nm_Nodes hown hK hM hS e30 (((((hL29 6 (by omega)).trans (hL19 6 (by omega))).trans (hL11 6 (by omega))).trans (hL5 6 (by omega))).trans (hL1 6 (by omega))) rfl 4 (by decide) (hts _ m_135) rfl hin rfl (ty_Nodes_ok 4 (by decide)) rfl rfl (Nat.le_of_ble_eq_true rfl) d_Nodes_init_46 (fun κ35 H locs e35 hk35 hM hS => ?_)
  have e35 : κ35 6 = some (.inr (1, [.ref (L1 7), .ref (L5 8), .ref (L11 9), .ref (L19 10), .ref (L29 11), .null, .null, .null, .int (iI 0)])) := e35
  have e36 := (hk35 7 (by omega)).trans e31
  have e37 := (hk35 8 (by omega)).trans e32
  have e38 := (hk35 9 (by omega)).trans e33
  have e39 := (hk35 10 (by omega)).trans e34
  have e40 := (hk35 11 (by omega)).trans e29
  refine lv_aload_n hx hb d_Nodes_init_49 rfl (lv_at hl 0 rfl) ?_
  refine lv_sipush (v := iI (700)) hx hb d_Nodes_init_50 (by decide) ?_
  refine mw_newaK (atype := .int) (a0 := (700, .inl (fun _ => iI 0))) (a := 700) hx hb (hts _ m_159) (ty := .int) rfl hM hS 12 rfl (fun cA => rfl) (by decide) (by decide) (Nat.le_of_ble_eq_true rfl) (Nat.le_of_ble_eq_true rfl) d_Nodes_init_53 (fun L41 κ41 cA41 H hA41 hZ41 e41 hk41 hL41 hM hS => ?_)
  have hc41 : cA41 = g 1 := Option.some.inj (hZ41.symm.trans (hK.2 1 _ rfl).2)
  subst hc41
  have e41 : κ41 12 = some (.inl (g 1, 700, .inl (fun x => iI ((fun _ => (0 : Int)) x)))) := e41
  have e42 := (hk41 6 (by omega)).trans e35
  have e43 := (hk41 7 (by omega)).trans e36
  have e44 := (hk41 8 (by omega)).trans e37
  have e45 := (hk41 9 (by omega)).trans e38
  have e46 := (hk41 10 (by omega)).trans e39
  have e47 := (hk41 11 (by omega)).trans e40
  refine mw_putF (ci := 1) (i := 6) (v := .ref (L41 12)) (C := R_Nodes) (T := T_Nodes) (N := 9) hx hb hts in_Nodes ty_Nodes ty_Nodes_ok nm_Nodes hown hK hM hS e42 ((((((hL41 6 (by omega)).trans (hL29 6 (by omega))).trans (hL19 6 (by omega))).trans (hL11 6 (by omega))).trans (hL5 6 (by omega))).trans (hL1 6 (by omega))) rfl 5 (by decide) (hts _ m_136) rfl hin rfl (ty_Nodes_ok 5 (by decide)) rfl rfl (Nat.le_of_ble_eq_true rfl) d_Nodes_init_55 (fun κ48 H locs e48 hk48 hM hS => ?_)
  have e48 : κ48 6 = some (.inr (1, [.ref (L1 7), .ref (L5 8), .ref (L11 9), .ref (L19 10), .ref (L29 11), .ref (L41 12), .null, .null, .int (iI 0)])) := e48
  have e49 := (hk48 7 (by omega)).trans e43
  have e50 := (hk48 8 (by omega)).trans e44
  have e51 := (hk48 9 (by omega)).trans e45
  have e52 := (hk48 10 (by omega)).trans e46
  have e53 := (hk48 11 (by omega)).trans e47
  have e54 := (hk48 12 (by omega)).trans e41
  refine lv_aload_n hx hb d_Nodes_init_58 rfl (lv_at hl 0 rfl) ?_
  refine lv_sipush (v := iI (700)) hx hb d_Nodes_init_59 (by decide) ?_
  refine mw_newaK (atype := .int) (a0 := (700, .inl (fun _ => iI 0))) (a := 700) hx hb (hts _ m_159) (ty := .int) rfl hM hS 13 rfl (fun cA => rfl) (by decide) (by decide) (Nat.le_of_ble_eq_true rfl) (Nat.le_of_ble_eq_true rfl) d_Nodes_init_62 (fun L55 κ55 cA55 H hA55 hZ55 e55 hk55 hL55 hM hS => ?_)
  have hc55 : cA55 = g 1 := Option.some.inj (hZ55.symm.trans (hK.2 1 _ rfl).2)
  subst hc55
  have e55 : κ55 13 = some (.inl (g 1, 700, .inl (fun x => iI ((fun _ => (0 : Int)) x)))) := e55
  have e56 := (hk55 6 (by omega)).trans e48
  have e57 := (hk55 7 (by omega)).trans e49
  have e58 := (hk55 8 (by omega)).trans e50
  have e59 := (hk55 9 (by omega)).trans e51
  have e60 := (hk55 10 (by omega)).trans e52
  have e61 := (hk55 11 (by omega)).trans e53
  have e62 := (hk55 12 (by omega)).trans e54
  refine mw_putF (ci := 1) (i := 6) (v := .ref (L55 13)) (C := R_Nodes) (T := T_Nodes) (N := 9) hx hb hts in_Nodes ty_Nodes ty_Nodes_ok nm_Nodes hown hK hM hS e56 (((((((hL55 6 (by omega)).trans (hL41 6 (by omega))).trans (hL29 6 (by omega))).trans (hL19 6 (by omega))).trans (hL11 6 (by omega))).trans (hL5 6 (by omega))).trans (hL1 6 (by omega))) rfl 6 (by decide) (hts _ m_137) rfl hin rfl (ty_Nodes_ok 6 (by decide)) rfl rfl (Nat.le_of_ble_eq_true rfl) d_Nodes_init_64 (fun κ63 H locs e63 hk63 hM hS => ?_)
  have e63 : κ63 6 = some (.inr (1, [.ref (L1 7), .ref (L5 8), .ref (L11 9), .ref (L19 10), .ref (L29 11), .ref (L41 12), .ref (L55 13), .null, .int (iI 0)])) := e63
  have e64 := (hk63 7 (by omega)).trans e57
  have e65 := (hk63 8 (by omega)).trans e58
  have e66 := (hk63 9 (by omega)).trans e59
  have e67 := (hk63 10 (by omega)).trans e60
  have e68 := (hk63 11 (by omega)).trans e61
  have e69 := (hk63 12 (by omega)).trans e62
  have e70 := (hk63 13 (by omega)).trans e55
  refine lv_aload_n hx hb d_Nodes_init_67 rfl (lv_at hl 0 rfl) ?_
  refine lv_aload_n hx hb d_Nodes_init_68 rfl (lv_at hl 1 rfl) ?_
  refine mw_put (ci := 1) (i := 6) (v := .ref (L 2)) (C := R_Nodes) (T := T_Nodes) (N := 9) hx hb hts in_Nodes ty_Nodes ty_Nodes_ok nm_Nodes hown hK hM hS e63 (((((((hL55 6 (by omega)).trans (hL41 6 (by omega))).trans (hL29 6 (by omega))).trans (hL19 6 (by omega))).trans (hL11 6 (by omega))).trans (hL5 6 (by omega))).trans (hL1 6 (by omega))) rfl 7 (by decide) (hts _ m_138) rfl (ty_Nodes_ok 7 (by decide)) rfl rfl (Nat.le_of_ble_eq_true rfl) d_Nodes_init_69 (fun κ71 H locs e71 hk71 hM hS => ?_)
  have e71 : κ71 6 = some (.inr (1, [.ref (L1 7), .ref (L5 8), .ref (L11 9), .ref (L19 10), .ref (L29 11), .ref (L41 12), .ref (L55 13), .ref (L 2), .int (iI 0)])) := e71
  have e72 := (hk71 7 (by omega)).trans e64
  have e73 := (hk71 8 (by omega)).trans e65
  have e74 := (hk71 9 (by omega)).trans e66
  have e75 := (hk71 10 (by omega)).trans e67
  have e76 := (hk71 11 (by omega)).trans e68
  have e77 := (hk71 12 (by omega)).trans e69
  have e78 := (hk71 13 (by omega)).trans e70
  refine lv_aload_n hx hb d_Nodes_init_72 rfl (lv_at hl 0 rfl) ?_
  refine lv_iconst (v := iI (0)) hx hb d_Nodes_init_73 rfl ?_
  refine mw_put (ci := 1) (i := 6) (v := .int (iI 0)) (C := R_Nodes) (T := T_Nodes) (N := 9) hx hb hts in_Nodes ty_Nodes ty_Nodes_ok nm_Nodes hown hK hM hS e71 (((((((hL55 6 (by omega)).trans (hL41 6 (by omega))).trans (hL29 6 (by omega))).trans (hL19 6 (by omega))).trans (hL11 6 (by omega))).trans (hL5 6 (by omega))).trans (hL1 6 (by omega))) rfl 8 (by decide) (hts _ m_139) rfl (ty_Nodes_ok 8 (by decide)) rfl rfl (Nat.le_of_ble_eq_true rfl) d_Nodes_init_74 (fun κ79 H locs e79 hk79 hM hS => ?_)
  have e79 : κ79 6 = some (.inr (1, [.ref (L1 7), .ref (L5 8), .ref (L11 9), .ref (L19 10), .ref (L29 11), .ref (L41 12), .ref (L55 13), .ref (L 2), .int (iI 0)])) := e79
  have e80 := (hk79 7 (by omega)).trans e72
  have e81 := (hk79 8 (by omega)).trans e73
  have e82 := (hk79 9 (by omega)).trans e74
  have e83 := (hk79 10 (by omega)).trans e75
  have e84 := (hk79 11 (by omega)).trans e76
  have e85 := (hk79 12 (by omega)).trans e77
  have e86 := (hk79 13 (by omega)).trans e78
  refine mw_vret hx hb hr hM hS hlocks d_Nodes_init_77 ⟨rfl, fun r h1 => by rw [hL55 r (by omega), hL41 r (by omega), hL29 r (by omega), hL19 r (by omega), hL11 r (by omega), hL5 r (by omega), hL1 r (by omega)], ⟨by rw [show L55 7 = L1 7 from ((((((hL55 7 (by omega)).trans (hL41 7 (by omega))).trans (hL29 7 (by omega))).trans (hL19 7 (by omega))).trans (hL11 7 (by omega))).trans (hL5 7 (by omega))), show L55 8 = L5 8 from (((((hL55 8 (by omega)).trans (hL41 8 (by omega))).trans (hL29 8 (by omega))).trans (hL19 8 (by omega))).trans (hL11 8 (by omega))), show L55 9 = L11 9 from ((((hL55 9 (by omega)).trans (hL41 9 (by omega))).trans (hL29 9 (by omega))).trans (hL19 9 (by omega))), show L55 10 = L19 10 from (((hL55 10 (by omega)).trans (hL41 10 (by omega))).trans (hL29 10 (by omega))), show L55 11 = L29 11 from ((hL55 11 (by omega)).trans (hL41 11 (by omega))), show L55 12 = L41 12 from (hL55 12 (by omega)), show L55 2 = L 2 from (((((((hL55 2 (by omega)).trans (hL41 2 (by omega))).trans (hL29 2 (by omega))).trans (hL19 2 (by omega))).trans (hL11 2 (by omega))).trans (hL5 2 (by omega))).trans (hL1 2 (by omega)))]; exact e79, fun co hco => ?_, Nat.zero_le _, fun co x => by dsimp only; omega, fun x => by dsimp only; omega, fun x hx => absurd hx (Nat.not_lt_zero x), fun x => by dsimp only; omega⟩, fun r h1 => by rw [hk79 r (by omega), hk71 r (by omega), hk63 r (by omega), hk55 r (by omega), hk48 r (by omega), hk41 r (by omega), hk35 r (by omega), hk29 r (by omega), hk24 r (by omega), hk19 r (by omega), hk15 r (by omega), hk11 r (by omega), hk8 r (by omega), hk5 r (by omega), hk3 r (by omega), hk1 r (by omega)]⟩
  rcases (show co = 0 ∨ co = 1 ∨ co = 2 ∨ co = 3 ∨ co = 4 ∨ co = 5 ∨ co = 6 by omega) with rfl | rfl | rfl | rfl | rfl | rfl | rfl
  · exact e80
  · exact e81
  · exact e82
  · exact e83
  · exact e84
  · exact e85
  · exact e86
set_option maxHeartbeats 4000000 in
set_option maxRecDepth 100000 in
theorem c_Reader_init (l : Launch) (D : va_G) (g : Nat → ClassId) (lo : Nat) (L : Nat → Nat) (κ : Nat → Option va_E) (he : κ 14 = some (.inr (rdC, [.null, .null, .int (iI 0), .int (iI 0), .int (iI 0), .int (iI 0)]))) : Met l y_Reader_init w_Reader_init ({ frames := 1, cells := 0, slots := 0, locals := 20 }) (mwP D vwCl (tyL g) lo L κ [.ref (L 14), .ref (L 6), .ref (L 2)]) (mwQ D vwCl lo (fun v L1 κ1 => v = none ∧ L = L1 ∧ rds L κ1 0 (-1) 0 (-1) ∧ ∀ r, r ≠ 14 → κ1 r = κ r)) 0 0 (fun q => lo ≤ q) := by
  refine Met.ofW (cc := b_Reader_init) (maxL := 3) (ret := (Option.none : Option Jvm.ClassFile.FieldType)) (by decide) rfl ?_
  intro p e s m args below meth c s₁ B hml hpre
  obtain ⟨hargs, hM, hK⟩ := hpre
  have hx := B.exec
  have hb := B.bytes
  have hr := B.returns
  have hts : ∀ w ∈ wA, w.before args s = true := fun w h => atoms_spec (ws := w_Reader_init) B.pre w (List.mem_cons_of_mem _ h)
  have hown : s.vm.findClass R_Reader = some m.cls := findClass_of_methodNamed B.named
  have hlocks := B.notSynchronized
  have hin : meth.name = "<init>" := (name_of_methodNamed B.named B.method).1
  have hS : va_S (fun q => lo ≤ q) s.heap s.heap [] := va_S.rf
  obtain ⟨ls, hls, hl⟩ := mw_entry (m := m) [.ref (L 14), .ref (L 6), .ref (L 2)] (n := 3) (Nat.le_of_ble_eq_true rfl) hargs
  refine W.eq hls ?_
  have hl : lv_has ls 3 [(0, .ref (L 14)), (1, .ref (L 6)), (2, .ref (L 2))] := hl
  refine lv_aload_n hx hb d_Reader_init_0 rfl (lv_at hl 0 rfl) ?_
  refine W.objInit hx hb hown (hts _ m_165) (hts _ m_67) (hts _ m_68) rfl (by rw [hml]; exact hl.1) rfl d_Reader_init_1 (Nat.le_of_ble_eq_true rfl) (Nat.le_of_ble_eq_true rfl) ?_
  refine W.eq (g2 := F0 m 4 ls []) rfl ?_
  refine lv_aload_n hx hb d_Reader_init_4 rfl (lv_at hl 0 rfl) ?_
  refine lv_aload_n hx hb d_Reader_init_5 rfl (lv_at hl 1 rfl) ?_
  refine mw_putF (ci := 2) (i := 14) (v := .ref (L 6)) (C := R_Reader) (T := T_Reader) (N := 6) hx hb hts in_Reader ty_Reader ty_Reader_ok nm_Reader hown hK hM hS he rfl rfl 0 (by decide) (hts _ m_166) rfl hin rfl (ty_Reader_ok 0 (by decide)) rfl rfl (Nat.le_of_ble_eq_true rfl) d_Reader_init_6 (fun κ1 H locs e1 hk1 hM hS => ?_)
  have e1 : κ1 14 = some (.inr (2, [.ref (L 6), .null, .int (iI 0), .int (iI 0), .int (iI 0), .int (iI 0)])) := e1
  refine lv_aload_n hx hb d_Reader_init_9 rfl (lv_at hl 0 rfl) ?_
  refine lv_aload_n hx hb d_Reader_init_10 rfl (lv_at hl 2 rfl) ?_
  refine mw_putF (ci := 2) (i := 14) (v := .ref (L 2)) (C := R_Reader) (T := T_Reader) (N := 6) hx hb hts in_Reader ty_Reader ty_Reader_ok nm_Reader hown hK hM hS e1 rfl rfl 1 (by decide) (hts _ m_167) rfl hin rfl (ty_Reader_ok 1 (by decide)) rfl rfl (Nat.le_of_ble_eq_true rfl) d_Reader_init_11 (fun κ2 H locs e2 hk2 hM hS => ?_)
  have e2 : κ2 14 = some (.inr (2, [.ref (L 6), .ref (L 2), .int (iI 0), .int (iI 0), .int (iI 0), .int (iI 0)])) := e2
  refine lv_aload_n hx hb d_Reader_init_14 rfl (lv_at hl 0 rfl) ?_
  refine lv_iconst (v := iI (0)) hx hb d_Reader_init_15 rfl ?_
  refine mw_put (ci := 2) (i := 14) (v := .int (iI 0)) (C := R_Reader) (T := T_Reader) (N := 6) hx hb hts in_Reader ty_Reader ty_Reader_ok nm_Reader hown hK hM hS e2 rfl rfl 2 (by decide) (hts _ m_168) rfl (ty_Reader_ok 2 (by decide)) rfl rfl (Nat.le_of_ble_eq_true rfl) d_Reader_init_16 (fun κ3 H locs e3 hk3 hM hS => ?_)
  have e3 : κ3 14 = some (.inr (2, [.ref (L 6), .ref (L 2), .int (iI 0), .int (iI 0), .int (iI 0), .int (iI 0)])) := e3
  refine lv_aload_n hx hb d_Reader_init_19 rfl (lv_at hl 0 rfl) ?_
  refine lv_iconst (v := iI (-1)) hx hb d_Reader_init_20 rfl ?_
  refine mw_put (ci := 2) (i := 14) (v := .int (iI (-1))) (C := R_Reader) (T := T_Reader) (N := 6) hx hb hts in_Reader ty_Reader ty_Reader_ok nm_Reader hown hK hM hS e3 rfl rfl 3 (by decide) (hts _ m_169) rfl (ty_Reader_ok 3 (by decide)) rfl rfl (Nat.le_of_ble_eq_true rfl) d_Reader_init_21 (fun κ4 H locs e4 hk4 hM hS => ?_)
  have e4 : κ4 14 = some (.inr (2, [.ref (L 6), .ref (L 2), .int (iI 0), .int (iI (-1)), .int (iI 0), .int (iI 0)])) := e4
  refine lv_aload_n hx hb d_Reader_init_24 rfl (lv_at hl 0 rfl) ?_
  refine lv_iconst (v := iI (0)) hx hb d_Reader_init_25 rfl ?_
  refine mw_put (ci := 2) (i := 14) (v := .int (iI 0)) (C := R_Reader) (T := T_Reader) (N := 6) hx hb hts in_Reader ty_Reader ty_Reader_ok nm_Reader hown hK hM hS e4 rfl rfl 4 (by decide) (hts _ m_170) rfl (ty_Reader_ok 4 (by decide)) rfl rfl (Nat.le_of_ble_eq_true rfl) d_Reader_init_26 (fun κ5 H locs e5 hk5 hM hS => ?_)
  have e5 : κ5 14 = some (.inr (2, [.ref (L 6), .ref (L 2), .int (iI 0), .int (iI (-1)), .int (iI 0), .int (iI 0)])) := e5
  refine lv_aload_n hx hb d_Reader_init_29 rfl (lv_at hl 0 rfl) ?_
  refine lv_iconst (v := iI (-1)) hx hb d_Reader_init_30 rfl ?_
  refine mw_put (ci := 2) (i := 14) (v := .int (iI (-1))) (C := R_Reader) (T := T_Reader) (N := 6) hx hb hts in_Reader ty_Reader ty_Reader_ok nm_Reader hown hK hM hS e5 rfl rfl 5 (by decide) (hts _ m_171) rfl (ty_Reader_ok 5 (by decide)) rfl rfl (Nat.le_of_ble_eq_true rfl) d_Reader_init_31 (fun κ6 H locs e6 hk6 hM hS => ?_)
  have e6 : κ6 14 = some (.inr (2, [.ref (L 6), .ref (L 2), .int (iI 0), .int (iI (-1)), .int (iI 0), .int (iI (-1))])) := e6
  exact mw_vret hx hb hr hM hS hlocks d_Reader_init_34 ⟨rfl, rfl, e6, fun r h1 => by rw [hk6 r h1, hk5 r h1, hk4 r h1, hk3 r h1, hk2 r h1, hk1 r h1]⟩
