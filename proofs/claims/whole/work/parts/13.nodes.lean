set_option maxHeartbeats 4000000 in
set_option maxRecDepth 100000 in
theorem c_Nodes_count (l : Launch) (D : va_G) (g : Nat → ClassId) (lo : Nat) (L : Nat → Nat) (κ : Nat → Option va_E) (T : Nat → Nat → Int) (cnt d : Nat) (hN : nds g L κ T cnt d) : Met l y_Nodes_count w_Nodes_count ({ frames := 0, cells := 0, slots := 0, locals := 0 }) (mwP D vwCl (tyL g) lo L κ [.ref (L 6)]) (mwQ D vwCl lo (mwR (some (.int (iI cnt))) L κ)) 0 0 (fun q => lo ≤ q) := by
  have hc0 := hN.2.2.1
  refine Met.ofW (cc := b_Nodes_count) (maxL := 1) (ret := (Option.some Jvm.ClassFile.FieldType.int)) (by decide) rfl ?_
  intro p e s m args below meth c s₁ B hml hpre
  obtain ⟨hargs, hM, hK⟩ := hpre
  have hx := B.exec
  have hb := B.bytes
  have hr := B.returns
  have hts : ∀ w ∈ wA, w.before args s = true := fun w h => atoms_spec (ws := w_Nodes_count) B.pre w (List.mem_cons_of_mem _ h)
  have hown : s.vm.findClass R_Nodes = some m.cls := findClass_of_methodNamed B.named
  have hlocks := B.notSynchronized
  have hS : va_S (fun q => lo ≤ q) s.heap s.heap [] := va_S.rf
  obtain ⟨ls, hls, hl⟩ := mw_entry (m := m) [.ref (L 6)] (n := 1) (Nat.le_of_ble_eq_true rfl) hargs
  refine W.eq hls ?_
  have hl : lv_has ls 1 [(0, .ref (L 6))] := hl
  refine lv_aload_n hx hb d_Nodes_count_0 rfl (lv_at hl 0 rfl) ?_
  refine mw_get (ci := 1) (i := 6) (v := .int (iI cnt)) (C := R_Nodes) (T := T_Nodes) (N := 9) hx hb hts in_Nodes hown hK hM hN.1 rfl rfl 8 (by decide) (hts _ m_139) rfl d_Nodes_count_1 ?_
  exact mw_iret hx hb hr hM hS hlocks d_Nodes_count_4 (mwR_i (by rfl))
set_option maxHeartbeats 4000000 in
set_option maxRecDepth 100000 in
theorem c_Nodes_cell (l : Launch) (D : va_G) (g : Nat → ClassId) (lo : Nat) (L : Nat → Nat) (κ : Nat → Option va_E) (T : Nat → Nat → Int) (cnt d : Nat) (hN : nds g L κ T cnt d) (co : Nat) (x : Int) (hco : co < 7) (hx : -2147483648 ≤ x ∧ x < 2147483648) : Met l y_Nodes_cell w_Nodes_cell ({ frames := 0, cells := 0, slots := 0, locals := 0 }) (mwP D vwCl (tyL g) lo L κ [.ref (L 6), .ref (L (7 + co)), .int (iI x)]) (mwQ D vwCl lo (mwR (some (.int (iI (nCell T cnt co x)))) L κ)) 0 0 (fun q => lo ≤ q) := by
  have hc0 := hN.2.2.1
  refine Met.ofW (cc := b_Nodes_cell) (maxL := 3) (ret := (Option.some Jvm.ClassFile.FieldType.int)) (by decide) rfl ?_
  intro p e s m args below meth c s₁ B hml hpre
  obtain ⟨hargs, hM, hK⟩ := hpre
  have hx := B.exec
  have hb := B.bytes
  have hr := B.returns
  have hts : ∀ w ∈ wA, w.before args s = true := fun w h => atoms_spec (ws := w_Nodes_cell) B.pre w (List.mem_cons_of_mem _ h)
  have hown : s.vm.findClass R_Nodes = some m.cls := findClass_of_methodNamed B.named
  have hlocks := B.notSynchronized
  have hS : va_S (fun q => lo ≤ q) s.heap s.heap [] := va_S.rf
  obtain ⟨ls, hls, hl⟩ := mw_entry (m := m) [.ref (L 6), .ref (L (7 + co)), .int (iI x)] (n := 3) (Nat.le_of_ble_eq_true rfl) hargs
  refine W.eq hls ?_
  have hl : lv_has ls 3 [(0, .ref (L 6)), (1, .ref (L (7 + co))), (2, .int (iI x))] := hl
  refine lv_iload_n hx hb d_Nodes_cell_0 rfl (lv_at hl 2 rfl) ?_
  refine ia_if_lt (a := x) (tgt := 24) hx hb d_Nodes_cell_1 (by decide) (by omega) (fun c1 => ?_) (fun c1 => ?_)
  · refine lv_iconst (v := iI (-1)) hx hb d_Nodes_cell_24 rfl ?_
    exact mw_iret hx hb hr hM hS hlocks d_Nodes_cell_25 (mwR_i (by rw [nCell_out (by omega)]))
  · refine lv_iload_n hx hb d_Nodes_cell_4 rfl (lv_at hl 2 rfl) ?_
    refine lv_aload_n hx hb d_Nodes_cell_5 rfl (lv_at hl 0 rfl) ?_
    refine mw_get (ci := 1) (i := 6) (v := .int (iI cnt)) (C := R_Nodes) (T := T_Nodes) (N := 9) hx hb hts in_Nodes hown hK hM hN.1 rfl rfl 8 (by decide) (hts _ m_139) rfl d_Nodes_cell_6 ?_
    refine ia_icmp_ge (a := x) (b := cnt) (tgt := 24) hx hb d_Nodes_cell_9 (by decide) (by omega) (by omega) (fun c2 => ?_) (fun c2 => ?_)
    · refine lv_iconst (v := iI (-1)) hx hb d_Nodes_cell_24 rfl ?_
      exact mw_iret hx hb hr hM hS hlocks d_Nodes_cell_25 (mwR_i (by rw [nCell_out (by omega)]))
    · refine lv_iload_n hx hb d_Nodes_cell_12 rfl (lv_at hl 2 rfl) ?_
      refine lv_aload_n hx hb d_Nodes_cell_13 rfl (lv_at hl 1 rfl) ?_
      refine mw_alen (i := 7 + co) hx hb hK hM 1 (hN.2.1 co hco) rfl rfl d_Nodes_cell_14 ?_
      refine ia_icmp_ge (a := x) (b := 700) (tgt := 24) hx hb d_Nodes_cell_15 (by decide) (by omega) (by omega) (fun c3 => ?_) (fun c3 => ?_)
      · refine lv_iconst (v := iI (-1)) hx hb d_Nodes_cell_24 rfl ?_
        exact mw_iret hx hb hr hM hS hlocks d_Nodes_cell_25 (mwR_i (by rw [nCell_out (by omega)]))
      · refine lv_aload_n hx hb d_Nodes_cell_18 rfl (lv_at hl 1 rfl) ?_
        refine lv_iload_n hx hb d_Nodes_cell_19 rfl (lv_at hl 2 rfl) ?_
        refine mw_iald (a := x) (i := 7 + co) hx hb hK hM 1 (hN.2.1 co hco) rfl rfl (by omega) (by decide) d_Nodes_cell_20 ?_
        have r4 := hN.2.2.2.1 co (x : Int).toNat
        refine lv_goto (tgt := 25) hx hb d_Nodes_cell_21 (by decide) ?_
        exact mw_iret hx hb hr hM hS hlocks d_Nodes_cell_25 (mwR_i (by rw [nCell_in (by omega)]))
set_option maxHeartbeats 4000000 in
set_option maxRecDepth 100000 in
theorem c_Nodes_kind (l : Launch) (D : va_G) (g : Nat → ClassId) (lo : Nat) (L : Nat → Nat) (κ : Nat → Option va_E) (T : Nat → Nat → Int) (cnt d : Nat) (hN : nds g L κ T cnt d) (x : Int) (hx : -2147483648 ≤ x ∧ x < 2147483648) : Met l y_Nodes_kind w_Nodes_kind ({ frames := 1, cells := 0, slots := 0, locals := 22 }) (mwP D vwCl (tyL g) lo L κ [.ref (L 6), .int (iI x)]) (mwQ D vwCl lo (mwR (some (.int (iI (nCell T cnt 0 x)))) L κ)) 0 0 (fun q => lo ≤ q) := by
  have hc0 := hN.2.2.1
  refine Met.ofW (cc := b_Nodes_kind) (maxL := 2) (ret := (Option.some Jvm.ClassFile.FieldType.int)) (by decide) rfl ?_
  intro p e s m args below meth c s₁ B hml hpre
  obtain ⟨hargs, hM, hK⟩ := hpre
  have hx := B.exec
  have hb := B.bytes
  have hr := B.returns
  have hts : ∀ w ∈ wA, w.before args s = true := fun w h => atoms_spec (ws := w_Nodes_kind) B.pre w (List.mem_cons_of_mem _ h)
  have hown : s.vm.findClass R_Nodes = some m.cls := findClass_of_methodNamed B.named
  have hlocks := B.notSynchronized
  have hS : va_S (fun q => lo ≤ q) s.heap s.heap [] := va_S.rf
  obtain ⟨ls, hls, hl⟩ := mw_entry (m := m) [.ref (L 6), .int (iI x)] (n := 2) (Nat.le_of_ble_eq_true rfl) hargs
  refine W.eq hls ?_
  have hl : lv_has ls 2 [(0, .ref (L 6)), (1, .int (iI x))] := hl
  refine lv_aload_n hx hb d_Nodes_kind_0 rfl (lv_at hl 0 rfl) ?_
  refine lv_aload_n hx hb d_Nodes_kind_1 rfl (lv_at hl 0 rfl) ?_
  refine mw_get (ci := 1) (i := 6) (v := .ref (L 7)) (C := R_Nodes) (T := T_Nodes) (N := 9) hx hb hts in_Nodes hown hK hM hN.1 rfl rfl 0 (by decide) (hts _ m_131) rfl d_Nodes_kind_2 ?_
  refine lv_iload_n hx hb d_Nodes_kind_5 rfl (lv_at hl 1 rfl) ?_
  refine mw_rdV (i := 6) (As := [.ref (L 7), .int (iI x)]) (rest := []) ⟨hx, hb, hml, hown, hts⟩ hK hM hS rfl hN.1 rfl (c_Nodes_cell l D g lo L κ T cnt d hN 0 x (by decide) (by omega)) (cwV 2 hts (gV m_259 m_261 m_2 m_56 m_262) rfl rfl rfl (by decide +kernel) ⟨Nat.le_of_ble_eq_true rfl, Nat.le_of_ble_eq_true rfl⟩) rfl hl.1 rfl (Nat.le_of_ble_eq_true rfl) d_Nodes_kind_6 ⟨Nat.le_of_ble_eq_true rfl, Nat.le_of_ble_eq_true rfl⟩ (fun H locs hM hS => ?_)
  have r1 := nCell_r (cnt := cnt) hN.2.2.2.1 0 x
  exact mw_iret hx hb hr hM hS hlocks d_Nodes_kind_9 (mwR_i (by rfl))
set_option maxHeartbeats 4000000 in
set_option maxRecDepth 100000 in
theorem c_Nodes_parent (l : Launch) (D : va_G) (g : Nat → ClassId) (lo : Nat) (L : Nat → Nat) (κ : Nat → Option va_E) (T : Nat → Nat → Int) (cnt d : Nat) (hN : nds g L κ T cnt d) (x : Int) (hx : -2147483648 ≤ x ∧ x < 2147483648) : Met l y_Nodes_parent w_Nodes_parent ({ frames := 1, cells := 0, slots := 0, locals := 22 }) (mwP D vwCl (tyL g) lo L κ [.ref (L 6), .int (iI x)]) (mwQ D vwCl lo (mwR (some (.int (iI (nCell T cnt 1 x)))) L κ)) 0 0 (fun q => lo ≤ q) := by
  have hc0 := hN.2.2.1
  refine Met.ofW (cc := b_Nodes_parent) (maxL := 2) (ret := (Option.some Jvm.ClassFile.FieldType.int)) (by decide) rfl ?_
  intro p e s m args below meth c s₁ B hml hpre
  obtain ⟨hargs, hM, hK⟩ := hpre
  have hx := B.exec
  have hb := B.bytes
  have hr := B.returns
  have hts : ∀ w ∈ wA, w.before args s = true := fun w h => atoms_spec (ws := w_Nodes_parent) B.pre w (List.mem_cons_of_mem _ h)
  have hown : s.vm.findClass R_Nodes = some m.cls := findClass_of_methodNamed B.named
  have hlocks := B.notSynchronized
  have hS : va_S (fun q => lo ≤ q) s.heap s.heap [] := va_S.rf
  obtain ⟨ls, hls, hl⟩ := mw_entry (m := m) [.ref (L 6), .int (iI x)] (n := 2) (Nat.le_of_ble_eq_true rfl) hargs
  refine W.eq hls ?_
  have hl : lv_has ls 2 [(0, .ref (L 6)), (1, .int (iI x))] := hl
  refine lv_aload_n hx hb d_Nodes_parent_0 rfl (lv_at hl 0 rfl) ?_
  refine lv_aload_n hx hb d_Nodes_parent_1 rfl (lv_at hl 0 rfl) ?_
  refine mw_get (ci := 1) (i := 6) (v := .ref (L 8)) (C := R_Nodes) (T := T_Nodes) (N := 9) hx hb hts in_Nodes hown hK hM hN.1 rfl rfl 1 (by decide) (hts _ m_132) rfl d_Nodes_parent_2 ?_
  refine lv_iload_n hx hb d_Nodes_parent_5 rfl (lv_at hl 1 rfl) ?_
  refine mw_rdV (i := 6) (As := [.ref (L 8), .int (iI x)]) (rest := []) ⟨hx, hb, hml, hown, hts⟩ hK hM hS rfl hN.1 rfl (c_Nodes_cell l D g lo L κ T cnt d hN 1 x (by decide) (by omega)) (cwV 2 hts (gV m_259 m_261 m_2 m_56 m_262) rfl rfl rfl (by decide +kernel) ⟨Nat.le_of_ble_eq_true rfl, Nat.le_of_ble_eq_true rfl⟩) rfl hl.1 rfl (Nat.le_of_ble_eq_true rfl) d_Nodes_parent_6 ⟨Nat.le_of_ble_eq_true rfl, Nat.le_of_ble_eq_true rfl⟩ (fun H locs hM hS => ?_)
  have r1 := nCell_r (cnt := cnt) hN.2.2.2.1 1 x
  exact mw_iret hx hb hr hM hS hlocks d_Nodes_parent_9 (mwR_i (by rfl))
set_option maxHeartbeats 4000000 in
set_option maxRecDepth 100000 in
theorem c_Nodes_depth (l : Launch) (D : va_G) (g : Nat → ClassId) (lo : Nat) (L : Nat → Nat) (κ : Nat → Option va_E) (T : Nat → Nat → Int) (cnt d : Nat) (hN : nds g L κ T cnt d) (x : Int) (hx : -2147483648 ≤ x ∧ x < 2147483648) : Met l y_Nodes_depth w_Nodes_depth ({ frames := 1, cells := 0, slots := 0, locals := 22 }) (mwP D vwCl (tyL g) lo L κ [.ref (L 6), .int (iI x)]) (mwQ D vwCl lo (mwR (some (.int (iI (nCell T cnt 2 x)))) L κ)) 0 0 (fun q => lo ≤ q) := by
  have hc0 := hN.2.2.1
  refine Met.ofW (cc := b_Nodes_depth) (maxL := 2) (ret := (Option.some Jvm.ClassFile.FieldType.int)) (by decide) rfl ?_
  intro p e s m args below meth c s₁ B hml hpre
  obtain ⟨hargs, hM, hK⟩ := hpre
  have hx := B.exec
  have hb := B.bytes
  have hr := B.returns
  have hts : ∀ w ∈ wA, w.before args s = true := fun w h => atoms_spec (ws := w_Nodes_depth) B.pre w (List.mem_cons_of_mem _ h)
  have hown : s.vm.findClass R_Nodes = some m.cls := findClass_of_methodNamed B.named
  have hlocks := B.notSynchronized
  have hS : va_S (fun q => lo ≤ q) s.heap s.heap [] := va_S.rf
  obtain ⟨ls, hls, hl⟩ := mw_entry (m := m) [.ref (L 6), .int (iI x)] (n := 2) (Nat.le_of_ble_eq_true rfl) hargs
  refine W.eq hls ?_
  have hl : lv_has ls 2 [(0, .ref (L 6)), (1, .int (iI x))] := hl
  refine lv_aload_n hx hb d_Nodes_depth_0 rfl (lv_at hl 0 rfl) ?_
  refine lv_aload_n hx hb d_Nodes_depth_1 rfl (lv_at hl 0 rfl) ?_
  refine mw_get (ci := 1) (i := 6) (v := .ref (L 9)) (C := R_Nodes) (T := T_Nodes) (N := 9) hx hb hts in_Nodes hown hK hM hN.1 rfl rfl 2 (by decide) (hts _ m_133) rfl d_Nodes_depth_2 ?_
  refine lv_iload_n hx hb d_Nodes_depth_5 rfl (lv_at hl 1 rfl) ?_
  refine mw_rdV (i := 6) (As := [.ref (L 9), .int (iI x)]) (rest := []) ⟨hx, hb, hml, hown, hts⟩ hK hM hS rfl hN.1 rfl (c_Nodes_cell l D g lo L κ T cnt d hN 2 x (by decide) (by omega)) (cwV 2 hts (gV m_259 m_261 m_2 m_56 m_262) rfl rfl rfl (by decide +kernel) ⟨Nat.le_of_ble_eq_true rfl, Nat.le_of_ble_eq_true rfl⟩) rfl hl.1 rfl (Nat.le_of_ble_eq_true rfl) d_Nodes_depth_6 ⟨Nat.le_of_ble_eq_true rfl, Nat.le_of_ble_eq_true rfl⟩ (fun H locs hM hS => ?_)
  have r1 := nCell_r (cnt := cnt) hN.2.2.2.1 2 x
  exact mw_iret hx hb hr hM hS hlocks d_Nodes_depth_9 (mwR_i (by rfl))
set_option maxHeartbeats 4000000 in
set_option maxRecDepth 100000 in
theorem c_Nodes_name (l : Launch) (D : va_G) (g : Nat → ClassId) (lo : Nat) (L : Nat → Nat) (κ : Nat → Option va_E) (T : Nat → Nat → Int) (cnt d : Nat) (hN : nds g L κ T cnt d) (x : Int) (hx : -2147483648 ≤ x ∧ x < 2147483648) : Met l y_Nodes_name w_Nodes_name ({ frames := 1, cells := 0, slots := 0, locals := 22 }) (mwP D vwCl (tyL g) lo L κ [.ref (L 6), .int (iI x)]) (mwQ D vwCl lo (mwR (some (.int (iI (nCell T cnt 3 x)))) L κ)) 0 0 (fun q => lo ≤ q) := by
  have hc0 := hN.2.2.1
  refine Met.ofW (cc := b_Nodes_name) (maxL := 2) (ret := (Option.some Jvm.ClassFile.FieldType.int)) (by decide) rfl ?_
  intro p e s m args below meth c s₁ B hml hpre
  obtain ⟨hargs, hM, hK⟩ := hpre
  have hx := B.exec
  have hb := B.bytes
  have hr := B.returns
  have hts : ∀ w ∈ wA, w.before args s = true := fun w h => atoms_spec (ws := w_Nodes_name) B.pre w (List.mem_cons_of_mem _ h)
  have hown : s.vm.findClass R_Nodes = some m.cls := findClass_of_methodNamed B.named
  have hlocks := B.notSynchronized
  have hS : va_S (fun q => lo ≤ q) s.heap s.heap [] := va_S.rf
  obtain ⟨ls, hls, hl⟩ := mw_entry (m := m) [.ref (L 6), .int (iI x)] (n := 2) (Nat.le_of_ble_eq_true rfl) hargs
  refine W.eq hls ?_
  have hl : lv_has ls 2 [(0, .ref (L 6)), (1, .int (iI x))] := hl
  refine lv_aload_n hx hb d_Nodes_name_0 rfl (lv_at hl 0 rfl) ?_
  refine lv_aload_n hx hb d_Nodes_name_1 rfl (lv_at hl 0 rfl) ?_
  refine mw_get (ci := 1) (i := 6) (v := .ref (L 10)) (C := R_Nodes) (T := T_Nodes) (N := 9) hx hb hts in_Nodes hown hK hM hN.1 rfl rfl 3 (by decide) (hts _ m_134) rfl d_Nodes_name_2 ?_
  refine lv_iload_n hx hb d_Nodes_name_5 rfl (lv_at hl 1 rfl) ?_
  refine mw_rdV (i := 6) (As := [.ref (L 10), .int (iI x)]) (rest := []) ⟨hx, hb, hml, hown, hts⟩ hK hM hS rfl hN.1 rfl (c_Nodes_cell l D g lo L κ T cnt d hN 3 x (by decide) (by omega)) (cwV 2 hts (gV m_259 m_261 m_2 m_56 m_262) rfl rfl rfl (by decide +kernel) ⟨Nat.le_of_ble_eq_true rfl, Nat.le_of_ble_eq_true rfl⟩) rfl hl.1 rfl (Nat.le_of_ble_eq_true rfl) d_Nodes_name_6 ⟨Nat.le_of_ble_eq_true rfl, Nat.le_of_ble_eq_true rfl⟩ (fun H locs hM hS => ?_)
  have r1 := nCell_r (cnt := cnt) hN.2.2.2.1 3 x
  exact mw_iret hx hb hr hM hS hlocks d_Nodes_name_9 (mwR_i (by rfl))
set_option maxHeartbeats 4000000 in
set_option maxRecDepth 100000 in
theorem c_Nodes_value (l : Launch) (D : va_G) (g : Nat → ClassId) (lo : Nat) (L : Nat → Nat) (κ : Nat → Option va_E) (T : Nat → Nat → Int) (cnt d : Nat) (hN : nds g L κ T cnt d) (x : Int) (hx : -2147483648 ≤ x ∧ x < 2147483648) : Met l y_Nodes_value w_Nodes_value ({ frames := 1, cells := 0, slots := 0, locals := 22 }) (mwP D vwCl (tyL g) lo L κ [.ref (L 6), .int (iI x)]) (mwQ D vwCl lo (mwR (some (.int (iI (nCell T cnt 4 x)))) L κ)) 0 0 (fun q => lo ≤ q) := by
  have hc0 := hN.2.2.1
  refine Met.ofW (cc := b_Nodes_value) (maxL := 2) (ret := (Option.some Jvm.ClassFile.FieldType.int)) (by decide) rfl ?_
  intro p e s m args below meth c s₁ B hml hpre
  obtain ⟨hargs, hM, hK⟩ := hpre
  have hx := B.exec
  have hb := B.bytes
  have hr := B.returns
  have hts : ∀ w ∈ wA, w.before args s = true := fun w h => atoms_spec (ws := w_Nodes_value) B.pre w (List.mem_cons_of_mem _ h)
  have hown : s.vm.findClass R_Nodes = some m.cls := findClass_of_methodNamed B.named
  have hlocks := B.notSynchronized
  have hS : va_S (fun q => lo ≤ q) s.heap s.heap [] := va_S.rf
  obtain ⟨ls, hls, hl⟩ := mw_entry (m := m) [.ref (L 6), .int (iI x)] (n := 2) (Nat.le_of_ble_eq_true rfl) hargs
  refine W.eq hls ?_
  have hl : lv_has ls 2 [(0, .ref (L 6)), (1, .int (iI x))] := hl
  refine lv_aload_n hx hb d_Nodes_value_0 rfl (lv_at hl 0 rfl) ?_
  refine lv_aload_n hx hb d_Nodes_value_1 rfl (lv_at hl 0 rfl) ?_
  refine mw_get (ci := 1) (i := 6) (v := .ref (L 11)) (C := R_Nodes) (T := T_Nodes) (N := 9) hx hb hts in_Nodes hown hK hM hN.1 rfl rfl 4 (by decide) (hts _ m_135) rfl d_Nodes_value_2 ?_
  refine lv_iload_n hx hb d_Nodes_value_5 rfl (lv_at hl 1 rfl) ?_
  refine mw_rdV (i := 6) (As := [.ref (L 11), .int (iI x)]) (rest := []) ⟨hx, hb, hml, hown, hts⟩ hK hM hS rfl hN.1 rfl (c_Nodes_cell l D g lo L κ T cnt d hN 4 x (by decide) (by omega)) (cwV 2 hts (gV m_259 m_261 m_2 m_56 m_262) rfl rfl rfl (by decide +kernel) ⟨Nat.le_of_ble_eq_true rfl, Nat.le_of_ble_eq_true rfl⟩) rfl hl.1 rfl (Nat.le_of_ble_eq_true rfl) d_Nodes_value_6 ⟨Nat.le_of_ble_eq_true rfl, Nat.le_of_ble_eq_true rfl⟩ (fun H locs hM hS => ?_)
  have r1 := nCell_r (cnt := cnt) hN.2.2.2.1 4 x
  exact mw_iret hx hb hr hM hS hlocks d_Nodes_value_9 (mwR_i (by rfl))
set_option maxHeartbeats 4000000 in
set_option maxRecDepth 100000 in
theorem c_Nodes_valueLength (l : Launch) (D : va_G) (g : Nat → ClassId) (lo : Nat) (L : Nat → Nat) (κ : Nat → Option va_E) (T : Nat → Nat → Int) (cnt d : Nat) (hN : nds g L κ T cnt d) (x : Int) (hx : -2147483648 ≤ x ∧ x < 2147483648) : Met l y_Nodes_valueLength w_Nodes_valueLength ({ frames := 1, cells := 0, slots := 0, locals := 22 }) (mwP D vwCl (tyL g) lo L κ [.ref (L 6), .int (iI x)]) (mwQ D vwCl lo (mwR (some (.int (iI (nCell T cnt 5 x)))) L κ)) 0 0 (fun q => lo ≤ q) := by
  have hc0 := hN.2.2.1
  refine Met.ofW (cc := b_Nodes_valueLength) (maxL := 2) (ret := (Option.some Jvm.ClassFile.FieldType.int)) (by decide) rfl ?_
  intro p e s m args below meth c s₁ B hml hpre
  obtain ⟨hargs, hM, hK⟩ := hpre
  have hx := B.exec
  have hb := B.bytes
  have hr := B.returns
  have hts : ∀ w ∈ wA, w.before args s = true := fun w h => atoms_spec (ws := w_Nodes_valueLength) B.pre w (List.mem_cons_of_mem _ h)
  have hown : s.vm.findClass R_Nodes = some m.cls := findClass_of_methodNamed B.named
  have hlocks := B.notSynchronized
  have hS : va_S (fun q => lo ≤ q) s.heap s.heap [] := va_S.rf
  obtain ⟨ls, hls, hl⟩ := mw_entry (m := m) [.ref (L 6), .int (iI x)] (n := 2) (Nat.le_of_ble_eq_true rfl) hargs
  refine W.eq hls ?_
  have hl : lv_has ls 2 [(0, .ref (L 6)), (1, .int (iI x))] := hl
  refine lv_aload_n hx hb d_Nodes_valueLength_0 rfl (lv_at hl 0 rfl) ?_
  refine lv_aload_n hx hb d_Nodes_valueLength_1 rfl (lv_at hl 0 rfl) ?_
  refine mw_get (ci := 1) (i := 6) (v := .ref (L 12)) (C := R_Nodes) (T := T_Nodes) (N := 9) hx hb hts in_Nodes hown hK hM hN.1 rfl rfl 5 (by decide) (hts _ m_136) rfl d_Nodes_valueLength_2 ?_
  refine lv_iload_n hx hb d_Nodes_valueLength_5 rfl (lv_at hl 1 rfl) ?_
  refine mw_rdV (i := 6) (As := [.ref (L 12), .int (iI x)]) (rest := []) ⟨hx, hb, hml, hown, hts⟩ hK hM hS rfl hN.1 rfl (c_Nodes_cell l D g lo L κ T cnt d hN 5 x (by decide) (by omega)) (cwV 2 hts (gV m_259 m_261 m_2 m_56 m_262) rfl rfl rfl (by decide +kernel) ⟨Nat.le_of_ble_eq_true rfl, Nat.le_of_ble_eq_true rfl⟩) rfl hl.1 rfl (Nat.le_of_ble_eq_true rfl) d_Nodes_valueLength_6 ⟨Nat.le_of_ble_eq_true rfl, Nat.le_of_ble_eq_true rfl⟩ (fun H locs hM hS => ?_)
  have r1 := nCell_r (cnt := cnt) hN.2.2.2.1 5 x
  exact mw_iret hx hb hr hM hS hlocks d_Nodes_valueLength_9 (mwR_i (by rfl))
set_option maxHeartbeats 4000000 in
set_option maxRecDepth 100000 in
theorem c_Nodes_elements (l : Launch) (D : va_G) (g : Nat → ClassId) (lo : Nat) (L : Nat → Nat) (κ : Nat → Option va_E) (T : Nat → Nat → Int) (cnt d : Nat) (hN : nds g L κ T cnt d) (x : Int) (hx : -2147483648 ≤ x ∧ x < 2147483648) : Met l y_Nodes_elements w_Nodes_elements ({ frames := 1, cells := 0, slots := 0, locals := 22 }) (mwP D vwCl (tyL g) lo L κ [.ref (L 6), .int (iI x)]) (mwQ D vwCl lo (mwR (some (.int (iI (nCell T cnt 6 x)))) L κ)) 0 0 (fun q => lo ≤ q) := by
  have hc0 := hN.2.2.1
  refine Met.ofW (cc := b_Nodes_elements) (maxL := 2) (ret := (Option.some Jvm.ClassFile.FieldType.int)) (by decide) rfl ?_
  intro p e s m args below meth c s₁ B hml hpre
  obtain ⟨hargs, hM, hK⟩ := hpre
  have hx := B.exec
  have hb := B.bytes
  have hr := B.returns
  have hts : ∀ w ∈ wA, w.before args s = true := fun w h => atoms_spec (ws := w_Nodes_elements) B.pre w (List.mem_cons_of_mem _ h)
  have hown : s.vm.findClass R_Nodes = some m.cls := findClass_of_methodNamed B.named
  have hlocks := B.notSynchronized
  have hS : va_S (fun q => lo ≤ q) s.heap s.heap [] := va_S.rf
  obtain ⟨ls, hls, hl⟩ := mw_entry (m := m) [.ref (L 6), .int (iI x)] (n := 2) (Nat.le_of_ble_eq_true rfl) hargs
  refine W.eq hls ?_
  have hl : lv_has ls 2 [(0, .ref (L 6)), (1, .int (iI x))] := hl
  refine lv_aload_n hx hb d_Nodes_elements_0 rfl (lv_at hl 0 rfl) ?_
  refine lv_aload_n hx hb d_Nodes_elements_1 rfl (lv_at hl 0 rfl) ?_
  refine mw_get (ci := 1) (i := 6) (v := .ref (L 13)) (C := R_Nodes) (T := T_Nodes) (N := 9) hx hb hts in_Nodes hown hK hM hN.1 rfl rfl 6 (by decide) (hts _ m_137) rfl d_Nodes_elements_2 ?_
  refine lv_iload_n hx hb d_Nodes_elements_5 rfl (lv_at hl 1 rfl) ?_
  refine mw_rdV (i := 6) (As := [.ref (L 13), .int (iI x)]) (rest := []) ⟨hx, hb, hml, hown, hts⟩ hK hM hS rfl hN.1 rfl (c_Nodes_cell l D g lo L κ T cnt d hN 6 x (by decide) (by omega)) (cwV 2 hts (gV m_259 m_261 m_2 m_56 m_262) rfl rfl rfl (by decide +kernel) ⟨Nat.le_of_ble_eq_true rfl, Nat.le_of_ble_eq_true rfl⟩) rfl hl.1 rfl (Nat.le_of_ble_eq_true rfl) d_Nodes_elements_6 ⟨Nat.le_of_ble_eq_true rfl, Nat.le_of_ble_eq_true rfl⟩ (fun H locs hM hS => ?_)
  have r1 := nCell_r (cnt := cnt) hN.2.2.2.1 6 x
  exact mw_iret hx hb hr hM hS hlocks d_Nodes_elements_9 (mwR_i (by rfl))
set_option maxHeartbeats 4000000 in
set_option maxRecDepth 100000 in
theorem c_Nodes_nameLength (l : Launch) (D : va_G) (g : Nat → ClassId) (lo : Nat) (L : Nat → Nat) (κ : Nat → Option va_E) (T : Nat → Nat → Int) (cnt d : Nat) (hN : nds g L κ T cnt d) (x : Int) (hx : -2147483648 ≤ x ∧ x < 2147483648) : Met l y_Nodes_nameLength w_Nodes_nameLength ({ frames := 1, cells := 0, slots := 0, locals := 22 }) (mwP D vwCl (tyL g) lo L κ [.ref (L 6), .int (iI x)]) (mwQ D vwCl lo (mwR (some (.int (iI (nNameLen T cnt x)))) L κ)) 0 0 (fun q => lo ≤ q) := by
  have hc0 := hN.2.2.1
  refine Met.ofW (cc := b_Nodes_nameLength) (maxL := 2) (ret := (Option.some Jvm.ClassFile.FieldType.int)) (by decide) rfl ?_
  intro p e s m args below meth c s₁ B hml hpre
  obtain ⟨hargs, hM, hK⟩ := hpre
  have hx := B.exec
  have hb := B.bytes
  have hr := B.returns
  have hts : ∀ w ∈ wA, w.before args s = true := fun w h => atoms_spec (ws := w_Nodes_nameLength) B.pre w (List.mem_cons_of_mem _ h)
  have hown : s.vm.findClass R_Nodes = some m.cls := findClass_of_methodNamed B.named
  have hlocks := B.notSynchronized
  have hS : va_S (fun q => lo ≤ q) s.heap s.heap [] := va_S.rf
  obtain ⟨ls, hls, hl⟩ := mw_entry (m := m) [.ref (L 6), .int (iI x)] (n := 2) (Nat.le_of_ble_eq_true rfl) hargs
  refine W.eq hls ?_
  have hl : lv_has ls 2 [(0, .ref (L 6)), (1, .int (iI x))] := hl
  refine lv_aload_n hx hb d_Nodes_nameLength_0 rfl (lv_at hl 0 rfl) ?_
  refine lv_aload_n hx hb d_Nodes_nameLength_1 rfl (lv_at hl 0 rfl) ?_
  refine mw_get (ci := 1) (i := 6) (v := .ref (L 11)) (C := R_Nodes) (T := T_Nodes) (N := 9) hx hb hts in_Nodes hown hK hM hN.1 rfl rfl 4 (by decide) (hts _ m_135) rfl d_Nodes_nameLength_2 ?_
  refine lv_iload_n hx hb d_Nodes_nameLength_5 rfl (lv_at hl 1 rfl) ?_
  refine mw_rdV (i := 6) (As := [.ref (L 11), .int (iI x)]) (rest := []) ⟨hx, hb, hml, hown, hts⟩ hK hM hS rfl hN.1 rfl (c_Nodes_cell l D g lo L κ T cnt d hN 4 x (by decide) (by omega)) (cwV 2 hts (gV m_259 m_261 m_2 m_56 m_262) rfl rfl rfl (by decide +kernel) ⟨Nat.le_of_ble_eq_true rfl, Nat.le_of_ble_eq_true rfl⟩) rfl hl.1 rfl (Nat.le_of_ble_eq_true rfl) d_Nodes_nameLength_6 ⟨Nat.le_of_ble_eq_true rfl, Nat.le_of_ble_eq_true rfl⟩ (fun H locs hM hS => ?_)
  have r1 := nCell_r (cnt := cnt) hN.2.2.2.1 4 x
  refine lv_iconst (v := iI (1)) hx hb d_Nodes_nameLength_9 rfl ?_
  refine ia_sub hx hb d_Nodes_nameLength_10 ?_
  refine lv_aload_n hx hb d_Nodes_nameLength_11 rfl (lv_at hl 0 rfl) ?_
  refine lv_aload_n hx hb d_Nodes_nameLength_12 rfl (lv_at hl 0 rfl) ?_
  refine mw_get (ci := 1) (i := 6) (v := .ref (L 10)) (C := R_Nodes) (T := T_Nodes) (N := 9) hx hb hts in_Nodes hown hK hM hN.1 rfl rfl 3 (by decide) (hts _ m_134) rfl d_Nodes_nameLength_13 ?_
  refine lv_iload_n hx hb d_Nodes_nameLength_16 rfl (lv_at hl 1 rfl) ?_
  refine mw_rdV (i := 6) (As := [.ref (L 10), .int (iI x)]) (rest := [.int (iI ((nCell T cnt 4 x) - 1))]) ⟨hx, hb, hml, hown, hts⟩ hK hM hS rfl hN.1 rfl (c_Nodes_cell l D g lo L κ T cnt d hN 3 x (by decide) (by omega)) (cwV 2 hts (gV m_259 m_261 m_2 m_56 m_262) rfl rfl rfl (by decide +kernel) ⟨Nat.le_of_ble_eq_true rfl, Nat.le_of_ble_eq_true rfl⟩) rfl hl.1 rfl (Nat.le_of_ble_eq_true rfl) d_Nodes_nameLength_17 ⟨Nat.le_of_ble_eq_true rfl, Nat.le_of_ble_eq_true rfl⟩ (fun H locs hM hS => ?_)
  have r2 := nCell_r (cnt := cnt) hN.2.2.2.1 3 x
  refine ia_sub hx hb d_Nodes_nameLength_20 ?_
  exact mw_iret hx hb hr hM hS hlocks d_Nodes_nameLength_21 (mwR_i (by rfl))
set_option maxHeartbeats 4000000 in
set_option maxRecDepth 100000 in
theorem c_Nodes_lastByte (l : Launch) (D : va_G) (g : Nat → ClassId) (lo : Nat) (L : Nat → Nat) (κ : Nat → Option va_E) (T : Nat → Nat → Int) (cnt d : Nat) (hN : nds g L κ T cnt d) (x : Int) (hx : -2147483648 ≤ x ∧ x < 2147483648) : Met l y_Nodes_lastByte w_Nodes_lastByte ({ frames := 1, cells := 0, slots := 0, locals := 22 }) (mwP D vwCl (tyL g) lo L κ [.ref (L 6), .int (iI x)]) (mwQ D vwCl lo (mwR (some (.int (iI (nLast T cnt x)))) L κ)) 0 0 (fun q => lo ≤ q) := by
  have hc0 := hN.2.2.1
  refine Met.ofW (cc := b_Nodes_lastByte) (maxL := 2) (ret := (Option.some Jvm.ClassFile.FieldType.int)) (by decide) rfl ?_
  intro p e s m args below meth c s₁ B hml hpre
  obtain ⟨hargs, hM, hK⟩ := hpre
  have hx := B.exec
  have hb := B.bytes
  have hr := B.returns
  have hts : ∀ w ∈ wA, w.before args s = true := fun w h => atoms_spec (ws := w_Nodes_lastByte) B.pre w (List.mem_cons_of_mem _ h)
  have hown : s.vm.findClass R_Nodes = some m.cls := findClass_of_methodNamed B.named
  have hlocks := B.notSynchronized
  have hS : va_S (fun q => lo ≤ q) s.heap s.heap [] := va_S.rf
  obtain ⟨ls, hls, hl⟩ := mw_entry (m := m) [.ref (L 6), .int (iI x)] (n := 2) (Nat.le_of_ble_eq_true rfl) hargs
  refine W.eq hls ?_
  have hl : lv_has ls 2 [(0, .ref (L 6)), (1, .int (iI x))] := hl
  refine lv_aload_n hx hb d_Nodes_lastByte_0 rfl (lv_at hl 0 rfl) ?_
  refine lv_aload_n hx hb d_Nodes_lastByte_1 rfl (lv_at hl 0 rfl) ?_
  refine mw_get (ci := 1) (i := 6) (v := .ref (L 11)) (C := R_Nodes) (T := T_Nodes) (N := 9) hx hb hts in_Nodes hown hK hM hN.1 rfl rfl 4 (by decide) (hts _ m_135) rfl d_Nodes_lastByte_2 ?_
  refine lv_iload_n hx hb d_Nodes_lastByte_5 rfl (lv_at hl 1 rfl) ?_
  refine mw_rdV (i := 6) (As := [.ref (L 11), .int (iI x)]) (rest := []) ⟨hx, hb, hml, hown, hts⟩ hK hM hS rfl hN.1 rfl (c_Nodes_cell l D g lo L κ T cnt d hN 4 x (by decide) (by omega)) (cwV 2 hts (gV m_259 m_261 m_2 m_56 m_262) rfl rfl rfl (by decide +kernel) ⟨Nat.le_of_ble_eq_true rfl, Nat.le_of_ble_eq_true rfl⟩) rfl hl.1 rfl (Nat.le_of_ble_eq_true rfl) d_Nodes_lastByte_6 ⟨Nat.le_of_ble_eq_true rfl, Nat.le_of_ble_eq_true rfl⟩ (fun H locs hM hS => ?_)
  have r1 := nCell_r (cnt := cnt) hN.2.2.2.1 4 x
  refine lv_aload_n hx hb d_Nodes_lastByte_9 rfl (lv_at hl 0 rfl) ?_
  refine lv_aload_n hx hb d_Nodes_lastByte_10 rfl (lv_at hl 0 rfl) ?_
  refine mw_get (ci := 1) (i := 6) (v := .ref (L 12)) (C := R_Nodes) (T := T_Nodes) (N := 9) hx hb hts in_Nodes hown hK hM hN.1 rfl rfl 5 (by decide) (hts _ m_136) rfl d_Nodes_lastByte_11 ?_
  refine lv_iload_n hx hb d_Nodes_lastByte_14 rfl (lv_at hl 1 rfl) ?_
  refine mw_rdV (i := 6) (As := [.ref (L 12), .int (iI x)]) (rest := [.int (iI (nCell T cnt 4 x))]) ⟨hx, hb, hml, hown, hts⟩ hK hM hS rfl hN.1 rfl (c_Nodes_cell l D g lo L κ T cnt d hN 5 x (by decide) (by omega)) (cwV 2 hts (gV m_259 m_261 m_2 m_56 m_262) rfl rfl rfl (by decide +kernel) ⟨Nat.le_of_ble_eq_true rfl, Nat.le_of_ble_eq_true rfl⟩) rfl hl.1 rfl (Nat.le_of_ble_eq_true rfl) d_Nodes_lastByte_15 ⟨Nat.le_of_ble_eq_true rfl, Nat.le_of_ble_eq_true rfl⟩ (fun H locs hM hS => ?_)
  have r2 := nCell_r (cnt := cnt) hN.2.2.2.1 5 x
  refine ia_add hx hb d_Nodes_lastByte_18 ?_
  refine lv_iconst (v := iI (1)) hx hb d_Nodes_lastByte_19 rfl ?_
  refine ia_sub hx hb d_Nodes_lastByte_20 ?_
  exact mw_iret hx hb hr hM hS hlocks d_Nodes_lastByte_21 (mwR_i (by rfl))
set_option maxHeartbeats 4000000 in
set_option maxRecDepth 100000 in
theorem c_Nodes_textLength (l : Launch) (D : va_G) (g : Nat → ClassId) (lo : Nat) (L : Nat → Nat) (κ : Nat → Option va_E) (T : Nat → Nat → Int) (cnt d : Nat) (hN : nds g L κ T cnt d) (x : Int) (hx : -2147483648 ≤ x ∧ x < 2147483648) : Met l y_Nodes_textLength w_Nodes_textLength ({ frames := 1, cells := 0, slots := 0, locals := 22 }) (mwP D vwCl (tyL g) lo L κ [.ref (L 6), .int (iI x)]) (mwQ D vwCl lo (mwR (some (.int (iI (nTextLen T cnt x)))) L κ)) 0 0 (fun q => lo ≤ q) := by
  have hc0 := hN.2.2.1
  refine Met.ofW (cc := b_Nodes_textLength) (maxL := 2) (ret := (Option.some Jvm.ClassFile.FieldType.int)) (by decide) rfl ?_
  intro p e s m args below meth c s₁ B hml hpre
  obtain ⟨hargs, hM, hK⟩ := hpre
  have hx := B.exec
  have hb := B.bytes
  have hr := B.returns
  have hts : ∀ w ∈ wA, w.before args s = true := fun w h => atoms_spec (ws := w_Nodes_textLength) B.pre w (List.mem_cons_of_mem _ h)
  have hown : s.vm.findClass R_Nodes = some m.cls := findClass_of_methodNamed B.named
  have hlocks := B.notSynchronized
  have hS : va_S (fun q => lo ≤ q) s.heap s.heap [] := va_S.rf
  obtain ⟨ls, hls, hl⟩ := mw_entry (m := m) [.ref (L 6), .int (iI x)] (n := 2) (Nat.le_of_ble_eq_true rfl) hargs
  refine W.eq hls ?_
  have hl : lv_has ls 2 [(0, .ref (L 6)), (1, .int (iI x))] := hl
  refine lv_aload_n hx hb d_Nodes_textLength_0 rfl (lv_at hl 0 rfl) ?_
  refine lv_aload_n hx hb d_Nodes_textLength_1 rfl (lv_at hl 0 rfl) ?_
  refine mw_get (ci := 1) (i := 6) (v := .ref (L 7)) (C := R_Nodes) (T := T_Nodes) (N := 9) hx hb hts in_Nodes hown hK hM hN.1 rfl rfl 0 (by decide) (hts _ m_131) rfl d_Nodes_textLength_2 ?_
  refine lv_iload_n hx hb d_Nodes_textLength_5 rfl (lv_at hl 1 rfl) ?_
  refine mw_rdV (i := 6) (As := [.ref (L 7), .int (iI x)]) (rest := []) ⟨hx, hb, hml, hown, hts⟩ hK hM hS rfl hN.1 rfl (c_Nodes_cell l D g lo L κ T cnt d hN 0 x (by decide) (by omega)) (cwV 2 hts (gV m_259 m_261 m_2 m_56 m_262) rfl rfl rfl (by decide +kernel) ⟨Nat.le_of_ble_eq_true rfl, Nat.le_of_ble_eq_true rfl⟩) rfl hl.1 rfl (Nat.le_of_ble_eq_true rfl) d_Nodes_textLength_6 ⟨Nat.le_of_ble_eq_true rfl, Nat.le_of_ble_eq_true rfl⟩ (fun H locs hM hS => ?_)
  have r1 := nCell_r (cnt := cnt) hN.2.2.2.1 0 x
  refine lv_iconst (v := iI (2)) hx hb d_Nodes_textLength_9 rfl ?_
  refine ia_icmp_ne (a := nCell T cnt 0 x) (b := 2) (tgt := 27) hx hb d_Nodes_textLength_10 (by decide) (by omega) (by omega) (fun c2 => ?_) (fun c2 => ?_)
  · refine lv_iconst (v := iI (0)) hx hb d_Nodes_textLength_27 rfl ?_
    exact mw_iret hx hb hr hM hS hlocks d_Nodes_textLength_28 (mwR_i (by unfold nTextLen; rw [if_neg (by omega)]))
  · refine lv_aload_n hx hb d_Nodes_textLength_13 rfl (lv_at hl 0 rfl) ?_
    refine lv_aload_n hx hb d_Nodes_textLength_14 rfl (lv_at hl 0 rfl) ?_
    refine mw_get (ci := 1) (i := 6) (v := .ref (L 12)) (C := R_Nodes) (T := T_Nodes) (N := 9) hx hb hts in_Nodes hown hK hM hN.1 rfl rfl 5 (by decide) (hts _ m_136) rfl d_Nodes_textLength_15 ?_
    refine lv_iload_n hx hb d_Nodes_textLength_18 rfl (lv_at hl 1 rfl) ?_
    refine mw_rdV (i := 6) (As := [.ref (L 12), .int (iI x)]) (rest := []) ⟨hx, hb, hml, hown, hts⟩ hK hM hS rfl hN.1 rfl (c_Nodes_cell l D g lo L κ T cnt d hN 5 x (by decide) (by omega)) (cwV 2 hts (gV m_259 m_261 m_2 m_56 m_262) rfl rfl rfl (by decide +kernel) ⟨Nat.le_of_ble_eq_true rfl, Nat.le_of_ble_eq_true rfl⟩) rfl hl.1 rfl (Nat.le_of_ble_eq_true rfl) d_Nodes_textLength_19 ⟨Nat.le_of_ble_eq_true rfl, Nat.le_of_ble_eq_true rfl⟩ (fun H locs hM hS => ?_)
    have r3 := nCell_r (cnt := cnt) hN.2.2.2.1 5 x
    refine lv_iconst (v := iI (5)) hx hb d_Nodes_textLength_22 rfl ?_
    refine ia_sub hx hb d_Nodes_textLength_23 ?_
    refine lv_goto (tgt := 28) hx hb d_Nodes_textLength_24 (by decide) ?_
    exact mw_iret hx hb hr hM hS hlocks d_Nodes_textLength_28 (mwR_i (by unfold nTextLen; rw [if_pos (by omega)]))
set_option maxHeartbeats 4000000 in
set_option maxRecDepth 100000 in
theorem c_Nodes_behind (l : Launch) (D : va_G) (g : Nat → ClassId) (lo : Nat) (L : Nat → Nat) (κ : Nat → Option va_E) (T : Nat → Nat → Int) (cnt d : Nat) (hN : nds g L κ T cnt d) (x : Int) (hx0 : -1 ≤ x ∧ x ≤ 1000000) : Met l y_Nodes_behind w_Nodes_behind ({ frames := 1, cells := 0, slots := 0, locals := 22 }) (mwP D vwCl (tyL g) lo L κ [.ref (L 6), .int (iI x)]) (mwQ D vwCl lo (mwR (some (.int (iI (nBeh T cnt x)))) L κ)) 0 0 (fun q => lo ≤ q) := by
  have hc0 := hN.2.2.1
  refine Met.ofW (cc := b_Nodes_behind) (maxL := 3) (ret := (Option.some Jvm.ClassFile.FieldType.int)) (by decide) rfl ?_
  intro p e s m args below meth c s₁ B hml hpre
  obtain ⟨hargs, hM, hK⟩ := hpre
  have hx := B.exec
  have hb := B.bytes
  have hr := B.returns
  have hts : ∀ w ∈ wA, w.before args s = true := fun w h => atoms_spec (ws := w_Nodes_behind) B.pre w (List.mem_cons_of_mem _ h)
  have hown : s.vm.findClass R_Nodes = some m.cls := findClass_of_methodNamed B.named
  have hlocks := B.notSynchronized
  have hS : va_S (fun q => lo ≤ q) s.heap s.heap [] := va_S.rf
  have loop4 : ∀ (N : Nat) (k : Int), (cnt - k).toNat < N → (0 ≤ k ∧ k ≤ 1000001) → (nBeh T cnt x = nBehF T cnt x k) → ∀ (H : Heap) (locs : List Loc) (ls : Array Slot), mw D vwCl lo L κ H → va_S (fun q => lo ≤ q) s.heap H locs → lv_has ls 3 [(2, .int (iI k)), (0, .ref (L 6)), (1, .int (iI x))] → W p l e (headSpec w_Nodes_behind ({ frames := 1, cells := 0, slots := 0, locals := 22 })).room s m args below meth c H locs 0 0 (MQ below (mwQ D vwCl lo (mwR (some (.int (iI (nBeh T cnt x)))) L κ)) args s 0 0 (fun q => lo ≤ q)) (F0 m 4 ls []) := by
    intro N
    induction N with
    | zero => intro k hms; exact absurd hms (Nat.not_lt_zero _)
    | succ N ih =>
      intro k hms hk hres H locs ls hM hS hl
      refine lv_iload_n hx hb d_Nodes_behind_4 rfl (lv_at hl 0 rfl) ?_
      refine lv_aload_n hx hb d_Nodes_behind_5 rfl (lv_at hl 1 rfl) ?_
      refine mw_get (ci := 1) (i := 6) (v := .int (iI cnt)) (C := R_Nodes) (T := T_Nodes) (N := 9) hx hb hts in_Nodes hown hK hM hN.1 rfl rfl 8 (by decide) (hts _ m_139) rfl d_Nodes_behind_6 ?_
      refine ia_icmp_ge (a := k) (b := cnt) (tgt := 33) hx hb d_Nodes_behind_9 (by decide) (by omega) (by omega) (fun c1 => ?_) (fun c1 => ?_)
      · refine lv_aload_n hx hb d_Nodes_behind_33 rfl (lv_at hl 1 rfl) ?_
        refine mw_get (ci := 1) (i := 6) (v := .int (iI cnt)) (C := R_Nodes) (T := T_Nodes) (N := 9) hx hb hts in_Nodes hown hK hM hN.1 rfl rfl 8 (by decide) (hts _ m_139) rfl d_Nodes_behind_34 ?_
        exact mw_iret hx hb hr hM hS hlocks d_Nodes_behind_37 (mwR_i (by rw [hres, nBehF_end (by omega)]))
      · refine lv_aload_n hx hb d_Nodes_behind_12 rfl (lv_at hl 1 rfl) ?_
        refine lv_aload_n hx hb d_Nodes_behind_13 rfl (lv_at hl 1 rfl) ?_
        refine mw_get (ci := 1) (i := 6) (v := .ref (L 8)) (C := R_Nodes) (T := T_Nodes) (N := 9) hx hb hts in_Nodes hown hK hM hN.1 rfl rfl 1 (by decide) (hts _ m_132) rfl d_Nodes_behind_14 ?_
        refine lv_iload_n hx hb d_Nodes_behind_17 rfl (lv_at hl 0 rfl) ?_
        refine mw_rdV (i := 6) (As := [.ref (L 8), .int (iI k)]) (rest := []) ⟨hx, hb, hml, hown, hts⟩ hK hM hS rfl hN.1 rfl (c_Nodes_cell l D g lo L κ T cnt d hN 1 k (by decide) (by omega)) (cwV 2 hts (gV m_259 m_261 m_2 m_56 m_262) rfl rfl rfl (by decide +kernel) ⟨Nat.le_of_ble_eq_true rfl, Nat.le_of_ble_eq_true rfl⟩) rfl hl.1 rfl (Nat.le_of_ble_eq_true rfl) d_Nodes_behind_18 ⟨Nat.le_of_ble_eq_true rfl, Nat.le_of_ble_eq_true rfl⟩ (fun H locs hM hS => ?_)
        have r2 := nCell_r (cnt := cnt) hN.2.2.2.1 1 k
        refine lv_iload_n hx hb d_Nodes_behind_21 rfl (lv_at hl 2 rfl) ?_
        refine ia_icmp_ge (a := nCell T cnt 1 k) (b := x) (tgt := 27) hx hb d_Nodes_behind_22 (by decide) (by omega) (by omega) (fun c3 => ?_) (fun c3 => ?_)
        · refine lv_iinc (v := iI (k + 1)) (lv' := [(2, .int (iI (k + 1))), (0, .ref (L 6)), (1, .int (iI x))]) hx hb d_Nodes_behind_27 hl (k := 0) rfl (iI_inc _ _) (by decide) rfl (fun ls hl => ?_)
          refine lv_goto (tgt := 4) hx hb d_Nodes_behind_30 (by decide) ?_
          exact ih (k + 1) (by omega) (by omega) (by rw [hres, nBehF_step (by omega), if_neg (by omega)]) _ _ ls hM hS (lv_sub hl [0, 1, 2] rfl)
        · refine lv_iload_n hx hb d_Nodes_behind_25 rfl (lv_at hl 0 rfl) ?_
          exact mw_iret hx hb hr hM hS hlocks d_Nodes_behind_26 (mwR_i (by rw [hres, nBehF_step (by omega), if_pos (by omega)]))
  obtain ⟨ls, hls, hl⟩ := mw_entry (m := m) [.ref (L 6), .int (iI x)] (n := 3) (Nat.le_of_ble_eq_true rfl) hargs
  refine W.eq hls ?_
  have hl : lv_has ls 3 [(0, .ref (L 6)), (1, .int (iI x))] := hl
  refine lv_iload_n hx hb d_Nodes_behind_0 rfl (lv_at hl 1 rfl) ?_
  refine lv_iconst (v := iI (1)) hx hb d_Nodes_behind_1 rfl ?_
  refine ia_add hx hb d_Nodes_behind_2 ?_
  refine lv_istore_n (lv' := [(2, .int (iI (x + 1))), (0, .ref (L 6)), (1, .int (iI x))]) hx hb d_Nodes_behind_3 rfl hl (by decide) rfl (fun ls hl => ?_)
  exact loop4 _ (x + 1) (Nat.lt_succ_self _) (by omega) rfl _ _ ls hM hS (lv_sub hl [0, 1, 2] rfl)
set_option maxHeartbeats 4000000 in
set_option maxRecDepth 100000 in
theorem c_Nodes_nextBeside (l : Launch) (D : va_G) (g : Nat → ClassId) (lo : Nat) (L : Nat → Nat) (κ : Nat → Option va_E) (T : Nat → Nat → Int) (cnt d : Nat) (hN : nds g L κ T cnt d) (x : Int) (hx0 : -1 ≤ x ∧ x ≤ 1000000) : Met l y_Nodes_nextBeside w_Nodes_nextBeside ({ frames := 2, cells := 0, slots := 0, locals := 44 }) (mwP D vwCl (tyL g) lo L κ [.ref (L 6), .int (iI x)]) (mwQ D vwCl lo (mwR (some (.int (iI (nNext T cnt x)))) L κ)) 0 0 (fun q => lo ≤ q) := by
  have hc0 := hN.2.2.1
  refine Met.ofW (cc := b_Nodes_nextBeside) (maxL := 3) (ret := (Option.some Jvm.ClassFile.FieldType.int)) (by decide) rfl ?_
  intro p e s m args below meth c s₁ B hml hpre
  obtain ⟨hargs, hM, hK⟩ := hpre
  have hx := B.exec
  have hb := B.bytes
  have hr := B.returns
  have hts : ∀ w ∈ wA, w.before args s = true := fun w h => atoms_spec (ws := w_Nodes_nextBeside) B.pre w (List.mem_cons_of_mem _ h)
  have hown : s.vm.findClass R_Nodes = some m.cls := findClass_of_methodNamed B.named
  have hlocks := B.notSynchronized
  have hS : va_S (fun q => lo ≤ q) s.heap s.heap [] := va_S.rf
  obtain ⟨ls, hls, hl⟩ := mw_entry (m := m) [.ref (L 6), .int (iI x)] (n := 3) (Nat.le_of_ble_eq_true rfl) hargs
  refine W.eq hls ?_
  have hl : lv_has ls 3 [(0, .ref (L 6)), (1, .int (iI x))] := hl
  refine lv_aload_n hx hb d_Nodes_nextBeside_0 rfl (lv_at hl 0 rfl) ?_
  refine lv_iload_n hx hb d_Nodes_nextBeside_1 rfl (lv_at hl 1 rfl) ?_
  refine mw_rdV (i := 6) (As := [.int (iI x)]) (rest := []) ⟨hx, hb, hml, hown, hts⟩ hK hM hS rfl hN.1 rfl (c_Nodes_behind l D g lo L κ T cnt d hN x (by omega)) (cwV 1 hts (gV m_405 m_406 m_407 m_56 m_408) rfl rfl rfl (by decide +kernel) ⟨Nat.le_of_ble_eq_true rfl, Nat.le_of_ble_eq_true rfl⟩) rfl hl.1 rfl (Nat.le_of_ble_eq_true rfl) d_Nodes_nextBeside_2 ⟨Nat.le_of_ble_eq_true rfl, Nat.le_of_ble_eq_true rfl⟩ (fun H locs hM hS => ?_)
  have r1 := nBeh_r T cnt x
  refine lv_istore_n (lv' := [(2, .int (iI (nBeh T cnt x))), (0, .ref (L 6)), (1, .int (iI x))]) hx hb d_Nodes_nextBeside_5 rfl hl (by decide) rfl (fun ls hl => ?_)
  refine lv_iload_n hx hb d_Nodes_nextBeside_6 rfl (lv_at hl 0 rfl) ?_
  refine lv_aload_n hx hb d_Nodes_nextBeside_7 rfl (lv_at hl 1 rfl) ?_
  refine mw_get (ci := 1) (i := 6) (v := .int (iI cnt)) (C := R_Nodes) (T := T_Nodes) (N := 9) hx hb hts in_Nodes hown hK hM hN.1 rfl rfl 8 (by decide) (hts _ m_139) rfl d_Nodes_nextBeside_8 ?_
  refine ia_icmp_ge (a := nBeh T cnt x) (b := cnt) (tgt := 31) hx hb d_Nodes_nextBeside_11 (by decide) (by omega) (by omega) (fun c2 => ?_) (fun c2 => ?_)
  · refine lv_iconst (v := iI (-1)) hx hb d_Nodes_nextBeside_31 rfl ?_
    exact mw_iret hx hb hr hM hS hlocks d_Nodes_nextBeside_32 (mwR_i (by unfold nNext; rw [if_neg (by omega)]))
  · refine lv_aload_n hx hb d_Nodes_nextBeside_14 rfl (lv_at hl 1 rfl) ?_
    refine lv_iload_n hx hb d_Nodes_nextBeside_15 rfl (lv_at hl 0 rfl) ?_
    refine mw_rdV (i := 6) (As := [.int (iI (nBeh T cnt x))]) (rest := []) ⟨hx, hb, hml, hown, hts⟩ hK hM hS rfl hN.1 rfl (c_Nodes_parent l D g lo L κ T cnt d hN (nBeh T cnt x) (by omega)) (cwV 1 hts (gV m_331 m_280 m_281 m_56 m_282) rfl rfl rfl (by decide +kernel) ⟨Nat.le_of_ble_eq_true rfl, Nat.le_of_ble_eq_true rfl⟩) rfl hl.1 rfl (Nat.le_of_ble_eq_true rfl) d_Nodes_nextBeside_16 ⟨Nat.le_of_ble_eq_true rfl, Nat.le_of_ble_eq_true rfl⟩ (fun H locs hM hS => ?_)
    have r3 := nCell_r (cnt := cnt) hN.2.2.2.1 1 (nBeh T cnt x)
    refine lv_aload_n hx hb d_Nodes_nextBeside_19 rfl (lv_at hl 1 rfl) ?_
    refine lv_iload_n hx hb d_Nodes_nextBeside_20 rfl (lv_at hl 2 rfl) ?_
    refine mw_rdV (i := 6) (As := [.int (iI x)]) (rest := [.int (iI (nCell T cnt 1 (nBeh T cnt x)))]) ⟨hx, hb, hml, hown, hts⟩ hK hM hS rfl hN.1 rfl (c_Nodes_parent l D g lo L κ T cnt d hN x (by omega)) (cwV 1 hts (gV m_331 m_280 m_281 m_56 m_282) rfl rfl rfl (by decide +kernel) ⟨Nat.le_of_ble_eq_true rfl, Nat.le_of_ble_eq_true rfl⟩) rfl hl.1 rfl (Nat.le_of_ble_eq_true rfl) d_Nodes_nextBeside_21 ⟨Nat.le_of_ble_eq_true rfl, Nat.le_of_ble_eq_true rfl⟩ (fun H locs hM hS => ?_)
    have r4 := nCell_r (cnt := cnt) hN.2.2.2.1 1 x
    refine ia_icmp_ne (a := nCell T cnt 1 (nBeh T cnt x)) (b := nCell T cnt 1 x) (tgt := 31) hx hb d_Nodes_nextBeside_24 (by decide) (by omega) (by omega) (fun c5 => ?_) (fun c5 => ?_)
    · refine lv_iconst (v := iI (-1)) hx hb d_Nodes_nextBeside_31 rfl ?_
      exact mw_iret hx hb hr hM hS hlocks d_Nodes_nextBeside_32 (mwR_i (by unfold nNext; rw [if_neg (by omega)]))
    · refine lv_iload_n hx hb d_Nodes_nextBeside_27 rfl (lv_at hl 0 rfl) ?_
      refine lv_goto (tgt := 32) hx hb d_Nodes_nextBeside_28 (by decide) ?_
      exact mw_iret hx hb hr hM hS hlocks d_Nodes_nextBeside_32 (mwR_i (by unfold nNext; rw [if_pos (by omega)]))
set_option maxHeartbeats 4000000 in
set_option maxRecDepth 100000 in
theorem c_Nodes_deepestIn (l : Launch) (D : va_G) (g : Nat → ClassId) (lo : Nat) (L : Nat → Nat) (κ : Nat → Option va_E) (T : Nat → Nat → Int) (cnt d : Nat) (hN : nds g L κ T cnt d) (x : Int) (hx0 : -1 ≤ x ∧ x ≤ 1000000) : Met l y_Nodes_deepestIn w_Nodes_deepestIn ({ frames := 2, cells := 0, slots := 0, locals := 44 }) (mwP D vwCl (tyL g) lo L κ [.ref (L 6), .int (iI x)]) (mwQ D vwCl lo (mwR (some (.int (iI (nDeep T cnt x)))) L κ)) 0 0 (fun q => lo ≤ q) := by
  have hc0 := hN.2.2.1
  refine Met.ofW (cc := b_Nodes_deepestIn) (maxL := 5) (ret := (Option.some Jvm.ClassFile.FieldType.int)) (by decide) rfl ?_
  intro p e s m args below meth c s₁ B hml hpre
  obtain ⟨hargs, hM, hK⟩ := hpre
  have hx := B.exec
  have hb := B.bytes
  have hr := B.returns
  have hts : ∀ w ∈ wA, w.before args s = true := fun w h => atoms_spec (ws := w_Nodes_deepestIn) B.pre w (List.mem_cons_of_mem _ h)
  have hown : s.vm.findClass R_Nodes = some m.cls := findClass_of_methodNamed B.named
  have hlocks := B.notSynchronized
  have hS : va_S (fun q => lo ≤ q) s.heap s.heap [] := va_S.rf
  have loop17 : ∀ (N : Nat) (k : Int) (acc : Int), (nBeh T cnt x - k).toNat < N → (0 ≤ k ∧ k ≤ 1000001) → (-1000000 ≤ acc ∧ acc ≤ 1000000) → (nBeh T cnt x ≤ cnt ∧ (x + 1 ≤ nBeh T cnt x ∨ nBeh T cnt x = cnt)) → (nDeep T cnt x = nDeepF T cnt (nBeh T cnt x) k acc) → ∀ (H : Heap) (locs : List Loc) (ls : Array Slot), mw D vwCl lo L κ H → va_S (fun q => lo ≤ q) s.heap H locs → lv_has ls 5 [(4, .int (iI k)), (3, .int (iI (nBeh T cnt x))), (2, .int (iI acc)), (0, .ref (L 6)), (1, .int (iI x))] → W p l e (headSpec w_Nodes_deepestIn ({ frames := 2, cells := 0, slots := 0, locals := 44 })).room s m args below meth c H locs 0 0 (MQ below (mwQ D vwCl lo (mwR (some (.int (iI (nDeep T cnt x)))) L κ)) args s 0 0 (fun q => lo ≤ q)) (F0 m 17 ls []) := by
    intro N
    induction N with
    | zero => intro k acc hms; exact absurd hms (Nat.not_lt_zero _)
    | succ N ih =>
      intro k acc hms hk ha hbr hres H locs ls hM hS hl
      refine lv_iload hx hb d_Nodes_deepestIn_17 (lv_at hl 0 rfl) ?_
      refine lv_iload_n hx hb d_Nodes_deepestIn_19 rfl (lv_at hl 1 rfl) ?_
      refine ia_icmp_ge (a := k) (b := nBeh T cnt x) (tgt := 40) hx hb d_Nodes_deepestIn_20 (by decide) (by omega) (by omega) (fun c1 => ?_) (fun c1 => ?_)
      · refine lv_iload_n hx hb d_Nodes_deepestIn_40 rfl (lv_at hl 2 rfl) ?_
        exact mw_iret hx hb hr hM hS hlocks d_Nodes_deepestIn_41 (mwR_i (by rw [hres, nDeepF_end (by omega)]))
      · refine lv_iload_n hx hb d_Nodes_deepestIn_23 rfl (lv_at hl 2 rfl) ?_
        refine lv_aload_n hx hb d_Nodes_deepestIn_24 rfl (lv_at hl 3 rfl) ?_
        refine lv_iload hx hb d_Nodes_deepestIn_25 (lv_at hl 0 rfl) ?_
        refine mw_rdV (i := 6) (As := [.int (iI k)]) (rest := [.int (iI acc)]) ⟨hx, hb, hml, hown, hts⟩ hK hM hS rfl hN.1 rfl (c_Nodes_depth l D g lo L κ T cnt d hN k (by omega)) (cwV 1 hts (gV m_404 m_256 m_257 m_56 m_258) rfl rfl rfl (by decide +kernel) ⟨Nat.le_of_ble_eq_true rfl, Nat.le_of_ble_eq_true rfl⟩) rfl hl.1 rfl (Nat.le_of_ble_eq_true rfl) d_Nodes_deepestIn_27 ⟨Nat.le_of_ble_eq_true rfl, Nat.le_of_ble_eq_true rfl⟩ (fun H locs hM hS => ?_)
        have r2 := nCell_r (cnt := cnt) hN.2.2.2.1 2 k
        refine va_mmax hx hb (hml.trans hl.1.symm) hown (hts _ m_409) (hts _ m_410) (hts _ m_54) (hts _ m_411) (Nat.le_of_ble_eq_true rfl) (Nat.le_of_ble_eq_true rfl) (Nat.le_of_ble_eq_true rfl) (Nat.le_of_ble_eq_true rfl) d_Nodes_deepestIn_30 ?_
        refine W.eq (g2 := F0 m 33 ls [.int (iI (if acc < (nCell T cnt 2 k) then nCell T cnt 2 k else acc))]) (by rw [mx_i (by omega) (by omega)]) ?_
        refine lv_istore_n (lv' := [(2, .int (iI (if acc < (nCell T cnt 2 k) then nCell T cnt 2 k else acc))), (4, .int (iI k)), (3, .int (iI (nBeh T cnt x))), (0, .ref (L 6)), (1, .int (iI x))]) hx hb d_Nodes_deepestIn_33 rfl hl (by decide) rfl (fun ls hl => ?_)
        refine lv_iinc (v := iI (k + 1)) (lv' := [(4, .int (iI (k + 1))), (2, .int (iI (if acc < (nCell T cnt 2 k) then nCell T cnt 2 k else acc))), (3, .int (iI (nBeh T cnt x))), (0, .ref (L 6)), (1, .int (iI x))]) hx hb d_Nodes_deepestIn_34 hl (k := 1) rfl (iI_inc _ _) (by decide) rfl (fun ls hl => ?_)
        refine lv_goto (tgt := 17) hx hb d_Nodes_deepestIn_37 (by decide) ?_
        exact ih (k + 1) (if acc < (nCell T cnt 2 k) then nCell T cnt 2 k else acc) (by omega) (by omega) (by split <;> omega) hbr (by rw [hres, nDeepF_step (by omega)]) _ _ ls hM hS (lv_sub hl [0, 2, 1, 3, 4] rfl)
  obtain ⟨ls, hls, hl⟩ := mw_entry (m := m) [.ref (L 6), .int (iI x)] (n := 5) (Nat.le_of_ble_eq_true rfl) hargs
  refine W.eq hls ?_
  have hl : lv_has ls 5 [(0, .ref (L 6)), (1, .int (iI x))] := hl
  refine lv_aload_n hx hb d_Nodes_deepestIn_0 rfl (lv_at hl 0 rfl) ?_
  refine lv_iload_n hx hb d_Nodes_deepestIn_1 rfl (lv_at hl 1 rfl) ?_
  refine mw_rdV (i := 6) (As := [.int (iI x)]) (rest := []) ⟨hx, hb, hml, hown, hts⟩ hK hM hS rfl hN.1 rfl (c_Nodes_depth l D g lo L κ T cnt d hN x (by omega)) (cwV 1 hts (gV m_404 m_256 m_257 m_56 m_258) rfl rfl rfl (by decide +kernel) ⟨Nat.le_of_ble_eq_true rfl, Nat.le_of_ble_eq_true rfl⟩) rfl hl.1 rfl (Nat.le_of_ble_eq_true rfl) d_Nodes_deepestIn_2 ⟨Nat.le_of_ble_eq_true rfl, Nat.le_of_ble_eq_true rfl⟩ (fun H locs hM hS => ?_)
  have r3 := nCell_r (cnt := cnt) hN.2.2.2.1 2 x
  refine lv_istore_n (lv' := [(2, .int (iI (nCell T cnt 2 x))), (0, .ref (L 6)), (1, .int (iI x))]) hx hb d_Nodes_deepestIn_5 rfl hl (by decide) rfl (fun ls hl => ?_)
  refine lv_aload_n hx hb d_Nodes_deepestIn_6 rfl (lv_at hl 1 rfl) ?_
  refine lv_iload_n hx hb d_Nodes_deepestIn_7 rfl (lv_at hl 2 rfl) ?_
  refine mw_rdV (i := 6) (As := [.int (iI x)]) (rest := []) ⟨hx, hb, hml, hown, hts⟩ hK hM hS rfl hN.1 rfl (c_Nodes_behind l D g lo L κ T cnt d hN x (by omega)) (cwV 1 hts (gV m_405 m_406 m_407 m_56 m_408) rfl rfl rfl (by decide +kernel) ⟨Nat.le_of_ble_eq_true rfl, Nat.le_of_ble_eq_true rfl⟩) rfl hl.1 rfl (Nat.le_of_ble_eq_true rfl) d_Nodes_deepestIn_8 ⟨Nat.le_of_ble_eq_true rfl, Nat.le_of_ble_eq_true rfl⟩ (fun H locs hM hS => ?_)
  have r4 := nBeh_r T cnt x
  refine lv_istore_n (lv' := [(3, .int (iI (nBeh T cnt x))), (2, .int (iI (nCell T cnt 2 x))), (0, .ref (L 6)), (1, .int (iI x))]) hx hb d_Nodes_deepestIn_11 rfl hl (by decide) rfl (fun ls hl => ?_)
  refine lv_iload_n hx hb d_Nodes_deepestIn_12 rfl (lv_at hl 3 rfl) ?_
  refine lv_iconst (v := iI (1)) hx hb d_Nodes_deepestIn_13 rfl ?_
  refine ia_add hx hb d_Nodes_deepestIn_14 ?_
  refine lv_istore (lv' := [(4, .int (iI (x + 1))), (3, .int (iI (nBeh T cnt x))), (2, .int (iI (nCell T cnt 2 x))), (0, .ref (L 6)), (1, .int (iI x))]) hx hb d_Nodes_deepestIn_15 hl (by decide) rfl (fun ls hl => ?_)
  exact loop17 _ (x + 1) (nCell T cnt 2 x) (Nat.lt_succ_self _) (by omega) (by omega) (nBeh_r T cnt x) rfl _ _ ls hM hS (lv_sub hl [0, 1, 2, 3, 4] rfl)
set_option maxHeartbeats 4000000 in
set_option maxRecDepth 100000 in
theorem c_Nodes_levels (l : Launch) (D : va_G) (g : Nat → ClassId) (lo : Nat) (L : Nat → Nat) (κ : Nat → Option va_E) (T : Nat → Nat → Int) (cnt d : Nat) (hN : nds g L κ T cnt d) (x : Int) (hx0 : -1 ≤ x ∧ x ≤ 1000000) : Met l y_Nodes_levels w_Nodes_levels ({ frames := 3, cells := 0, slots := 0, locals := 68 }) (mwP D vwCl (tyL g) lo L κ [.ref (L 6), .int (iI x)]) (mwQ D vwCl lo (mwR (some (.int (iI (nLevels T cnt x)))) L κ)) 0 0 (fun q => lo ≤ q) := by
  have hc0 := hN.2.2.1
  refine Met.ofW (cc := b_Nodes_levels) (maxL := 3) (ret := (Option.some Jvm.ClassFile.FieldType.int)) (by decide) rfl ?_
  intro p e s m args below meth c s₁ B hml hpre
  obtain ⟨hargs, hM, hK⟩ := hpre
  have hx := B.exec
  have hb := B.bytes
  have hr := B.returns
  have hts : ∀ w ∈ wA, w.before args s = true := fun w h => atoms_spec (ws := w_Nodes_levels) B.pre w (List.mem_cons_of_mem _ h)
  have hown : s.vm.findClass R_Nodes = some m.cls := findClass_of_methodNamed B.named
  have hlocks := B.notSynchronized
  have hS : va_S (fun q => lo ≤ q) s.heap s.heap [] := va_S.rf
  obtain ⟨ls, hls, hl⟩ := mw_entry (m := m) [.ref (L 6), .int (iI x)] (n := 3) (Nat.le_of_ble_eq_true rfl) hargs
  refine W.eq hls ?_
  have hl : lv_has ls 3 [(0, .ref (L 6)), (1, .int (iI x))] := hl
  refine lv_aload_n hx hb d_Nodes_levels_0 rfl (lv_at hl 0 rfl) ?_
  refine lv_iload_n hx hb d_Nodes_levels_1 rfl (lv_at hl 1 rfl) ?_
  refine mw_rdV (i := 6) (As := [.int (iI x)]) (rest := []) ⟨hx, hb, hml, hown, hts⟩ hK hM hS rfl hN.1 rfl (c_Nodes_kind l D g lo L κ T cnt d hN x (by omega)) (cwV 1 hts (gV m_522 m_313 m_314 m_56 m_315) rfl rfl rfl (by decide +kernel) ⟨Nat.le_of_ble_eq_true rfl, Nat.le_of_ble_eq_true rfl⟩) rfl hl.1 rfl (Nat.le_of_ble_eq_true rfl) d_Nodes_levels_2 ⟨Nat.le_of_ble_eq_true rfl, Nat.le_of_ble_eq_true rfl⟩ (fun H locs hM hS => ?_)
  have r1 := nCell_r (cnt := cnt) hN.2.2.2.1 0 x
  refine mw_rdS (As := [.int (iI (nCell T cnt 0 x))]) (rest := []) ⟨hx, hb, hml, hown, hts⟩ hK hM hS (c_Kinds_hold l D g lo L κ (nCell T cnt 0 x) (by omega)) (va_cwS 1 hts (gT m_267 m_268 m_59 m_269) rfl rfl rfl (by decide +kernel) ⟨Nat.le_of_ble_eq_true rfl, Nat.le_of_ble_eq_true rfl⟩) rfl hl.1 rfl (Nat.le_of_ble_eq_true rfl) d_Nodes_levels_5 ⟨Nat.le_of_ble_eq_true rfl, Nat.le_of_ble_eq_true rfl⟩ (fun H locs hM hS => ?_)
  refine ia_ifz_eq (x := kHold (nCell T cnt 0 x)) (tgt := 15) hx hb d_Nodes_levels_8 (by decide) (fun c2 => ?_) (fun c2 => ?_)
  · refine lv_iconst (v := iI (0)) hx hb d_Nodes_levels_15 rfl ?_
    refine lv_istore_n (lv' := [(2, .int (iI 0)), (0, .ref (L 6)), (1, .int (iI x))]) hx hb d_Nodes_levels_16 rfl hl (by decide) rfl (fun ls hl => ?_)
    refine lv_aload_n hx hb d_Nodes_levels_17 rfl (lv_at hl 1 rfl) ?_
    refine lv_iload_n hx hb d_Nodes_levels_18 rfl (lv_at hl 2 rfl) ?_
    refine mw_rdV (i := 6) (As := [.int (iI x)]) (rest := []) ⟨hx, hb, hml, hown, hts⟩ hK hM hS rfl hN.1 rfl (c_Nodes_deepestIn l D g lo L κ T cnt d hN x (by omega)) (cwV 1 hts (gV m_523 m_401 m_402 m_56 m_403) rfl rfl rfl (by decide +kernel) ⟨Nat.le_of_ble_eq_true rfl, Nat.le_of_ble_eq_true rfl⟩) rfl hl.1 rfl (Nat.le_of_ble_eq_true rfl) d_Nodes_levels_19 ⟨Nat.le_of_ble_eq_true rfl, Nat.le_of_ble_eq_true rfl⟩ (fun H locs hM hS => ?_)
    have r3 := nDeep_r (cnt := cnt) hN.2.2.2.1 x
    refine lv_aload_n hx hb d_Nodes_levels_22 rfl (lv_at hl 1 rfl) ?_
    refine lv_iload_n hx hb d_Nodes_levels_23 rfl (lv_at hl 2 rfl) ?_
    refine mw_rdV (i := 6) (As := [.int (iI x)]) (rest := [.int (iI (nDeep T cnt x))]) ⟨hx, hb, hml, hown, hts⟩ hK hM hS rfl hN.1 rfl (c_Nodes_depth l D g lo L κ T cnt d hN x (by omega)) (cwV 1 hts (gV m_404 m_256 m_257 m_56 m_258) rfl rfl rfl (by decide +kernel) ⟨Nat.le_of_ble_eq_true rfl, Nat.le_of_ble_eq_true rfl⟩) rfl hl.1 rfl (Nat.le_of_ble_eq_true rfl) d_Nodes_levels_24 ⟨Nat.le_of_ble_eq_true rfl, Nat.le_of_ble_eq_true rfl⟩ (fun H locs hM hS => ?_)
    have r4 := nCell_r (cnt := cnt) hN.2.2.2.1 2 x
    refine ia_sub hx hb d_Nodes_levels_27 ?_
    refine lv_iload_n hx hb d_Nodes_levels_28 rfl (lv_at hl 0 rfl) ?_
    refine ia_add hx hb d_Nodes_levels_29 ?_
    exact mw_iret hx hb hr hM hS hlocks d_Nodes_levels_30 (mwR_i (by unfold nLevels; rw [show kHold (nCell T cnt 0 x) = false by assumption]; rfl))
  · refine lv_iconst (v := iI (1)) hx hb d_Nodes_levels_11 rfl ?_
    refine lv_goto (tgt := 16) hx hb d_Nodes_levels_12 (by decide) ?_
    refine lv_istore_n (lv' := [(2, .int (iI 1)), (0, .ref (L 6)), (1, .int (iI x))]) hx hb d_Nodes_levels_16 rfl hl (by decide) rfl (fun ls hl => ?_)
    refine lv_aload_n hx hb d_Nodes_levels_17 rfl (lv_at hl 1 rfl) ?_
    refine lv_iload_n hx hb d_Nodes_levels_18 rfl (lv_at hl 2 rfl) ?_
    refine mw_rdV (i := 6) (As := [.int (iI x)]) (rest := []) ⟨hx, hb, hml, hown, hts⟩ hK hM hS rfl hN.1 rfl (c_Nodes_deepestIn l D g lo L κ T cnt d hN x (by omega)) (cwV 1 hts (gV m_523 m_401 m_402 m_56 m_403) rfl rfl rfl (by decide +kernel) ⟨Nat.le_of_ble_eq_true rfl, Nat.le_of_ble_eq_true rfl⟩) rfl hl.1 rfl (Nat.le_of_ble_eq_true rfl) d_Nodes_levels_19 ⟨Nat.le_of_ble_eq_true rfl, Nat.le_of_ble_eq_true rfl⟩ (fun H locs hM hS => ?_)
    have r5 := nDeep_r (cnt := cnt) hN.2.2.2.1 x
    refine lv_aload_n hx hb d_Nodes_levels_22 rfl (lv_at hl 1 rfl) ?_
    refine lv_iload_n hx hb d_Nodes_levels_23 rfl (lv_at hl 2 rfl) ?_
    refine mw_rdV (i := 6) (As := [.int (iI x)]) (rest := [.int (iI (nDeep T cnt x))]) ⟨hx, hb, hml, hown, hts⟩ hK hM hS rfl hN.1 rfl (c_Nodes_depth l D g lo L κ T cnt d hN x (by omega)) (cwV 1 hts (gV m_404 m_256 m_257 m_56 m_258) rfl rfl rfl (by decide +kernel) ⟨Nat.le_of_ble_eq_true rfl, Nat.le_of_ble_eq_true rfl⟩) rfl hl.1 rfl (Nat.le_of_ble_eq_true rfl) d_Nodes_levels_24 ⟨Nat.le_of_ble_eq_true rfl, Nat.le_of_ble_eq_true rfl⟩ (fun H locs hM hS => ?_)
    have r6 := nCell_r (cnt := cnt) hN.2.2.2.1 2 x
    refine ia_sub hx hb d_Nodes_levels_27 ?_
    refine lv_iload_n hx hb d_Nodes_levels_28 rfl (lv_at hl 0 rfl) ?_
    refine ia_add hx hb d_Nodes_levels_29 ?_
    exact mw_iret hx hb hr hM hS hlocks d_Nodes_levels_30 (mwR_i (by unfold nLevels; rw [show kHold (nCell T cnt 0 x) = true by assumption]; rfl))
set_option maxHeartbeats 4000000 in
set_option maxRecDepth 100000 in
theorem c_Nodes_named (l : Launch) (D : va_G) (g : Nat → ClassId) (lo : Nat) (L : Nat → Nat) (κ : Nat → Option va_E) (T : Nat → Nat → Int) (cnt d : Nat) (hN : nds g L κ T cnt d) (j mo n sz : Nat) (b : Nat → Int) (hB : bxs g L κ d j mo n sz b) (i2 j2 mo2 n2 sz2 : Nat) (b2 : Nat → Int) (hB2 : bxs g L κ i2 j2 mo2 n2 sz2 b2) (x a3 a4 : Int) (hx0 : -1 ≤ x ∧ x ≤ 1000000) (ha3 : -1000000 ≤ a3 ∧ a3 ≤ 1000000) (ha4 : -1000000 ≤ a4 ∧ a4 ≤ 1000000) : Met l y_Nodes_named w_Nodes_named ({ frames := 2, cells := 0, slots := 0, locals := 46 }) (mwP D vwCl (tyL g) lo L κ [.ref (L 6), .int (iI x), .ref (L i2), .int (iI a3), .int (iI a4)]) (mwQ D vwCl lo (mwR (some (.int (iI (nNamed T cnt b sz x b2 sz2 a3 a4)))) L κ)) 0 0 (fun q => lo ≤ q) := by
  have hc0 := hN.2.2.1
  obtain ⟨hz1, hz2, hz3⟩ := hB.2.2.1
  obtain ⟨hy1, hy2, hy3⟩ := hB2.2.2.1
  refine Met.ofW (cc := b_Nodes_named) (maxL := 6) (ret := (Option.some Jvm.ClassFile.FieldType.int)) (by decide) rfl ?_
  intro p e s m args below meth c s₁ B hml hpre
  obtain ⟨hargs, hM, hK⟩ := hpre
  have hx := B.exec
  have hb := B.bytes
  have hr := B.returns
  have hts : ∀ w ∈ wA, w.before args s = true := fun w h => atoms_spec (ws := w_Nodes_named) B.pre w (List.mem_cons_of_mem _ h)
  have hown : s.vm.findClass R_Nodes = some m.cls := findClass_of_methodNamed B.named
  have hlocks := B.notSynchronized
  have hS : va_S (fun q => lo ≤ q) s.heap s.heap [] := va_S.rf
  have loop5 : ∀ (N : Nat) (k : Int), (cnt - k).toNat < N → (0 ≤ k ∧ k ≤ 1000001) → (nNamed T cnt b sz x b2 sz2 a3 a4 = nNamF T cnt b sz x b2 sz2 a3 a4 k) → ∀ (H : Heap) (locs : List Loc) (ls : Array Slot), mw D vwCl lo L κ H → va_S (fun q => lo ≤ q) s.heap H locs → lv_has ls 6 [(5, .int (iI k)), (0, .ref (L 6)), (1, .int (iI x)), (2, .ref (L i2)), (3, .int (iI a3)), (4, .int (iI a4))] → W p l e (headSpec w_Nodes_named ({ frames := 2, cells := 0, slots := 0, locals := 46 })).room s m args below meth c H locs 0 0 (MQ below (mwQ D vwCl lo (mwR (some (.int (iI (nNamed T cnt b sz x b2 sz2 a3 a4)))) L κ)) args s 0 0 (fun q => lo ≤ q)) (F0 m 5 ls []) := by
    intro N
    induction N with
    | zero => intro k hms; exact absurd hms (Nat.not_lt_zero _)
    | succ N ih =>
      intro k hms hk hres H locs ls hM hS hl
      refine lv_iload hx hb d_Nodes_named_5 (lv_at hl 0 rfl) ?_
      refine lv_aload_n hx hb d_Nodes_named_7 rfl (lv_at hl 1 rfl) ?_
      refine mw_get (ci := 1) (i := 6) (v := .int (iI cnt)) (C := R_Nodes) (T := T_Nodes) (N := 9) hx hb hts in_Nodes hown hK hM hN.1 rfl rfl 8 (by decide) (hts _ m_139) rfl d_Nodes_named_8 ?_
      refine ia_icmp_ge (a := k) (b := cnt) (tgt := 64) hx hb d_Nodes_named_11 (by decide) (by omega) (by omega) (fun c1 => ?_) (fun c1 => ?_)
      · refine lv_iconst (v := iI (-1)) hx hb d_Nodes_named_64 rfl ?_
        exact mw_iret hx hb hr hM hS hlocks d_Nodes_named_65 (mwR_i (by rw [hres, nNamF_end (by omega)]))
      · refine lv_aload_n hx hb d_Nodes_named_14 rfl (lv_at hl 1 rfl) ?_
        refine lv_iload hx hb d_Nodes_named_15 (lv_at hl 0 rfl) ?_
        refine mw_rdV (i := 6) (As := [.int (iI k)]) (rest := []) ⟨hx, hb, hml, hown, hts⟩ hK hM hS rfl hN.1 rfl (c_Nodes_parent l D g lo L κ T cnt d hN k (by omega)) (cwV 1 hts (gV m_331 m_280 m_281 m_56 m_282) rfl rfl rfl (by decide +kernel) ⟨Nat.le_of_ble_eq_true rfl, Nat.le_of_ble_eq_true rfl⟩) rfl hl.1 rfl (Nat.le_of_ble_eq_true rfl) d_Nodes_named_17 ⟨Nat.le_of_ble_eq_true rfl, Nat.le_of_ble_eq_true rfl⟩ (fun H locs hM hS => ?_)
        have r2 := nCell_r (cnt := cnt) hN.2.2.2.1 1 k
        refine lv_iload_n hx hb d_Nodes_named_20 rfl (lv_at hl 2 rfl) ?_
        refine ia_icmp_ne (a := nCell T cnt 1 k) (b := x) (tgt := 58) hx hb d_Nodes_named_21 (by decide) (by omega) (by omega) (fun c3 => ?_) (fun c3 => ?_)
        · refine lv_iinc (v := iI (k + 1)) (lv' := [(5, .int (iI (k + 1))), (0, .ref (L 6)), (1, .int (iI x)), (2, .ref (L i2)), (3, .int (iI a3)), (4, .int (iI a4))]) hx hb d_Nodes_named_58 hl (k := 0) rfl (iI_inc _ _) (by decide) rfl (fun ls hl => ?_)
          refine lv_goto (tgt := 5) hx hb d_Nodes_named_61 (by decide) ?_
          exact ih (k + 1) (by omega) (by omega) (by rw [hres, nNamF_step (by omega), if_neg (nHit_f (by first | exact Or.inl (by omega) | exact Or.inr (Or.inl (by omega)) | exact Or.inr (Or.inr (by assumption))))]) _ _ ls hM hS (lv_sub hl [0, 1, 2, 3, 4, 5] rfl)
        · refine lv_aload_n hx hb d_Nodes_named_24 rfl (lv_at hl 1 rfl) ?_
          refine lv_iload hx hb d_Nodes_named_25 (lv_at hl 0 rfl) ?_
          refine mw_rdV (i := 6) (As := [.int (iI k)]) (rest := []) ⟨hx, hb, hml, hown, hts⟩ hK hM hS rfl hN.1 rfl (c_Nodes_nameLength l D g lo L κ T cnt d hN k (by omega)) (cwV 1 hts (gV m_332 m_333 m_334 m_56 m_335) rfl rfl rfl (by decide +kernel) ⟨Nat.le_of_ble_eq_true rfl, Nat.le_of_ble_eq_true rfl⟩) rfl hl.1 rfl (Nat.le_of_ble_eq_true rfl) d_Nodes_named_27 ⟨Nat.le_of_ble_eq_true rfl, Nat.le_of_ble_eq_true rfl⟩ (fun H locs hM hS => ?_)
          have r4 := nCell_r (cnt := cnt) hN.2.2.2.1 4 k
          have r5 := nCell_r (cnt := cnt) hN.2.2.2.1 3 k
          have r6 := (show nNameLen T cnt k = nCell T cnt 4 k - 1 - nCell T cnt 3 k from rfl)
          refine lv_iload hx hb d_Nodes_named_30 (lv_at hl 5 rfl) ?_
          refine ia_icmp_ne (a := nNameLen T cnt k) (b := a4) (tgt := 58) hx hb d_Nodes_named_32 (by decide) (by omega) (by omega) (fun c7 => ?_) (fun c7 => ?_)
          · refine lv_iinc (v := iI (k + 1)) (lv' := [(5, .int (iI (k + 1))), (0, .ref (L 6)), (1, .int (iI x)), (2, .ref (L i2)), (3, .int (iI a3)), (4, .int (iI a4))]) hx hb d_Nodes_named_58 hl (k := 0) rfl (iI_inc _ _) (by decide) rfl (fun ls hl => ?_)
            refine lv_goto (tgt := 5) hx hb d_Nodes_named_61 (by decide) ?_
            exact ih (k + 1) (by omega) (by omega) (by rw [hres, nNamF_step (by omega), if_neg (nHit_f (by first | exact Or.inl (by omega) | exact Or.inr (Or.inl (by omega)) | exact Or.inr (Or.inr (by assumption))))]) _ _ ls hM hS (lv_sub hl [0, 1, 2, 3, 4, 5] rfl)
          · refine lv_aload_n hx hb d_Nodes_named_35 rfl (lv_at hl 1 rfl) ?_
            refine mw_get (ci := 1) (i := 6) (v := .ref (L d)) (C := R_Nodes) (T := T_Nodes) (N := 9) hx hb hts in_Nodes hown hK hM hN.1 rfl rfl 7 (by decide) (hts _ m_138) rfl d_Nodes_named_36 ?_
            refine lv_aload_n hx hb d_Nodes_named_39 rfl (lv_at hl 1 rfl) ?_
            refine lv_iload hx hb d_Nodes_named_40 (lv_at hl 0 rfl) ?_
            refine mw_rdV (i := 6) (As := [.int (iI k)]) (rest := [.ref (L d)]) ⟨hx, hb, hml, hown, hts⟩ hK hM hS rfl hN.1 rfl (c_Nodes_name l D g lo L κ T cnt d hN k (by omega)) (cwV 1 hts (gV m_336 m_337 m_338 m_56 m_339) rfl rfl rfl (by decide +kernel) ⟨Nat.le_of_ble_eq_true rfl, Nat.le_of_ble_eq_true rfl⟩) rfl hl.1 rfl (Nat.le_of_ble_eq_true rfl) d_Nodes_named_42 ⟨Nat.le_of_ble_eq_true rfl, Nat.le_of_ble_eq_true rfl⟩ (fun H locs hM hS => ?_)
            have r8 := nCell_r (cnt := cnt) hN.2.2.2.1 3 k
            refine lv_aload_n hx hb d_Nodes_named_45 rfl (lv_at hl 3 rfl) ?_
            refine lv_iload_n hx hb d_Nodes_named_46 rfl (lv_at hl 4 rfl) ?_
            refine lv_iload hx hb d_Nodes_named_47 (lv_at hl 5 rfl) ?_
            refine mw_rdV (i := d) (As := [.int (iI (nCell T cnt 3 k)), .ref (L i2), .int (iI a3), .int (iI a4)]) (rest := []) ⟨hx, hb, hml, hown, hts⟩ hK hM hS rfl hB.1 rfl (c_Bytes_equalsAt l D g lo L κ d j mo n sz b hB i2 j2 mo2 n2 sz2 b2 hB2 (nCell T cnt 3 k) a3 a4 (by omega) (by omega) (by omega)) (cwV 4 hts (gV m_340 m_341 m_342 m_52 m_343) rfl rfl rfl (by decide +kernel) ⟨Nat.le_of_ble_eq_true rfl, Nat.le_of_ble_eq_true rfl⟩) rfl hl.1 rfl (Nat.le_of_ble_eq_true rfl) d_Nodes_named_49 ⟨Nat.le_of_ble_eq_true rfl, Nat.le_of_ble_eq_true rfl⟩ (fun H locs hM hS => ?_)
            refine ia_ifz_eq (x := bEq b sz (nCell T cnt 3 k) b2 sz2 a3 a4 0) (tgt := 58) hx hb d_Nodes_named_52 (by decide) (fun c9 => ?_) (fun c9 => ?_)
            · refine lv_iinc (v := iI (k + 1)) (lv' := [(5, .int (iI (k + 1))), (0, .ref (L 6)), (1, .int (iI x)), (2, .ref (L i2)), (3, .int (iI a3)), (4, .int (iI a4))]) hx hb d_Nodes_named_58 hl (k := 0) rfl (iI_inc _ _) (by decide) rfl (fun ls hl => ?_)
              refine lv_goto (tgt := 5) hx hb d_Nodes_named_61 (by decide) ?_
              exact ih (k + 1) (by omega) (by omega) (by rw [hres, nNamF_step (by omega), if_neg (nHit_f (by first | exact Or.inl (by omega) | exact Or.inr (Or.inl (by omega)) | exact Or.inr (Or.inr (by assumption))))]) _ _ ls hM hS (lv_sub hl [0, 1, 2, 3, 4, 5] rfl)
            · refine lv_iload hx hb d_Nodes_named_55 (lv_at hl 0 rfl) ?_
              exact mw_iret hx hb hr hM hS hlocks d_Nodes_named_57 (mwR_i (by rw [hres, nNamF_step (by omega), if_pos (nHit_t (by omega) (by omega) (by assumption))]))
  obtain ⟨ls, hls, hl⟩ := mw_entry (m := m) [.ref (L 6), .int (iI x), .ref (L i2), .int (iI a3), .int (iI a4)] (n := 6) (Nat.le_of_ble_eq_true rfl) hargs
  refine W.eq hls ?_
  have hl : lv_has ls 6 [(0, .ref (L 6)), (1, .int (iI x)), (2, .ref (L i2)), (3, .int (iI a3)), (4, .int (iI a4))] := hl
  refine lv_iload_n hx hb d_Nodes_named_0 rfl (lv_at hl 1 rfl) ?_
  refine lv_iconst (v := iI (1)) hx hb d_Nodes_named_1 rfl ?_
  refine ia_add hx hb d_Nodes_named_2 ?_
  refine lv_istore (lv' := [(5, .int (iI (x + 1))), (0, .ref (L 6)), (1, .int (iI x)), (2, .ref (L i2)), (3, .int (iI a3)), (4, .int (iI a4))]) hx hb d_Nodes_named_3 hl (by decide) rfl (fun ls hl => ?_)
  exact loop5 _ (x + 1) (Nat.lt_succ_self _) (by omega) rfl _ _ ls hM hS (lv_sub hl [0, 1, 2, 3, 4, 5] rfl)
