set_option maxHeartbeats 4000000 in
set_option maxRecDepth 100000 in
theorem c_Bytes_size (l : Launch) (D : va_G) (g : Nat → ClassId) (lo : Nat) (L : Nat → Nat) (κ : Nat → Option va_E) (i j mo n sz : Nat) (b : Nat → Int) (hB : bxs g L κ i j mo n sz b) : Met l y_Bytes_size w_Bytes_size ({ frames := 0, cells := 0, slots := 0, locals := 0 }) (mwP D vwCl (tyL g) lo L κ [.ref (L i)]) (mwQ D vwCl lo (mwR (some (.int (iI sz))) L κ)) 0 0 (fun q => lo ≤ q) := by
  obtain ⟨hz1, hz2, hz3⟩ := hB.2.2.1
  refine Met.ofW (cc := b_Bytes_size) (maxL := 1) (ret := (Option.some Jvm.ClassFile.FieldType.int)) (by decide) rfl ?_
  intro p e s m args below meth c s₁ B hml hpre
  obtain ⟨hargs, hM, hK⟩ := hpre
  have hx := B.exec
  have hb := B.bytes
  have hr := B.returns
  have hts : ∀ w ∈ wA, w.before args s = true := fun w h => atoms_spec (ws := w_Bytes_size) B.pre w (List.mem_cons_of_mem _ h)
  have hown : s.vm.findClass R_Bytes = some m.cls := findClass_of_methodNamed B.named
  have hlocks := B.notSynchronized
  have hS : va_S (fun q => lo ≤ q) s.heap s.heap [] := va_S.rf
  obtain ⟨ls, hls, hl⟩ := mw_entry (m := m) [.ref (L i)] (n := 1) (Nat.le_of_ble_eq_true rfl) hargs
  refine W.eq hls ?_
  have hl : lv_has ls 1 [(0, .ref (L i))] := hl
  refine lv_aload_n hx hb d_Bytes_size_0 rfl (lv_at hl 0 rfl) ?_
  refine mw_get (ci := 0) (i := i) (v := .int (iI sz)) (C := R_Bytes) (T := T_Bytes) (N := 3) hx hb hts in_Bytes hown hK hM hB.1 rfl rfl 2 (by decide) (hts _ m_77) rfl d_Bytes_size_1 ?_
  exact mw_iret hx hb hr hM hS hlocks d_Bytes_size_4 (mwR_i (by rfl))
set_option maxHeartbeats 4000000 in
set_option maxRecDepth 100000 in
theorem c_Bytes_has (l : Launch) (D : va_G) (g : Nat → ClassId) (lo : Nat) (L : Nat → Nat) (κ : Nat → Option va_E) (i j mo n sz : Nat) (b : Nat → Int) (hB : bxs g L κ i j mo n sz b) (a1 a2 : Int) (ha1 : -2147483648 ≤ a1 ∧ a1 < 2147483648) (ha2 : -2147483648 ≤ a2 ∧ a2 < 2147483648) : Met l y_Bytes_has w_Bytes_has ({ frames := 0, cells := 0, slots := 0, locals := 0 }) (mwP D vwCl (tyL g) lo L κ [.ref (L i), .int (iI a1), .int (iI a2)]) (mwQ D vwCl lo (mwR (some (.int (iI (bI (bHas sz a1 a2))))) L κ)) 0 0 (fun q => lo ≤ q) := by
  obtain ⟨hz1, hz2, hz3⟩ := hB.2.2.1
  refine Met.ofW (cc := b_Bytes_has) (maxL := 3) (ret := (Option.some Jvm.ClassFile.FieldType.boolean)) (by decide) rfl ?_
  intro p e s m args below meth c s₁ B hml hpre
  obtain ⟨hargs, hM, hK⟩ := hpre
  have hx := B.exec
  have hb := B.bytes
  have hr := B.returns
  have hts : ∀ w ∈ wA, w.before args s = true := fun w h => atoms_spec (ws := w_Bytes_has) B.pre w (List.mem_cons_of_mem _ h)
  have hown : s.vm.findClass R_Bytes = some m.cls := findClass_of_methodNamed B.named
  have hlocks := B.notSynchronized
  have hS : va_S (fun q => lo ≤ q) s.heap s.heap [] := va_S.rf
  obtain ⟨ls, hls, hl⟩ := mw_entry (m := m) [.ref (L i), .int (iI a1), .int (iI a2)] (n := 3) (Nat.le_of_ble_eq_true rfl) hargs
  refine W.eq hls ?_
  have hl : lv_has ls 3 [(0, .ref (L i)), (1, .int (iI a1)), (2, .int (iI a2))] := hl
  refine lv_iload_n hx hb d_Bytes_has_0 rfl (lv_at hl 1 rfl) ?_
  refine ia_if_lt (a := a1) (tgt := 30) hx hb d_Bytes_has_1 (by decide) (by omega) (fun c1 => ?_) (fun c1 => ?_)
  · refine lv_iconst (v := iI (0)) hx hb d_Bytes_has_30 rfl ?_
    exact mw_zret (v := false) hx hb hr hM hS hlocks d_Bytes_has_31 (mwR_z (by exact bHas_f (by omega)))
  · refine lv_iload_n hx hb d_Bytes_has_4 rfl (lv_at hl 2 rfl) ?_
    refine ia_if_lt (a := a2) (tgt := 30) hx hb d_Bytes_has_5 (by decide) (by omega) (fun c2 => ?_) (fun c2 => ?_)
    · refine lv_iconst (v := iI (0)) hx hb d_Bytes_has_30 rfl ?_
      exact mw_zret (v := false) hx hb hr hM hS hlocks d_Bytes_has_31 (mwR_z (by exact bHas_f (by omega)))
    · refine lv_iload_n hx hb d_Bytes_has_8 rfl (lv_at hl 1 rfl) ?_
      refine lv_aload_n hx hb d_Bytes_has_9 rfl (lv_at hl 0 rfl) ?_
      refine mw_get (ci := 0) (i := i) (v := .int (iI sz)) (C := R_Bytes) (T := T_Bytes) (N := 3) hx hb hts in_Bytes hown hK hM hB.1 rfl rfl 2 (by decide) (hts _ m_77) rfl d_Bytes_has_10 ?_
      refine ia_icmp_gt (a := a1) (b := sz) (tgt := 30) hx hb d_Bytes_has_13 (by decide) (by omega) (by omega) (fun c3 => ?_) (fun c3 => ?_)
      · refine lv_iconst (v := iI (0)) hx hb d_Bytes_has_30 rfl ?_
        exact mw_zret (v := false) hx hb hr hM hS hlocks d_Bytes_has_31 (mwR_z (by exact bHas_f (by omega)))
      · refine lv_iload_n hx hb d_Bytes_has_16 rfl (lv_at hl 2 rfl) ?_
        refine lv_aload_n hx hb d_Bytes_has_17 rfl (lv_at hl 0 rfl) ?_
        refine mw_get (ci := 0) (i := i) (v := .int (iI sz)) (C := R_Bytes) (T := T_Bytes) (N := 3) hx hb hts in_Bytes hown hK hM hB.1 rfl rfl 2 (by decide) (hts _ m_77) rfl d_Bytes_has_18 ?_
        refine lv_iload_n hx hb d_Bytes_has_21 rfl (lv_at hl 1 rfl) ?_
        refine ia_sub hx hb d_Bytes_has_22 ?_
        refine ia_icmp_gt (a := a2) (b := sz - a1) (tgt := 30) hx hb d_Bytes_has_23 (by decide) (by omega) (by omega) (fun c4 => ?_) (fun c4 => ?_)
        · refine lv_iconst (v := iI (0)) hx hb d_Bytes_has_30 rfl ?_
          exact mw_zret (v := false) hx hb hr hM hS hlocks d_Bytes_has_31 (mwR_z (by exact bHas_f (by omega)))
        · refine lv_iconst (v := iI (1)) hx hb d_Bytes_has_26 rfl ?_
          refine lv_goto (tgt := 31) hx hb d_Bytes_has_27 (by decide) ?_
          exact mw_zret (v := true) hx hb hr hM hS hlocks d_Bytes_has_31 (mwR_z (by exact bHas_t (by omega)))
set_option maxHeartbeats 4000000 in
set_option maxRecDepth 100000 in
theorem c_Bytes_get (l : Launch) (D : va_G) (g : Nat → ClassId) (lo : Nat) (L : Nat → Nat) (κ : Nat → Option va_E) (i j mo n sz : Nat) (b : Nat → Int) (hB : bxs g L κ i j mo n sz b) (a : Int) (ha : -2147483648 ≤ a ∧ a < 2147483648) : Met l y_Bytes_get w_Bytes_get ({ frames := 0, cells := 0, slots := 0, locals := 0 }) (mwP D vwCl (tyL g) lo L κ [.ref (L i), .int (iI a)]) (mwQ D vwCl lo (mwR (some (.int (iI (bGet b sz a)))) L κ)) 0 0 (fun q => lo ≤ q) := by
  obtain ⟨hz1, hz2, hz3⟩ := hB.2.2.1
  refine Met.ofW (cc := b_Bytes_get) (maxL := 2) (ret := (Option.some Jvm.ClassFile.FieldType.int)) (by decide) rfl ?_
  intro p e s m args below meth c s₁ B hml hpre
  obtain ⟨hargs, hM, hK⟩ := hpre
  have hx := B.exec
  have hb := B.bytes
  have hr := B.returns
  have hts : ∀ w ∈ wA, w.before args s = true := fun w h => atoms_spec (ws := w_Bytes_get) B.pre w (List.mem_cons_of_mem _ h)
  have hown : s.vm.findClass R_Bytes = some m.cls := findClass_of_methodNamed B.named
  have hlocks := B.notSynchronized
  have hS : va_S (fun q => lo ≤ q) s.heap s.heap [] := va_S.rf
  obtain ⟨ls, hls, hl⟩ := mw_entry (m := m) [.ref (L i), .int (iI a)] (n := 2) (Nat.le_of_ble_eq_true rfl) hargs
  refine W.eq hls ?_
  have hl : lv_has ls 2 [(0, .ref (L i)), (1, .int (iI a))] := hl
  refine lv_iload_n hx hb d_Bytes_get_0 rfl (lv_at hl 1 rfl) ?_
  refine ia_if_lt (a := a) (tgt := 25) hx hb d_Bytes_get_1 (by decide) (by omega) (fun c1 => ?_) (fun c1 => ?_)
  · refine lv_iconst (v := iI (-1)) hx hb d_Bytes_get_25 rfl ?_
    exact mw_iret hx hb hr hM hS hlocks d_Bytes_get_26 (mwR_i (by rw [bGet_out (by omega)]))
  · refine lv_iload_n hx hb d_Bytes_get_4 rfl (lv_at hl 1 rfl) ?_
    refine lv_aload_n hx hb d_Bytes_get_5 rfl (lv_at hl 0 rfl) ?_
    refine mw_get (ci := 0) (i := i) (v := .int (iI sz)) (C := R_Bytes) (T := T_Bytes) (N := 3) hx hb hts in_Bytes hown hK hM hB.1 rfl rfl 2 (by decide) (hts _ m_77) rfl d_Bytes_get_6 ?_
    refine ia_icmp_ge (a := a) (b := sz) (tgt := 25) hx hb d_Bytes_get_9 (by decide) (by omega) (by omega) (fun c2 => ?_) (fun c2 => ?_)
    · refine lv_iconst (v := iI (-1)) hx hb d_Bytes_get_25 rfl ?_
      exact mw_iret hx hb hr hM hS hlocks d_Bytes_get_26 (mwR_i (by rw [bGet_out (by omega)]))
    · refine lv_aload_n hx hb d_Bytes_get_12 rfl (lv_at hl 0 rfl) ?_
      refine mw_get (ci := 0) (i := i) (v := .ref (L j)) (C := R_Bytes) (T := T_Bytes) (N := 3) hx hb hts in_Bytes hown hK hM hB.1 rfl rfl 1 (by decide) (hts _ m_76) rfl d_Bytes_get_13 ?_
      refine lv_iload_n hx hb d_Bytes_get_16 rfl (lv_at hl 1 rfl) ?_
      refine mw_bald (a := a) (i := j) hx hb hK hM 0 hB.2.1 rfl rfl (by omega) (by omega) d_Bytes_get_17 ?_
      have r3 := hB.2.2.2.1 (a : Int).toNat
      refine lv_sipush (v := iI (255)) hx hb d_Bytes_get_18 (by decide) ?_
      refine ia_andb hx hb d_Bytes_get_21 ?_
      refine lv_goto (tgt := 26) hx hb d_Bytes_get_22 (by decide) ?_
      exact mw_iret hx hb hr hM hS hlocks d_Bytes_get_26 (mwR_i (by rw [bGet_in (by omega) (by omega)]; omega))
set_option maxHeartbeats 4000000 in
set_option maxRecDepth 100000 in
theorem c_Bytes_firstZero (l : Launch) (D : va_G) (g : Nat → ClassId) (lo : Nat) (L : Nat → Nat) (κ : Nat → Option va_E) (i j mo n sz : Nat) (b : Nat → Int) (hB : bxs g L κ i j mo n sz b) (a1 a2 : Int) (ha1 : -2147483648 ≤ a1 ∧ a1 < 2147483648) (ha2 : -2147483648 ≤ a2 ∧ a2 < 2147483648) : Met l y_Bytes_firstZero w_Bytes_firstZero ({ frames := 1, cells := 0, slots := 0, locals := 21 }) (mwP D vwCl (tyL g) lo L κ [.ref (L i), .int (iI a1), .int (iI a2)]) (mwQ D vwCl lo (mwR (some (.int (iI (bFz b sz a1 a2)))) L κ)) 0 0 (fun q => lo ≤ q) := by
  obtain ⟨hz1, hz2, hz3⟩ := hB.2.2.1
  refine Met.ofW (cc := b_Bytes_firstZero) (maxL := 4) (ret := (Option.some Jvm.ClassFile.FieldType.int)) (by decide) rfl ?_
  intro p e s m args below meth c s₁ B hml hpre
  obtain ⟨hargs, hM, hK⟩ := hpre
  have hx := B.exec
  have hb := B.bytes
  have hr := B.returns
  have hts : ∀ w ∈ wA, w.before args s = true := fun w h => atoms_spec (ws := w_Bytes_firstZero) B.pre w (List.mem_cons_of_mem _ h)
  have hown : s.vm.findClass R_Bytes = some m.cls := findClass_of_methodNamed B.named
  have hlocks := B.notSynchronized
  have hS : va_S (fun q => lo ≤ q) s.heap s.heap [] := va_S.rf
  have loop2 : ∀ (N : Nat) (k : Int), (a2 - k).toNat < N → (-2147483648 ≤ k ∧ k < 2147483648) → (bFz b sz a1 a2 = bFz b sz k a2) → ∀ (H : Heap) (locs : List Loc) (ls : Array Slot), mw D vwCl lo L κ H → va_S (fun q => lo ≤ q) s.heap H locs → lv_has ls 4 [(3, .int (iI k)), (0, .ref (L i)), (1, .int (iI a1)), (2, .int (iI a2))] → W p l e (headSpec w_Bytes_firstZero ({ frames := 1, cells := 0, slots := 0, locals := 21 })).room s m args below meth c H locs 0 0 (MQ below (mwQ D vwCl lo (mwR (some (.int (iI (bFz b sz a1 a2)))) L κ)) args s 0 0 (fun q => lo ≤ q)) (F0 m 2 ls []) := by
    intro N
    induction N with
    | zero => intro k hms; exact absurd hms (Nat.not_lt_zero _)
    | succ N ih =>
      intro k hms hk hres H locs ls hM hS hl
      refine lv_iload_n hx hb d_Bytes_firstZero_2 rfl (lv_at hl 0 rfl) ?_
      refine lv_iload_n hx hb d_Bytes_firstZero_3 rfl (lv_at hl 3 rfl) ?_
      refine ia_icmp_ge (a := k) (b := a2) (tgt := 23) hx hb d_Bytes_firstZero_4 (by decide) (by omega) (by omega) (fun c1 => ?_) (fun c1 => ?_)
      · refine lv_iconst (v := iI (-1)) hx hb d_Bytes_firstZero_23 rfl ?_
        exact mw_iret hx hb hr hM hS hlocks d_Bytes_firstZero_24 (mwR_i (by rw [hres, bFz_end (by omega)]))
      · refine lv_aload_n hx hb d_Bytes_firstZero_7 rfl (lv_at hl 1 rfl) ?_
        refine lv_iload_n hx hb d_Bytes_firstZero_8 rfl (lv_at hl 0 rfl) ?_
        refine mw_rdV (i := i) (As := [.int (iI k)]) (rest := []) ⟨hx, hb, hml, hown, hts⟩ hK hM hS rfl hB.1 rfl (c_Bytes_get l D g lo L κ i j mo n sz b hB k (by omega)) (cwV 1 hts (gV m_250 m_251 m_252 m_52 m_253) rfl rfl rfl (by decide +kernel) ⟨Nat.le_of_ble_eq_true rfl, Nat.le_of_ble_eq_true rfl⟩) rfl hl.1 rfl (Nat.le_of_ble_eq_true rfl) d_Bytes_firstZero_9 ⟨Nat.le_of_ble_eq_true rfl, Nat.le_of_ble_eq_true rfl⟩ (fun H locs hM hS => ?_)
        have r2 := bGet_r (sz := sz) hB.2.2.2.1 k
        refine ia_if_ne (a := bGet b sz k) (tgt := 17) hx hb d_Bytes_firstZero_12 (by decide) (by omega) (fun c3 => ?_) (fun c3 => ?_)
        · refine lv_iinc (v := iI (k + 1)) (lv' := [(3, .int (iI (k + 1))), (0, .ref (L i)), (1, .int (iI a1)), (2, .int (iI a2))]) hx hb d_Bytes_firstZero_17 hl (k := 0) rfl (iI_inc _ _) (by decide) rfl (fun ls hl => ?_)
          refine lv_goto (tgt := 2) hx hb d_Bytes_firstZero_20 (by decide) ?_
          exact ih (k + 1) (by omega) (by omega) (by rw [hres, bFz_step (by omega), if_neg (by omega)]) _ _ ls hM hS (lv_sub hl [0, 1, 2, 3] rfl)
        · refine lv_iload_n hx hb d_Bytes_firstZero_15 rfl (lv_at hl 0 rfl) ?_
          exact mw_iret hx hb hr hM hS hlocks d_Bytes_firstZero_16 (mwR_i (by rw [hres, bFz_step (by omega), if_pos (by omega)]))
  obtain ⟨ls, hls, hl⟩ := mw_entry (m := m) [.ref (L i), .int (iI a1), .int (iI a2)] (n := 4) (Nat.le_of_ble_eq_true rfl) hargs
  refine W.eq hls ?_
  have hl : lv_has ls 4 [(0, .ref (L i)), (1, .int (iI a1)), (2, .int (iI a2))] := hl
  refine lv_iload_n hx hb d_Bytes_firstZero_0 rfl (lv_at hl 1 rfl) ?_
  refine lv_istore_n (lv' := [(3, .int (iI a1)), (0, .ref (L i)), (1, .int (iI a1)), (2, .int (iI a2))]) hx hb d_Bytes_firstZero_1 rfl hl (by decide) rfl (fun ls hl => ?_)
  exact loop2 _ a1 (Nat.lt_succ_self _) ha1 rfl _ _ ls hM hS (lv_sub hl [0, 1, 2, 3] rfl)
set_option maxHeartbeats 4000000 in
set_option maxRecDepth 100000 in
theorem c_Bytes_numberAt (l : Launch) (D : va_G) (g : Nat → ClassId) (lo : Nat) (L : Nat → Nat) (κ : Nat → Option va_E) (i j mo n sz : Nat) (b : Nat → Int) (hB : bxs g L κ i j mo n sz b) (a1 a2 : Int) (ha1 : -1000000 ≤ a1 ∧ a1 ≤ 1000000) (ha2 : -1000000 ≤ a2 ∧ a2 ≤ 1000000) : Met l y_Bytes_numberAt w_Bytes_numberAt ({ frames := 1, cells := 0, slots := 0, locals := 21 }) (mwP D vwCl (tyL g) lo L κ [.ref (L i), .int (iI a1), .int (iI a2)]) (mwQ D vwCl lo (mwR (some (.long (lI (bNum b sz a1 (a2 - 1) 0)))) L κ)) 0 0 (fun q => lo ≤ q) := by
  obtain ⟨hz1, hz2, hz3⟩ := hB.2.2.1
  refine Met.ofW (cc := b_Bytes_numberAt) (maxL := 6) (ret := (Option.some Jvm.ClassFile.FieldType.long)) (by decide) rfl ?_
  intro p e s m args below meth c s₁ B hml hpre
  obtain ⟨hargs, hM, hK⟩ := hpre
  have hx := B.exec
  have hb := B.bytes
  have hr := B.returns
  have hts : ∀ w ∈ wA, w.before args s = true := fun w h => atoms_spec (ws := w_Bytes_numberAt) B.pre w (List.mem_cons_of_mem _ h)
  have hown : s.vm.findClass R_Bytes = some m.cls := findClass_of_methodNamed B.named
  have hlocks := B.notSynchronized
  have hS : va_S (fun q => lo ≤ q) s.heap s.heap [] := va_S.rf
  have loop7 : ∀ (N : Nat) (k : Int) (acc : Int), (k + 1).toNat < N → (-1000001 ≤ k ∧ k ≤ 1000000) → (bNum b sz a1 (a2 - 1) 0 = bNum b sz a1 k acc) → ∀ (H : Heap) (locs : List Loc) (ls : Array Slot), mw D vwCl lo L κ H → va_S (fun q => lo ≤ q) s.heap H locs → lv_has ls 6 [(5, .int (iI k)), (3, .long (lI acc)), (0, .ref (L i)), (1, .int (iI a1)), (2, .int (iI a2))] → W p l e (headSpec w_Bytes_numberAt ({ frames := 1, cells := 0, slots := 0, locals := 21 })).room s m args below meth c H locs 0 0 (MQ below (mwQ D vwCl lo (mwR (some (.long (lI (bNum b sz a1 (a2 - 1) 0)))) L κ)) args s 0 0 (fun q => lo ≤ q)) (F0 m 7 ls []) := by
    intro N
    induction N with
    | zero => intro k acc hms; exact absurd hms (Nat.not_lt_zero _)
    | succ N ih =>
      intro k acc hms hk hres H locs ls hM hS hl
      refine lv_iload hx hb d_Bytes_numberAt_7 (lv_at hl 0 rfl) ?_
      refine ia_if_lt (a := k) (tgt := 37) hx hb d_Bytes_numberAt_9 (by decide) (by omega) (fun c1 => ?_) (fun c1 => ?_)
      · refine lv_lload_n hx hb d_Bytes_numberAt_37 rfl (lv_at hl 1 rfl) ?_
        exact mw_lret hx hb hr hM hS hlocks d_Bytes_numberAt_38 (mwR_l (by rw [hres, bNum_end (by omega)]))
      · refine lv_lload_n hx hb d_Bytes_numberAt_12 rfl (lv_at hl 1 rfl) ?_
        refine lv_bipush (v := iI (8)) hx hb d_Bytes_numberAt_13 (by decide) ?_
        refine ia_lshl8 hx hb d_Bytes_numberAt_15 ?_
        refine lv_aload_n hx hb d_Bytes_numberAt_16 rfl (lv_at hl 2 rfl) ?_
        refine lv_iload_n hx hb d_Bytes_numberAt_17 rfl (lv_at hl 3 rfl) ?_
        refine lv_iload hx hb d_Bytes_numberAt_18 (lv_at hl 0 rfl) ?_
        refine ia_add hx hb d_Bytes_numberAt_20 ?_
        refine mw_rdV (i := i) (As := [.int (iI (a1 + k))]) (rest := [.long (lI (acc * 256))]) ⟨hx, hb, hml, hown, hts⟩ hK hM hS rfl hB.1 rfl (c_Bytes_get l D g lo L κ i j mo n sz b hB (a1 + k) (by omega)) (cwV 1 hts (gV m_250 m_251 m_252 m_52 m_253) rfl rfl rfl (by decide +kernel) ⟨Nat.le_of_ble_eq_true rfl, Nat.le_of_ble_eq_true rfl⟩) rfl hl.1 rfl (Nat.le_of_ble_eq_true rfl) d_Bytes_numberAt_21 ⟨Nat.le_of_ble_eq_true rfl, Nat.le_of_ble_eq_true rfl⟩ (fun H locs hM hS => ?_)
        have r2 := bGet_r (sz := sz) hB.2.2.2.1 (a1 + k)
        refine lv_sipush (v := iI (255)) hx hb d_Bytes_numberAt_24 (by decide) ?_
        refine ia_and255 hx hb d_Bytes_numberAt_27 ?_
        refine ia_i2l hx hb (by omega) d_Bytes_numberAt_28 ?_
        refine ia_lor8 hx hb (by omega) d_Bytes_numberAt_29 ?_
        refine lv_lstore_n (lv' := [(3, .long (lI (acc * 256 + ((bGet b sz (a1 + k)) % 256)))), (5, .int (iI k)), (0, .ref (L i)), (1, .int (iI a1)), (2, .int (iI a2))]) hx hb d_Bytes_numberAt_30 rfl hl (by decide) rfl (fun ls hl => ?_)
        refine lv_iinc (v := iI (k + (-1))) (lv' := [(5, .int (iI (k + (-1)))), (3, .long (lI (acc * 256 + ((bGet b sz (a1 + k)) % 256)))), (0, .ref (L i)), (1, .int (iI a1)), (2, .int (iI a2))]) hx hb d_Bytes_numberAt_31 hl (k := 1) rfl (iI_inc _ _) (by decide) rfl (fun ls hl => ?_)
        refine lv_goto (tgt := 7) hx hb d_Bytes_numberAt_34 (by decide) ?_
        exact ih (k + (-1)) (acc * 256 + (bGet b sz (a1 + k) % 256)) (by omega) (by omega) (by rw [hres, bNum_step (by omega)]) _ _ ls hM hS (lv_sub hl [0, 1, 2, 3, 4] rfl)
  obtain ⟨ls, hls, hl⟩ := mw_entry (m := m) [.ref (L i), .int (iI a1), .int (iI a2)] (n := 6) (Nat.le_of_ble_eq_true rfl) hargs
  refine W.eq hls ?_
  have hl : lv_has ls 6 [(0, .ref (L i)), (1, .int (iI a1)), (2, .int (iI a2))] := hl
  refine lv_lconst (v := lI (0)) hx hb d_Bytes_numberAt_0 (by decide) ?_
  refine lv_lstore_n (lv' := [(3, .long (lI 0)), (0, .ref (L i)), (1, .int (iI a1)), (2, .int (iI a2))]) hx hb d_Bytes_numberAt_1 rfl hl (by decide) rfl (fun ls hl => ?_)
  refine lv_iload_n hx hb d_Bytes_numberAt_2 rfl (lv_at hl 3 rfl) ?_
  refine lv_iconst (v := iI (1)) hx hb d_Bytes_numberAt_3 rfl ?_
  refine ia_sub hx hb d_Bytes_numberAt_4 ?_
  refine lv_istore (lv' := [(5, .int (iI (a2 - 1))), (3, .long (lI 0)), (0, .ref (L i)), (1, .int (iI a1)), (2, .int (iI a2))]) hx hb d_Bytes_numberAt_5 hl (by decide) rfl (fun ls hl => ?_)
  exact loop7 _ (a2 - 1) 0 (Nat.lt_succ_self _) (by omega) rfl _ _ ls hM hS (lv_sub hl [0, 1, 2, 3, 4] rfl)
set_option maxHeartbeats 4000000 in
set_option maxRecDepth 100000 in
theorem c_Bytes_digits (l : Launch) (D : va_G) (g : Nat → ClassId) (lo : Nat) (L : Nat → Nat) (κ : Nat → Option va_E) (a : Int) (ha : -2147483648 ≤ a ∧ a < 2147483648) : Met l y_Bytes_digits w_Bytes_digits ({ frames := 0, cells := 0, slots := 0, locals := 0 }) (mwP D vwCl (tyL g) lo L κ [.int (iI a)]) (mwQ D vwCl lo (mwR (some (.int (iI (bDigits a)))) L κ)) 0 0 (fun q => lo ≤ q) := by
  refine Met.ofW (cc := b_Bytes_digits) (maxL := 1) (ret := (Option.some Jvm.ClassFile.FieldType.int)) (by decide) rfl ?_
  intro p e s m args below meth c s₁ B hml hpre
  obtain ⟨hargs, hM, hK⟩ := hpre
  have hx := B.exec
  have hb := B.bytes
  have hr := B.returns
  have hts : ∀ w ∈ wA, w.before args s = true := fun w h => atoms_spec (ws := w_Bytes_digits) B.pre w (List.mem_cons_of_mem _ h)
  have hown : s.vm.findClass R_Bytes = some m.cls := findClass_of_methodNamed B.named
  have hlocks := B.notSynchronized
  have hS : va_S (fun q => lo ≤ q) s.heap s.heap [] := va_S.rf
  obtain ⟨ls, hls, hl⟩ := mw_entry (m := m) [.int (iI a)] (n := 1) (Nat.le_of_ble_eq_true rfl) hargs
  refine W.eq hls ?_
  have hl : lv_has ls 1 [(0, .int (iI a))] := hl
  refine lv_iload_n hx hb d_Bytes_digits_0 rfl (lv_at hl 0 rfl) ?_
  refine lv_bipush (v := iI (10)) hx hb d_Bytes_digits_1 (by decide) ?_
  refine ia_icmp_ge (a := a) (b := 10) (tgt := 10) hx hb d_Bytes_digits_3 (by decide) (by omega) (by omega) (fun c1 => ?_) (fun c1 => ?_)
  · refine lv_iload_n hx hb d_Bytes_digits_10 rfl (lv_at hl 0 rfl) ?_
    refine lv_bipush (v := iI (100)) hx hb d_Bytes_digits_11 (by decide) ?_
    refine ia_icmp_ge (a := a) (b := 100) (tgt := 20) hx hb d_Bytes_digits_13 (by decide) (by omega) (by omega) (fun c2 => ?_) (fun c2 => ?_)
    · refine lv_iload_n hx hb d_Bytes_digits_20 rfl (lv_at hl 0 rfl) ?_
      refine lv_sipush (v := iI (1000)) hx hb d_Bytes_digits_21 (by decide) ?_
      refine ia_icmp_ge (a := a) (b := 1000) (tgt := 31) hx hb d_Bytes_digits_24 (by decide) (by omega) (by omega) (fun c3 => ?_) (fun c3 => ?_)
      · refine lv_iconst (v := iI (4)) hx hb d_Bytes_digits_31 rfl ?_
        exact mw_iret hx hb hr hM hS hlocks d_Bytes_digits_32 (mwR_i (by unfold bDigits; (repeat split) <;> omega))
      · refine lv_iconst (v := iI (3)) hx hb d_Bytes_digits_27 rfl ?_
        refine lv_goto (tgt := 32) hx hb d_Bytes_digits_28 (by decide) ?_
        exact mw_iret hx hb hr hM hS hlocks d_Bytes_digits_32 (mwR_i (by unfold bDigits; (repeat split) <;> omega))
    · refine lv_iconst (v := iI (2)) hx hb d_Bytes_digits_16 rfl ?_
      refine lv_goto (tgt := 32) hx hb d_Bytes_digits_17 (by decide) ?_
      exact mw_iret hx hb hr hM hS hlocks d_Bytes_digits_32 (mwR_i (by unfold bDigits; (repeat split) <;> omega))
  · refine lv_iconst (v := iI (1)) hx hb d_Bytes_digits_6 rfl ?_
    refine lv_goto (tgt := 32) hx hb d_Bytes_digits_7 (by decide) ?_
    exact mw_iret hx hb hr hM hS hlocks d_Bytes_digits_32 (mwR_i (by unfold bDigits; (repeat split) <;> omega))
set_option maxHeartbeats 4000000 in
set_option maxRecDepth 100000 in
theorem c_Bytes_hasDecimal (l : Launch) (D : va_G) (g : Nat → ClassId) (lo : Nat) (L : Nat → Nat) (κ : Nat → Option va_E) (i j mo n sz : Nat) (b : Nat → Int) (hB : bxs g L κ i j mo n sz b) (a1 a2 a3 : Int) (ha1 : -1000000 ≤ a1 ∧ a1 ≤ 1000000) (ha2 : -1000000 ≤ a2 ∧ a2 ≤ 1000000) (ha3 : 0 ≤ a3 ∧ a3 < 2147483648) : Met l y_Bytes_hasDecimal w_Bytes_hasDecimal ({ frames := 1, cells := 0, slots := 0, locals := 21 }) (mwP D vwCl (tyL g) lo L κ [.ref (L i), .int (iI a1), .int (iI a2), .int (iI a3)]) (mwQ D vwCl lo (mwR (some (.int (iI (bI (bDec b sz a1 a2 a3))))) L κ)) 0 0 (fun q => lo ≤ q) := by
  obtain ⟨hz1, hz2, hz3⟩ := hB.2.2.1
  refine Met.ofW (cc := b_Bytes_hasDecimal) (maxL := 6) (ret := (Option.some Jvm.ClassFile.FieldType.boolean)) (by decide) rfl ?_
  intro p e s m args below meth c s₁ B hml hpre
  obtain ⟨hargs, hM, hK⟩ := hpre
  have hx := B.exec
  have hb := B.bytes
  have hr := B.returns
  have hts : ∀ w ∈ wA, w.before args s = true := fun w h => atoms_spec (ws := w_Bytes_hasDecimal) B.pre w (List.mem_cons_of_mem _ h)
  have hown : s.vm.findClass R_Bytes = some m.cls := findClass_of_methodNamed B.named
  have hlocks := B.notSynchronized
  have hS : va_S (fun q => lo ≤ q) s.heap s.heap [] := va_S.rf
  have loop8 : ∀ (N : Nat) (k : Int) (v : Int), (k + 1).toNat < N → (-1000001 ≤ k ∧ k ≤ 1000000) → (0 ≤ v ∧ v < 2147483648) → (bHd b sz a1 (a2 - 1) a3 = bHd b sz a1 k v) → ∀ (H : Heap) (locs : List Loc) (ls : Array Slot), mw D vwCl lo L κ H → va_S (fun q => lo ≤ q) s.heap H locs → lv_has ls 6 [(5, .int (iI k)), (4, .int (iI v)), (0, .ref (L i)), (1, .int (iI a1)), (2, .int (iI a2)), (3, .int (iI a3))] → W p l e (headSpec w_Bytes_hasDecimal ({ frames := 1, cells := 0, slots := 0, locals := 21 })).room s m args below meth c H locs 0 0 (MQ below (mwQ D vwCl lo (mwR (some (.int (iI (bI (bDec b sz a1 a2 a3))))) L κ)) args s 0 0 (fun q => lo ≤ q)) (F0 m 8 ls []) := by
    intro N
    induction N with
    | zero => intro k v hms; exact absurd hms (Nat.not_lt_zero _)
    | succ N ih =>
      intro k v hms hk hv hres H locs ls hM hS hl
      refine lv_iload hx hb d_Bytes_hasDecimal_8 (lv_at hl 0 rfl) ?_
      refine ia_if_lt (a := k) (tgt := 47) hx hb d_Bytes_hasDecimal_10 (by decide) (by omega) (fun c1 => ?_) (fun c1 => ?_)
      · refine lv_iload_n hx hb d_Bytes_hasDecimal_47 rfl (lv_at hl 4 rfl) ?_
        refine lv_iload_n hx hb d_Bytes_hasDecimal_48 rfl (lv_at hl 5 rfl) ?_
        refine mw_rdS (As := [.int (iI a3)]) (rest := [.int (iI a2)]) ⟨hx, hb, hml, hown, hts⟩ hK hM hS (c_Bytes_digits l D g lo L κ a3 (by omega)) (cwS 1 hts (gS m_324 m_325 m_52 m_326) rfl rfl rfl (by decide +kernel) ⟨Nat.le_of_ble_eq_true rfl, Nat.le_of_ble_eq_true rfl⟩) rfl hl.1 rfl (Nat.le_of_ble_eq_true rfl) d_Bytes_hasDecimal_49 ⟨Nat.le_of_ble_eq_true rfl, Nat.le_of_ble_eq_true rfl⟩ (fun H locs hM hS => ?_)
        have r2 := bDigits_r a3
        refine ia_icmp_ne (a := a2) (b := bDigits a3) (tgt := 59) hx hb d_Bytes_hasDecimal_52 (by decide) (by omega) (by omega) (fun c3 => ?_) (fun c3 => ?_)
        · refine lv_iconst (v := iI (0)) hx hb d_Bytes_hasDecimal_59 rfl ?_
          exact mw_zret (v := false) hx hb hr hM hS hlocks d_Bytes_hasDecimal_60 (mwR_z (by unfold bDec; rw [hres, bHd_end (by omega), decide_eq_false (by omega)]; rfl))
        · refine lv_iconst (v := iI (1)) hx hb d_Bytes_hasDecimal_55 rfl ?_
          refine lv_goto (tgt := 60) hx hb d_Bytes_hasDecimal_56 (by decide) ?_
          exact mw_zret (v := true) hx hb hr hM hS hlocks d_Bytes_hasDecimal_60 (mwR_z (by unfold bDec; rw [hres, bHd_end (by omega), decide_eq_true (by omega)]; rfl))
      · refine lv_aload_n hx hb d_Bytes_hasDecimal_13 rfl (lv_at hl 2 rfl) ?_
        refine lv_iload_n hx hb d_Bytes_hasDecimal_14 rfl (lv_at hl 3 rfl) ?_
        refine lv_iload hx hb d_Bytes_hasDecimal_15 (lv_at hl 0 rfl) ?_
        refine ia_add hx hb d_Bytes_hasDecimal_17 ?_
        refine mw_rdV (i := i) (As := [.int (iI (a1 + k))]) (rest := []) ⟨hx, hb, hml, hown, hts⟩ hK hM hS rfl hB.1 rfl (c_Bytes_get l D g lo L κ i j mo n sz b hB (a1 + k) (by omega)) (cwV 1 hts (gV m_250 m_251 m_252 m_52 m_253) rfl rfl rfl (by decide +kernel) ⟨Nat.le_of_ble_eq_true rfl, Nat.le_of_ble_eq_true rfl⟩) rfl hl.1 rfl (Nat.le_of_ble_eq_true rfl) d_Bytes_hasDecimal_18 ⟨Nat.le_of_ble_eq_true rfl, Nat.le_of_ble_eq_true rfl⟩ (fun H locs hM hS => ?_)
        have r4 := bGet_r (sz := sz) hB.2.2.2.1 (a1 + k)
        refine lv_bipush (v := iI (48)) hx hb d_Bytes_hasDecimal_21 (by decide) ?_
        refine lv_iload hx hb d_Bytes_hasDecimal_23 (lv_at hl 1 rfl) ?_
        refine lv_bipush (v := iI (10)) hx hb d_Bytes_hasDecimal_25 (by decide) ?_
        refine ia_rem hx hb (by omega) (by omega) d_Bytes_hasDecimal_27 ?_
        refine ia_add hx hb d_Bytes_hasDecimal_28 ?_
        refine ia_icmp_eq (a := bGet b sz (a1 + k)) (b := 48 + (v % 10)) (tgt := 34) hx hb d_Bytes_hasDecimal_29 (by decide) (by omega) (by omega) (fun c5 => ?_) (fun c5 => ?_)
        · refine lv_iload hx hb d_Bytes_hasDecimal_34 (lv_at hl 1 rfl) ?_
          refine lv_bipush (v := iI (10)) hx hb d_Bytes_hasDecimal_36 (by decide) ?_
          refine ia_div hx hb (by omega) (by omega) d_Bytes_hasDecimal_38 ?_
          refine lv_istore (lv' := [(4, .int (iI (v / 10))), (5, .int (iI k)), (0, .ref (L i)), (1, .int (iI a1)), (2, .int (iI a2)), (3, .int (iI a3))]) hx hb d_Bytes_hasDecimal_39 hl (by decide) rfl (fun ls hl => ?_)
          refine lv_iinc (v := iI (k + (-1))) (lv' := [(5, .int (iI (k + (-1)))), (4, .int (iI (v / 10))), (0, .ref (L i)), (1, .int (iI a1)), (2, .int (iI a2)), (3, .int (iI a3))]) hx hb d_Bytes_hasDecimal_41 hl (k := 1) rfl (iI_inc _ _) (by decide) rfl (fun ls hl => ?_)
          refine lv_goto (tgt := 8) hx hb d_Bytes_hasDecimal_44 (by decide) ?_
          exact ih (k + (-1)) (v / 10) (by omega) (by omega) (by omega) (by rw [hres, bHd_step (by omega), if_pos (by omega)]) _ _ ls hM hS (lv_sub hl [0, 1, 2, 3, 4, 5] rfl)
        · refine lv_iconst (v := iI (0)) hx hb d_Bytes_hasDecimal_32 rfl ?_
          exact mw_zret (v := false) hx hb hr hM hS hlocks d_Bytes_hasDecimal_33 (mwR_z (by unfold bDec; rw [hres, bHd_step (by omega), if_neg (by omega)]; rfl))
  obtain ⟨ls, hls, hl⟩ := mw_entry (m := m) [.ref (L i), .int (iI a1), .int (iI a2), .int (iI a3)] (n := 6) (Nat.le_of_ble_eq_true rfl) hargs
  refine W.eq hls ?_
  have hl : lv_has ls 6 [(0, .ref (L i)), (1, .int (iI a1)), (2, .int (iI a2)), (3, .int (iI a3))] := hl
  refine lv_iload_n hx hb d_Bytes_hasDecimal_0 rfl (lv_at hl 3 rfl) ?_
  refine lv_istore (lv' := [(4, .int (iI a3)), (0, .ref (L i)), (1, .int (iI a1)), (2, .int (iI a2)), (3, .int (iI a3))]) hx hb d_Bytes_hasDecimal_1 hl (by decide) rfl (fun ls hl => ?_)
  refine lv_iload_n hx hb d_Bytes_hasDecimal_3 rfl (lv_at hl 3 rfl) ?_
  refine lv_iconst (v := iI (1)) hx hb d_Bytes_hasDecimal_4 rfl ?_
  refine ia_sub hx hb d_Bytes_hasDecimal_5 ?_
  refine lv_istore (lv' := [(5, .int (iI (a2 - 1))), (4, .int (iI a3)), (0, .ref (L i)), (1, .int (iI a1)), (2, .int (iI a2)), (3, .int (iI a3))]) hx hb d_Bytes_hasDecimal_6 hl (by decide) rfl (fun ls hl => ?_)
  exact loop8 _ (a2 - 1) a3 (Nat.lt_succ_self _) (by omega) (by omega) rfl _ _ ls hM hS (lv_sub hl [0, 1, 2, 3, 4, 5] rfl)
set_option maxHeartbeats 4000000 in
set_option maxRecDepth 100000 in
theorem c_Bytes_equalsAt (l : Launch) (D : va_G) (g : Nat → ClassId) (lo : Nat) (L : Nat → Nat) (κ : Nat → Option va_E) (i j mo n sz : Nat) (b : Nat → Int) (hB : bxs g L κ i j mo n sz b) (i2 j2 mo2 n2 sz2 : Nat) (b2 : Nat → Int) (hB2 : bxs g L κ i2 j2 mo2 n2 sz2 b2) (a1 a3 a4 : Int) (ha1 : -1000000 ≤ a1 ∧ a1 ≤ 1000000) (ha3 : -1000000 ≤ a3 ∧ a3 ≤ 1000000) (ha4 : -1000000 ≤ a4 ∧ a4 ≤ 1000000) : Met l y_Bytes_equalsAt w_Bytes_equalsAt ({ frames := 1, cells := 0, slots := 0, locals := 21 }) (mwP D vwCl (tyL g) lo L κ [.ref (L i), .int (iI a1), .ref (L i2), .int (iI a3), .int (iI a4)]) (mwQ D vwCl lo (mwR (some (.int (iI (bI (bEq b sz a1 b2 sz2 a3 a4 0))))) L κ)) 0 0 (fun q => lo ≤ q) := by
  obtain ⟨hz1, hz2, hz3⟩ := hB.2.2.1
  obtain ⟨hy1, hy2, hy3⟩ := hB2.2.2.1
  refine Met.ofW (cc := b_Bytes_equalsAt) (maxL := 6) (ret := (Option.some Jvm.ClassFile.FieldType.boolean)) (by decide) rfl ?_
  intro p e s m args below meth c s₁ B hml hpre
  obtain ⟨hargs, hM, hK⟩ := hpre
  have hx := B.exec
  have hb := B.bytes
  have hr := B.returns
  have hts : ∀ w ∈ wA, w.before args s = true := fun w h => atoms_spec (ws := w_Bytes_equalsAt) B.pre w (List.mem_cons_of_mem _ h)
  have hown : s.vm.findClass R_Bytes = some m.cls := findClass_of_methodNamed B.named
  have hlocks := B.notSynchronized
  have hS : va_S (fun q => lo ≤ q) s.heap s.heap [] := va_S.rf
  have loop3 : ∀ (N : Nat) (k : Int), (a4 - k).toNat < N → (0 ≤ k ∧ k ≤ 1000000) → (bEq b sz a1 b2 sz2 a3 a4 0 = bEq b sz a1 b2 sz2 a3 a4 k) → ∀ (H : Heap) (locs : List Loc) (ls : Array Slot), mw D vwCl lo L κ H → va_S (fun q => lo ≤ q) s.heap H locs → lv_has ls 6 [(5, .int (iI k)), (0, .ref (L i)), (1, .int (iI a1)), (2, .ref (L i2)), (3, .int (iI a3)), (4, .int (iI a4))] → W p l e (headSpec w_Bytes_equalsAt ({ frames := 1, cells := 0, slots := 0, locals := 21 })).room s m args below meth c H locs 0 0 (MQ below (mwQ D vwCl lo (mwR (some (.int (iI (bI (bEq b sz a1 b2 sz2 a3 a4 0))))) L κ)) args s 0 0 (fun q => lo ≤ q)) (F0 m 3 ls []) := by
    intro N
    induction N with
    | zero => intro k hms; exact absurd hms (Nat.not_lt_zero _)
    | succ N ih =>
      intro k hms hk hres H locs ls hM hS hl
      refine lv_iload hx hb d_Bytes_equalsAt_3 (lv_at hl 0 rfl) ?_
      refine lv_iload hx hb d_Bytes_equalsAt_5 (lv_at hl 5 rfl) ?_
      refine ia_icmp_ge (a := k) (b := a4) (tgt := 37) hx hb d_Bytes_equalsAt_7 (by decide) (by omega) (by omega) (fun c1 => ?_) (fun c1 => ?_)
      · refine lv_iconst (v := iI (1)) hx hb d_Bytes_equalsAt_37 rfl ?_
        exact mw_zret (v := true) hx hb hr hM hS hlocks d_Bytes_equalsAt_38 (mwR_z (by rw [hres, bEq_end (by omega)]))
      · refine lv_aload_n hx hb d_Bytes_equalsAt_10 rfl (lv_at hl 1 rfl) ?_
        refine lv_iload_n hx hb d_Bytes_equalsAt_11 rfl (lv_at hl 2 rfl) ?_
        refine lv_iload hx hb d_Bytes_equalsAt_12 (lv_at hl 0 rfl) ?_
        refine ia_add hx hb d_Bytes_equalsAt_14 ?_
        refine mw_rdV (i := i) (As := [.int (iI (a1 + k))]) (rest := []) ⟨hx, hb, hml, hown, hts⟩ hK hM hS rfl hB.1 rfl (c_Bytes_get l D g lo L κ i j mo n sz b hB (a1 + k) (by omega)) (cwV 1 hts (gV m_250 m_251 m_252 m_52 m_253) rfl rfl rfl (by decide +kernel) ⟨Nat.le_of_ble_eq_true rfl, Nat.le_of_ble_eq_true rfl⟩) rfl hl.1 rfl (Nat.le_of_ble_eq_true rfl) d_Bytes_equalsAt_15 ⟨Nat.le_of_ble_eq_true rfl, Nat.le_of_ble_eq_true rfl⟩ (fun H locs hM hS => ?_)
        have r2 := bGet_r (sz := sz) hB.2.2.2.1 (a1 + k)
        refine lv_aload_n hx hb d_Bytes_equalsAt_18 rfl (lv_at hl 3 rfl) ?_
        refine lv_iload_n hx hb d_Bytes_equalsAt_19 rfl (lv_at hl 4 rfl) ?_
        refine lv_iload hx hb d_Bytes_equalsAt_20 (lv_at hl 0 rfl) ?_
        refine ia_add hx hb d_Bytes_equalsAt_22 ?_
        refine mw_rdV (i := i2) (As := [.int (iI (a3 + k))]) (rest := [.int (iI (bGet b sz (a1 + k)))]) ⟨hx, hb, hml, hown, hts⟩ hK hM hS rfl hB2.1 rfl (c_Bytes_get l D g lo L κ i2 j2 mo2 n2 sz2 b2 hB2 (a3 + k) (by omega)) (cwV 1 hts (gV m_250 m_251 m_252 m_52 m_253) rfl rfl rfl (by decide +kernel) ⟨Nat.le_of_ble_eq_true rfl, Nat.le_of_ble_eq_true rfl⟩) rfl hl.1 rfl (Nat.le_of_ble_eq_true rfl) d_Bytes_equalsAt_23 ⟨Nat.le_of_ble_eq_true rfl, Nat.le_of_ble_eq_true rfl⟩ (fun H locs hM hS => ?_)
        have r3 := bGet_r (sz := sz2) hB2.2.2.2.1 (a3 + k)
        refine ia_icmp_eq (a := bGet b sz (a1 + k)) (b := bGet b2 sz2 (a3 + k)) (tgt := 31) hx hb d_Bytes_equalsAt_26 (by decide) (by omega) (by omega) (fun c4 => ?_) (fun c4 => ?_)
        · refine lv_iinc (v := iI (k + 1)) (lv' := [(5, .int (iI (k + 1))), (0, .ref (L i)), (1, .int (iI a1)), (2, .ref (L i2)), (3, .int (iI a3)), (4, .int (iI a4))]) hx hb d_Bytes_equalsAt_31 hl (k := 0) rfl (iI_inc _ _) (by decide) rfl (fun ls hl => ?_)
          refine lv_goto (tgt := 3) hx hb d_Bytes_equalsAt_34 (by decide) ?_
          exact ih (k + 1) (by omega) (by omega) (by rw [hres, bEq_step (by omega), if_pos (by omega)]) _ _ ls hM hS (lv_sub hl [0, 1, 2, 3, 4, 5] rfl)
        · refine lv_iconst (v := iI (0)) hx hb d_Bytes_equalsAt_29 rfl ?_
          exact mw_zret (v := false) hx hb hr hM hS hlocks d_Bytes_equalsAt_30 (mwR_z (by rw [hres, bEq_step (by omega), if_neg (by omega)]))
  obtain ⟨ls, hls, hl⟩ := mw_entry (m := m) [.ref (L i), .int (iI a1), .ref (L i2), .int (iI a3), .int (iI a4)] (n := 6) (Nat.le_of_ble_eq_true rfl) hargs
  refine W.eq hls ?_
  have hl : lv_has ls 6 [(0, .ref (L i)), (1, .int (iI a1)), (2, .ref (L i2)), (3, .int (iI a3)), (4, .int (iI a4))] := hl
  refine lv_iconst (v := iI (0)) hx hb d_Bytes_equalsAt_0 rfl ?_
  refine lv_istore (lv' := [(5, .int (iI 0)), (0, .ref (L i)), (1, .int (iI a1)), (2, .ref (L i2)), (3, .int (iI a3)), (4, .int (iI a4))]) hx hb d_Bytes_equalsAt_1 hl (by decide) rfl (fun ls hl => ?_)
  exact loop3 _ 0 (Nat.lt_succ_self _) (by omega) rfl _ _ ls hM hS (lv_sub hl [0, 1, 2, 3, 4, 5] rfl)
