set_option maxHeartbeats 4000000 in
set_option maxRecDepth 100000 in
theorem c_Kinds_hold (l : Launch) (D : va_G) (g : Nat → ClassId) (lo : Nat) (L : Nat → Nat) (κ : Nat → Option va_E) (a : Int) (ha : -2147483648 ≤ a ∧ a < 2147483648) : Met l y_Kinds_holdsElements w_Kinds_holdsElements ({ frames := 0, cells := 0, slots := 0, locals := 0 }) (mwP D vwCl (tyL g) lo L κ [.int (iI a)]) (mwQ D vwCl lo (mwR (some (.int (iI (bI (kHold a))))) L κ)) 0 0 (fun q => lo ≤ q) := by
  refine Met.ofW (cc := b_Kinds_holdsElements) (maxL := 1) (ret := (Option.some Jvm.ClassFile.FieldType.boolean)) (by decide) rfl ?_
  intro p e s m args below meth c s₁ B hml hpre
  obtain ⟨hargs, hM, hK⟩ := hpre
  have hx := B.exec
  have hb := B.bytes
  have hr := B.returns
  have hts : ∀ w ∈ wA, w.before args s = true := fun w h => atoms_spec (ws := w_Kinds_holdsElements) B.pre w (List.mem_cons_of_mem _ h)
  have hown : s.vm.findClass R_Kinds = some m.cls := findClass_of_methodNamed B.named
  have hlocks := B.notSynchronized
  have hS : va_S (fun q => lo ≤ q) s.heap s.heap [] := va_S.rf
  obtain ⟨ls, hls, hl⟩ := mw_entry (m := m) [.int (iI a)] (n := 1) (Nat.le_of_ble_eq_true rfl) hargs
  refine W.eq hls ?_
  have hl : lv_has ls 1 [(0, .int (iI a))] := hl
  refine lv_iload_n hx hb d_Kinds_holdsElements_0 rfl (lv_at hl 0 rfl) ?_
  refine lv_iconst (v := iI (3)) hx hb d_Kinds_holdsElements_1 rfl ?_
  refine ia_icmp_eq (a := a) (b := 3) (tgt := 10) hx hb d_Kinds_holdsElements_2 (by decide) (by omega) (by omega) (fun c1 => ?_) (fun c1 => ?_)
  · refine lv_iconst (v := iI (1)) hx hb d_Kinds_holdsElements_10 rfl ?_
    refine lv_goto (tgt := 15) hx hb d_Kinds_holdsElements_11 (by decide) ?_
    exact mw_zret (v := true) hx hb hr hM hS hlocks d_Kinds_holdsElements_15 (mwR_z (by exact kHold_t (by omega)))
  · refine lv_iload_n hx hb d_Kinds_holdsElements_5 rfl (lv_at hl 0 rfl) ?_
    refine lv_iconst (v := iI (4)) hx hb d_Kinds_holdsElements_6 rfl ?_
    refine ia_icmp_ne (a := a) (b := 4) (tgt := 14) hx hb d_Kinds_holdsElements_7 (by decide) (by omega) (by omega) (fun c2 => ?_) (fun c2 => ?_)
    · refine lv_iconst (v := iI (0)) hx hb d_Kinds_holdsElements_14 rfl ?_
      exact mw_zret (v := false) hx hb hr hM hS hlocks d_Kinds_holdsElements_15 (mwR_z (by exact kHold_f (by omega)))
    · refine lv_iconst (v := iI (1)) hx hb d_Kinds_holdsElements_10 rfl ?_
      refine lv_goto (tgt := 15) hx hb d_Kinds_holdsElements_11 (by decide) ?_
      exact mw_zret (v := true) hx hb hr hM hS hlocks d_Kinds_holdsElements_15 (mwR_z (by exact kHold_t (by omega)))
set_option maxHeartbeats 4000000 in
set_option maxRecDepth 100000 in
theorem c_Kinds_width (l : Launch) (D : va_G) (g : Nat → ClassId) (lo : Nat) (L : Nat → Nat) (κ : Nat → Option va_E) (a : Int) (ha : -2147483648 ≤ a ∧ a < 2147483648) : Met l y_Kinds_width w_Kinds_width ({ frames := 0, cells := 0, slots := 0, locals := 0 }) (mwP D vwCl (tyL g) lo L κ [.int (iI a)]) (mwQ D vwCl lo (mwR (some (.int (iI (kWidth a)))) L κ)) 0 0 (fun q => lo ≤ q) := by
  refine Met.ofW (cc := b_Kinds_width) (maxL := 1) (ret := (Option.some Jvm.ClassFile.FieldType.int)) (by decide) rfl ?_
  intro p e s m args below meth c s₁ B hml hpre
  obtain ⟨hargs, hM, hK⟩ := hpre
  have hx := B.exec
  have hb := B.bytes
  have hr := B.returns
  have hts : ∀ w ∈ wA, w.before args s = true := fun w h => atoms_spec (ws := w_Kinds_width) B.pre w (List.mem_cons_of_mem _ h)
  have hown : s.vm.findClass R_Kinds = some m.cls := findClass_of_methodNamed B.named
  have hlocks := B.notSynchronized
  have hS : va_S (fun q => lo ≤ q) s.heap s.heap [] := va_S.rf
  obtain ⟨ls, hls, hl⟩ := mw_entry (m := m) [.int (iI a)] (n := 1) (Nat.le_of_ble_eq_true rfl) hargs
  refine W.eq hls ?_
  have hl : lv_has ls 1 [(0, .int (iI a))] := hl
  refine lv_iload_n hx hb d_Kinds_width_0 rfl (lv_at hl 0 rfl) ?_
  rcases (show a = 8 ∨ a = 16 ∨ a = 18 ∨ (¬ a = 8 ∧ ¬ a = 16 ∧ ¬ a = 18) by omega) with c1 | c1 | c1 | ⟨c1_0, c1_1, c1_2⟩
  · refine lv_lookup (off := 35) (tgt := 36) hx hb d_Kinds_width_1 (by decide) (by rw [iI_toInt (by omega), c1]; rfl) (by decide) ?_
    refine lv_iconst (v := iI (1)) hx hb d_Kinds_width_36 rfl ?_
    exact mw_iret hx hb hr hM hS hlocks d_Kinds_width_37 (mwR_i (by unfold kWidth; (repeat split) <;> omega))
  · refine lv_lookup (off := 37) (tgt := 38) hx hb d_Kinds_width_1 (by decide) (by rw [iI_toInt (by omega), c1]; rfl) (by decide) ?_
    refine lv_iconst (v := iI (4)) hx hb d_Kinds_width_38 rfl ?_
    exact mw_iret hx hb hr hM hS hlocks d_Kinds_width_39 (mwR_i (by unfold kWidth; (repeat split) <;> omega))
  · refine lv_lookup (off := 39) (tgt := 40) hx hb d_Kinds_width_1 (by decide) (by rw [iI_toInt (by omega), c1]; rfl) (by decide) ?_
    refine lv_bipush (v := iI (8)) hx hb d_Kinds_width_40 (by decide) ?_
    exact mw_iret hx hb hr hM hS hlocks d_Kinds_width_42 (mwR_i (by unfold kWidth; (repeat split) <;> omega))
  · refine lv_lookup (off := 42) (tgt := 43) hx hb d_Kinds_width_1 (by decide) (by rw [iI_toInt (by omega)]; simp only [Op.lookupswitch.offset]; rw [if_neg (by omega)]; rw [if_neg (by omega)]; rw [if_neg (by omega)]) (by decide) ?_
    refine lv_iconst (v := iI (0)) hx hb d_Kinds_width_43 rfl ?_
    exact mw_iret hx hb hr hM hS hlocks d_Kinds_width_44 (mwR_i (by unfold kWidth; (repeat split) <;> omega))
set_option maxHeartbeats 4000000 in
set_option maxRecDepth 100000 in
theorem c_Kinds_isKind (l : Launch) (D : va_G) (g : Nat → ClassId) (lo : Nat) (L : Nat → Nat) (κ : Nat → Option va_E) (a : Int) (ha : -2147483648 ≤ a ∧ a < 2147483648) : Met l y_Kinds_isKind w_Kinds_isKind ({ frames := 1, cells := 0, slots := 0, locals := 20 }) (mwP D vwCl (tyL g) lo L κ [.int (iI a)]) (mwQ D vwCl lo (mwR (some (.int (iI (bI (kIs a))))) L κ)) 0 0 (fun q => lo ≤ q) := by
  refine Met.ofW (cc := b_Kinds_isKind) (maxL := 1) (ret := (Option.some Jvm.ClassFile.FieldType.boolean)) (by decide) rfl ?_
  intro p e s m args below meth c s₁ B hml hpre
  obtain ⟨hargs, hM, hK⟩ := hpre
  have hx := B.exec
  have hb := B.bytes
  have hr := B.returns
  have hts : ∀ w ∈ wA, w.before args s = true := fun w h => atoms_spec (ws := w_Kinds_isKind) B.pre w (List.mem_cons_of_mem _ h)
  have hown : s.vm.findClass R_Kinds = some m.cls := findClass_of_methodNamed B.named
  have hlocks := B.notSynchronized
  have hS : va_S (fun q => lo ≤ q) s.heap s.heap [] := va_S.rf
  obtain ⟨ls, hls, hl⟩ := mw_entry (m := m) [.int (iI a)] (n := 1) (Nat.le_of_ble_eq_true rfl) hargs
  refine W.eq hls ?_
  have hl : lv_has ls 1 [(0, .int (iI a))] := hl
  refine lv_iload_n hx hb d_Kinds_isKind_0 rfl (lv_at hl 0 rfl) ?_
  refine lv_iconst (v := iI (2)) hx hb d_Kinds_isKind_1 rfl ?_
  refine ia_icmp_eq (a := a) (b := 2) (tgt := 25) hx hb d_Kinds_isKind_2 (by decide) (by omega) (by omega) (fun c1 => ?_) (fun c1 => ?_)
  · refine lv_iconst (v := iI (1)) hx hb d_Kinds_isKind_25 rfl ?_
    refine lv_goto (tgt := 30) hx hb d_Kinds_isKind_26 (by decide) ?_
    exact mw_zret (v := true) hx hb hr hM hS hlocks d_Kinds_isKind_30 (mwR_z (by exact kIs_t (by first | exact Or.inl (by omega) | exact Or.inr (Or.inl (by omega)) | exact Or.inr (Or.inr (Or.inl (by assumption))) | exact Or.inr (Or.inr (Or.inr (by omega))))))
  · refine lv_iload_n hx hb d_Kinds_isKind_5 rfl (lv_at hl 0 rfl) ?_
    refine lv_bipush (v := iI (10)) hx hb d_Kinds_isKind_6 (by decide) ?_
    refine ia_icmp_eq (a := a) (b := 10) (tgt := 25) hx hb d_Kinds_isKind_8 (by decide) (by omega) (by omega) (fun c2 => ?_) (fun c2 => ?_)
    · refine lv_iconst (v := iI (1)) hx hb d_Kinds_isKind_25 rfl ?_
      refine lv_goto (tgt := 30) hx hb d_Kinds_isKind_26 (by decide) ?_
      exact mw_zret (v := true) hx hb hr hM hS hlocks d_Kinds_isKind_30 (mwR_z (by exact kIs_t (by first | exact Or.inl (by omega) | exact Or.inr (Or.inl (by omega)) | exact Or.inr (Or.inr (Or.inl (by assumption))) | exact Or.inr (Or.inr (Or.inr (by omega))))))
    · refine lv_iload_n hx hb d_Kinds_isKind_11 rfl (lv_at hl 0 rfl) ?_
      refine mw_rdS (As := [.int (iI a)]) (rest := []) ⟨hx, hb, hml, hown, hts⟩ hK hM hS (c_Kinds_hold l D g lo L κ a (by omega)) (cwS 1 hts (gS m_290 m_268 m_59 m_269) rfl rfl rfl (by decide +kernel) ⟨Nat.le_of_ble_eq_true rfl, Nat.le_of_ble_eq_true rfl⟩) rfl hl.1 rfl (Nat.le_of_ble_eq_true rfl) d_Kinds_isKind_12 ⟨Nat.le_of_ble_eq_true rfl, Nat.le_of_ble_eq_true rfl⟩ (fun H locs hM hS => ?_)
      refine ia_ifz_ne (x := kHold a) (tgt := 25) hx hb d_Kinds_isKind_15 (by decide) (fun c3 => ?_) (fun c3 => ?_)
      · refine lv_iconst (v := iI (1)) hx hb d_Kinds_isKind_25 rfl ?_
        refine lv_goto (tgt := 30) hx hb d_Kinds_isKind_26 (by decide) ?_
        exact mw_zret (v := true) hx hb hr hM hS hlocks d_Kinds_isKind_30 (mwR_z (by exact kIs_t (by first | exact Or.inl (by omega) | exact Or.inr (Or.inl (by omega)) | exact Or.inr (Or.inr (Or.inl (by assumption))) | exact Or.inr (Or.inr (Or.inr (by omega))))))
      · refine lv_iload_n hx hb d_Kinds_isKind_18 rfl (lv_at hl 0 rfl) ?_
        refine mw_rdS (As := [.int (iI a)]) (rest := []) ⟨hx, hb, hml, hown, hts⟩ hK hM hS (c_Kinds_width l D g lo L κ a (by omega)) (cwS 1 hts (gS m_291 m_292 m_59 m_293) rfl rfl rfl (by decide +kernel) ⟨Nat.le_of_ble_eq_true rfl, Nat.le_of_ble_eq_true rfl⟩) rfl hl.1 rfl (Nat.le_of_ble_eq_true rfl) d_Kinds_isKind_19 ⟨Nat.le_of_ble_eq_true rfl, Nat.le_of_ble_eq_true rfl⟩ (fun H locs hM hS => ?_)
        have r4 := kWidth_r a
        refine ia_if_le (a := kWidth a) (tgt := 29) hx hb d_Kinds_isKind_22 (by decide) (by omega) (fun c5 => ?_) (fun c5 => ?_)
        · refine lv_iconst (v := iI (0)) hx hb d_Kinds_isKind_29 rfl ?_
          exact mw_zret (v := false) hx hb hr hM hS hlocks d_Kinds_isKind_30 (mwR_z (by exact kIs_f ⟨by omega, by omega, by assumption, by omega⟩))
        · refine lv_iconst (v := iI (1)) hx hb d_Kinds_isKind_25 rfl ?_
          refine lv_goto (tgt := 30) hx hb d_Kinds_isKind_26 (by decide) ?_
          exact mw_zret (v := true) hx hb hr hM hS hlocks d_Kinds_isKind_30 (mwR_z (by exact kIs_t (by first | exact Or.inl (by omega) | exact Or.inr (Or.inl (by omega)) | exact Or.inr (Or.inr (Or.inl (by assumption))) | exact Or.inr (Or.inr (Or.inr (by omega))))))
set_option maxHeartbeats 4000000 in
set_option maxRecDepth 100000 in
theorem c_Kinds_valueLength (l : Launch) (D : va_G) (g : Nat → ClassId) (lo : Nat) (L : Nat → Nat) (κ : Nat → Option va_E) (i j mo n sz : Nat) (b : Nat → Int) (hB : bxs g L κ i j mo n sz b) (a1 a3 : Int) (ha1 : -2147483648 ≤ a1 ∧ a1 < 2147483648) (ha3 : -1000000 ≤ a3 ∧ a3 ≤ 1000000) : Met l y_Kinds_valueLength w_Kinds_valueLength ({ frames := 2, cells := 0, slots := 0, locals := 46 }) (mwP D vwCl (tyL g) lo L κ [.int (iI a1), .ref (L i), .int (iI a3)]) (mwQ D vwCl lo (mwR (some (.int (iI (kVlen a1 b sz a3)))) L κ)) 0 0 (fun q => lo ≤ q) := by
  obtain ⟨hz1, hz2, hz3⟩ := hB.2.2.1
  refine Met.ofW (cc := b_Kinds_valueLength) (maxL := 3) (ret := (Option.some Jvm.ClassFile.FieldType.int)) (by decide) rfl ?_
  intro p e s m args below meth c s₁ B hml hpre
  obtain ⟨hargs, hM, hK⟩ := hpre
  have hx := B.exec
  have hb := B.bytes
  have hr := B.returns
  have hts : ∀ w ∈ wA, w.before args s = true := fun w h => atoms_spec (ws := w_Kinds_valueLength) B.pre w (List.mem_cons_of_mem _ h)
  have hown : s.vm.findClass R_Kinds = some m.cls := findClass_of_methodNamed B.named
  have hlocks := B.notSynchronized
  have hS : va_S (fun q => lo ≤ q) s.heap s.heap [] := va_S.rf
  obtain ⟨ls, hls, hl⟩ := mw_entry (m := m) [.int (iI a1), .ref (L i), .int (iI a3)] (n := 3) (Nat.le_of_ble_eq_true rfl) hargs
  refine W.eq hls ?_
  have hl : lv_has ls 3 [(0, .int (iI a1)), (1, .ref (L i)), (2, .int (iI a3))] := hl
  refine lv_iload_n hx hb d_Kinds_valueLength_0 rfl (lv_at hl 0 rfl) ?_
  refine lv_iconst (v := iI (2)) hx hb d_Kinds_valueLength_1 rfl ?_
  refine ia_icmp_ne (a := a1) (b := 2) (tgt := 15) hx hb d_Kinds_valueLength_2 (by decide) (by omega) (by omega) (fun c1 => ?_) (fun c1 => ?_)
  · refine lv_iload_n hx hb d_Kinds_valueLength_15 rfl (lv_at hl 0 rfl) ?_
    refine mw_rdS (As := [.int (iI a1)]) (rest := []) ⟨hx, hb, hml, hown, hts⟩ hK hM hS (c_Kinds_hold l D g lo L κ a1 (by omega)) (cwS 1 hts (gS m_290 m_268 m_59 m_269) rfl rfl rfl (by decide +kernel) ⟨Nat.le_of_ble_eq_true rfl, Nat.le_of_ble_eq_true rfl⟩) rfl hl.1 rfl (Nat.le_of_ble_eq_true rfl) d_Kinds_valueLength_16 ⟨Nat.le_of_ble_eq_true rfl, Nat.le_of_ble_eq_true rfl⟩ (fun H locs hM hS => ?_)
    refine ia_ifz_eq (x := kHold a1) (tgt := 32) hx hb d_Kinds_valueLength_19 (by decide) (fun c2 => ?_) (fun c2 => ?_)
    · refine lv_iload_n hx hb d_Kinds_valueLength_32 rfl (lv_at hl 0 rfl) ?_
      refine mw_rdS (As := [.int (iI a1)]) (rest := []) ⟨hx, hb, hml, hown, hts⟩ hK hM hS (c_Kinds_width l D g lo L κ a1 (by omega)) (cwS 1 hts (gS m_291 m_292 m_59 m_293) rfl rfl rfl (by decide +kernel) ⟨Nat.le_of_ble_eq_true rfl, Nat.le_of_ble_eq_true rfl⟩) rfl hl.1 rfl (Nat.le_of_ble_eq_true rfl) d_Kinds_valueLength_33 ⟨Nat.le_of_ble_eq_true rfl, Nat.le_of_ble_eq_true rfl⟩ (fun H locs hM hS => ?_)
      have r3 := kWidth_r a1
      exact mw_iret hx hb hr hM hS hlocks d_Kinds_valueLength_36 (mwR_i (by unfold kVlen; rw [if_neg (by omega), if_neg (zne (by assumption))]))
    · refine lv_aload_n hx hb d_Kinds_valueLength_22 rfl (lv_at hl 1 rfl) ?_
      refine lv_iload_n hx hb d_Kinds_valueLength_23 rfl (lv_at hl 2 rfl) ?_
      refine lv_iconst (v := iI (4)) hx hb d_Kinds_valueLength_24 rfl ?_
      refine mw_rdV (i := i) (As := [.int (iI a3), .int (iI 4)]) (rest := []) ⟨hx, hb, hml, hown, hts⟩ hK hM hS rfl hB.1 rfl (c_Bytes_numberAt l D g lo L κ i j mo n sz b hB a3 4 (by omega) (by omega)) (cwV 2 hts (gV m_395 m_247 m_248 m_52 m_249) rfl rfl rfl (by decide +kernel) ⟨Nat.le_of_ble_eq_true rfl, Nat.le_of_ble_eq_true rfl⟩) rfl hl.1 rfl (Nat.le_of_ble_eq_true rfl) d_Kinds_valueLength_25 ⟨Nat.le_of_ble_eq_true rfl, Nat.le_of_ble_eq_true rfl⟩ (fun H locs hM hS => ?_)
      have r4 := bNum4_r b sz a3
      refine ia_l2i hx hb d_Kinds_valueLength_28 ?_
      refine lv_goto (tgt := 36) hx hb d_Kinds_valueLength_29 (by decide) ?_
      exact mw_iret hx hb hr hM hS hlocks d_Kinds_valueLength_36 (mwR_i (by unfold kVlen; rw [if_neg (by omega), if_pos (by assumption)]; rfl))
  · refine lv_iconst (v := iI (4)) hx hb d_Kinds_valueLength_5 rfl ?_
    refine lv_aload_n hx hb d_Kinds_valueLength_6 rfl (lv_at hl 1 rfl) ?_
    refine lv_iload_n hx hb d_Kinds_valueLength_7 rfl (lv_at hl 2 rfl) ?_
    refine lv_iconst (v := iI (4)) hx hb d_Kinds_valueLength_8 rfl ?_
    refine mw_rdV (i := i) (As := [.int (iI a3), .int (iI 4)]) (rest := [.int (iI 4)]) ⟨hx, hb, hml, hown, hts⟩ hK hM hS rfl hB.1 rfl (c_Bytes_numberAt l D g lo L κ i j mo n sz b hB a3 4 (by omega) (by omega)) (cwV 2 hts (gV m_395 m_247 m_248 m_52 m_249) rfl rfl rfl (by decide +kernel) ⟨Nat.le_of_ble_eq_true rfl, Nat.le_of_ble_eq_true rfl⟩) rfl hl.1 rfl (Nat.le_of_ble_eq_true rfl) d_Kinds_valueLength_9 ⟨Nat.le_of_ble_eq_true rfl, Nat.le_of_ble_eq_true rfl⟩ (fun H locs hM hS => ?_)
    have r5 := bNum4_r b sz a3
    refine ia_l2i hx hb d_Kinds_valueLength_12 ?_
    refine ia_add hx hb d_Kinds_valueLength_13 ?_
    exact mw_iret hx hb hr hM hS hlocks d_Kinds_valueLength_14 (mwR_i (by unfold kVlen; rw [if_pos (by omega)]; rfl))
set_option maxHeartbeats 4000000 in
set_option maxRecDepth 100000 in
theorem c_Kinds_allows (l : Launch) (D : va_G) (g : Nat → ClassId) (lo : Nat) (L : Nat → Nat) (κ : Nat → Option va_E) (a v : Int) (ha : -2147483648 ≤ a ∧ a < 2147483648) (hv : -9223372036854775808 ≤ v ∧ v < 9223372036854775808) : Met l y_Kinds_allows w_Kinds_allows ({ frames := 0, cells := 0, slots := 0, locals := 0 }) (mwP D vwCl (tyL g) lo L κ [.int (iI a), .long (lI v)]) (mwQ D vwCl lo (mwR (some (.int (iI (bI (kAllows a v))))) L κ)) 0 0 (fun q => lo ≤ q) := by
  refine Met.ofW (cc := b_Kinds_allows) (maxL := 3) (ret := (Option.some Jvm.ClassFile.FieldType.boolean)) (by decide) rfl ?_
  intro p e s m args below meth c s₁ B hml hpre
  obtain ⟨hargs, hM, hK⟩ := hpre
  have hx := B.exec
  have hb := B.bytes
  have hr := B.returns
  have hts : ∀ w ∈ wA, w.before args s = true := fun w h => atoms_spec (ws := w_Kinds_allows) B.pre w (List.mem_cons_of_mem _ h)
  have hown : s.vm.findClass R_Kinds = some m.cls := findClass_of_methodNamed B.named
  have hlocks := B.notSynchronized
  have hS : va_S (fun q => lo ≤ q) s.heap s.heap [] := va_S.rf
  obtain ⟨ls, hls, hl⟩ := mw_entry (m := m) [.int (iI a), .long (lI v)] (n := 3) (Nat.le_of_ble_eq_true rfl) hargs
  refine W.eq hls ?_
  have hl : lv_has ls 3 [(0, .int (iI a)), (1, .long (lI v))] := hl
  refine lv_iload_n hx hb d_Kinds_allows_0 rfl (lv_at hl 0 rfl) ?_
  rcases (show a = 8 ∨ a = 16 ∨ a = 18 ∨ (¬ a = 8 ∧ ¬ a = 16 ∧ ¬ a = 18) by omega) with c1 | c1 | c1 | ⟨c1_0, c1_1, c1_2⟩
  · refine lv_lookup (off := 35) (tgt := 36) hx hb d_Kinds_allows_1 (by decide) (by rw [iI_toInt (by omega), c1]; rfl) (by decide) ?_
    refine lv_lload_n hx hb d_Kinds_allows_36 rfl (lv_at hl 1 rfl) ?_
    refine lv_lconst (v := lI (0)) hx hb d_Kinds_allows_37 (by decide) ?_
    refine ia_lcmp (a := v) (b := 0) hx hb (by omega) (by omega) d_Kinds_allows_38 ?_
    have r2 := cmpI_s v 0
    refine ia_if_eq (a := cmpI v 0) (tgt := 48) hx hb d_Kinds_allows_39 (by decide) (by omega) (fun c3 => ?_) (fun c3 => ?_)
    · refine lv_iconst (v := iI (1)) hx hb d_Kinds_allows_48 rfl ?_
      refine lv_goto (tgt := 53) hx hb d_Kinds_allows_49 (by decide) ?_
      exact mw_zret (v := true) hx hb hr hM hS hlocks d_Kinds_allows_53 (mwR_z (by unfold kAllows; rw [if_pos (by omega)]; exact (decide_eq_true (by omega)).symm))
    · refine lv_lload_n hx hb d_Kinds_allows_42 rfl (lv_at hl 1 rfl) ?_
      refine lv_lconst (v := lI (1)) hx hb d_Kinds_allows_43 (by decide) ?_
      refine ia_lcmp (a := v) (b := 1) hx hb (by omega) (by omega) d_Kinds_allows_44 ?_
      have r4 := cmpI_s v 1
      refine ia_if_ne (a := cmpI v 1) (tgt := 52) hx hb d_Kinds_allows_45 (by decide) (by omega) (fun c5 => ?_) (fun c5 => ?_)
      · refine lv_iconst (v := iI (0)) hx hb d_Kinds_allows_52 rfl ?_
        exact mw_zret (v := false) hx hb hr hM hS hlocks d_Kinds_allows_53 (mwR_z (by unfold kAllows; rw [if_pos (by omega)]; exact (decide_eq_false (by omega)).symm))
      · refine lv_iconst (v := iI (1)) hx hb d_Kinds_allows_48 rfl ?_
        refine lv_goto (tgt := 53) hx hb d_Kinds_allows_49 (by decide) ?_
        exact mw_zret (v := true) hx hb hr hM hS hlocks d_Kinds_allows_53 (mwR_z (by unfold kAllows; rw [if_pos (by omega)]; exact (decide_eq_true (by omega)).symm))
  · refine lv_lookup (off := 53) (tgt := 54) hx hb d_Kinds_allows_1 (by decide) (by rw [iI_toInt (by omega), c1]; rfl) (by decide) ?_
    refine lv_lload_n hx hb d_Kinds_allows_54 rfl (lv_at hl 1 rfl) ?_
    refine lv_lload_n hx hb d_Kinds_allows_55 rfl (lv_at hl 1 rfl) ?_
    refine ia_l2i hx hb d_Kinds_allows_56 ?_
    refine W.eq (g2 := F0 m 57 ls [.int (iI ((v + 2147483648) % 4294967296 - 2147483648)), .long (lI v)]) (by rw [iI_ext (a := v) (b := (v + 2147483648) % 4294967296 - 2147483648) (by omega)]) ?_
    refine ia_i2l hx hb (by omega) d_Kinds_allows_57 ?_
    refine ia_lcmp (a := v) (b := (v + 2147483648) % 4294967296 - 2147483648) hx hb (by omega) (by omega) d_Kinds_allows_58 ?_
    have r6 := cmpI_s v ((v + 2147483648) % 4294967296 - 2147483648)
    refine ia_if_ne (a := cmpI v ((v + 2147483648) % 4294967296 - 2147483648)) (tgt := 66) hx hb d_Kinds_allows_59 (by decide) (by omega) (fun c7 => ?_) (fun c7 => ?_)
    · refine lv_iconst (v := iI (0)) hx hb d_Kinds_allows_66 rfl ?_
      exact mw_zret (v := false) hx hb hr hM hS hlocks d_Kinds_allows_67 (mwR_z (by unfold kAllows; rw [if_neg (by omega), if_pos (by omega)]; exact (decide_eq_false (by omega)).symm))
    · refine lv_iconst (v := iI (1)) hx hb d_Kinds_allows_62 rfl ?_
      refine lv_goto (tgt := 67) hx hb d_Kinds_allows_63 (by decide) ?_
      exact mw_zret (v := true) hx hb hr hM hS hlocks d_Kinds_allows_67 (mwR_z (by unfold kAllows; rw [if_neg (by omega), if_pos (by omega)]; exact (decide_eq_true (by omega)).symm))
  · refine lv_lookup (off := 67) (tgt := 68) hx hb d_Kinds_allows_1 (by decide) (by rw [iI_toInt (by omega), c1]; rfl) (by decide) ?_
    refine lv_iconst (v := iI (1)) hx hb d_Kinds_allows_68 rfl ?_
    exact mw_zret (v := true) hx hb hr hM hS hlocks d_Kinds_allows_69 (mwR_z (by unfold kAllows; rw [if_neg (by omega), if_neg (by omega), if_pos (by omega)]))
  · refine lv_lookup (off := 69) (tgt := 70) hx hb d_Kinds_allows_1 (by decide) (by rw [iI_toInt (by omega)]; simp only [Op.lookupswitch.offset]; rw [if_neg (by omega)]; rw [if_neg (by omega)]; rw [if_neg (by omega)]) (by decide) ?_
    refine lv_lload_n hx hb d_Kinds_allows_70 rfl (lv_at hl 1 rfl) ?_
    refine lv_lconst (v := lI (0)) hx hb d_Kinds_allows_71 (by decide) ?_
    refine ia_lcmp (a := v) (b := 0) hx hb (by omega) (by omega) d_Kinds_allows_72 ?_
    have r8 := cmpI_s v 0
    refine ia_if_ne (a := cmpI v 0) (tgt := 80) hx hb d_Kinds_allows_73 (by decide) (by omega) (fun c9 => ?_) (fun c9 => ?_)
    · refine lv_iconst (v := iI (0)) hx hb d_Kinds_allows_80 rfl ?_
      exact mw_zret (v := false) hx hb hr hM hS hlocks d_Kinds_allows_81 (mwR_z (by unfold kAllows; rw [if_neg (by omega), if_neg (by omega), if_neg (by omega)]; exact (decide_eq_false (by omega)).symm))
    · refine lv_iconst (v := iI (1)) hx hb d_Kinds_allows_76 rfl ?_
      refine lv_goto (tgt := 81) hx hb d_Kinds_allows_77 (by decide) ?_
      exact mw_zret (v := true) hx hb hr hM hS hlocks d_Kinds_allows_81 (mwR_z (by unfold kAllows; rw [if_neg (by omega), if_neg (by omega), if_neg (by omega)]; exact (decide_eq_true (by omega)).symm))
set_option maxHeartbeats 4000000 in
set_option maxRecDepth 100000 in
theorem c_Utf8_lengthBehind (l : Launch) (D : va_G) (g : Nat → ClassId) (lo : Nat) (L : Nat → Nat) (κ : Nat → Option va_E) (a : Int) (ha : -2147483648 ≤ a ∧ a < 2147483648) : Met l y_Utf8_lengthBehind w_Utf8_lengthBehind ({ frames := 0, cells := 0, slots := 0, locals := 0 }) (mwP D vwCl (tyL g) lo L κ [.int (iI a)]) (mwQ D vwCl lo (mwR (some (.int (iI (uLen a)))) L κ)) 0 0 (fun q => lo ≤ q) := by
  refine Met.ofW (cc := b_Utf8_lengthBehind) (maxL := 1) (ret := (Option.some Jvm.ClassFile.FieldType.int)) (by decide) rfl ?_
  intro p e s m args below meth c s₁ B hml hpre
  obtain ⟨hargs, hM, hK⟩ := hpre
  have hx := B.exec
  have hb := B.bytes
  have hr := B.returns
  have hts : ∀ w ∈ wA, w.before args s = true := fun w h => atoms_spec (ws := w_Utf8_lengthBehind) B.pre w (List.mem_cons_of_mem _ h)
  have hown : s.vm.findClass R_Utf8 = some m.cls := findClass_of_methodNamed B.named
  have hlocks := B.notSynchronized
  have hS : va_S (fun q => lo ≤ q) s.heap s.heap [] := va_S.rf
  obtain ⟨ls, hls, hl⟩ := mw_entry (m := m) [.int (iI a)] (n := 1) (Nat.le_of_ble_eq_true rfl) hargs
  refine W.eq hls ?_
  have hl : lv_has ls 1 [(0, .int (iI a))] := hl
  refine lv_iload_n hx hb d_Utf8_lengthBehind_0 rfl (lv_at hl 0 rfl) ?_
  refine lv_sipush (v := iI (128)) hx hb d_Utf8_lengthBehind_1 (by decide) ?_
  refine ia_icmp_ge (a := a) (b := 128) (tgt := 9) hx hb d_Utf8_lengthBehind_4 (by decide) (by omega) (by omega) (fun c1 => ?_) (fun c1 => ?_)
  · refine lv_iload_n hx hb d_Utf8_lengthBehind_9 rfl (lv_at hl 0 rfl) ?_
    refine lv_sipush (v := iI (194)) hx hb d_Utf8_lengthBehind_10 (by decide) ?_
    refine ia_icmp_lt (a := a) (b := 194) (tgt := 23) hx hb d_Utf8_lengthBehind_13 (by decide) (by omega) (by omega) (fun c2 => ?_) (fun c2 => ?_)
    · refine lv_iconst (v := iI (0)) hx hb d_Utf8_lengthBehind_23 rfl ?_
      exact mw_iret hx hb hr hM hS hlocks d_Utf8_lengthBehind_24 (mwR_i (by unfold uLen; (repeat split) <;> omega))
    · refine lv_iload_n hx hb d_Utf8_lengthBehind_16 rfl (lv_at hl 0 rfl) ?_
      refine lv_sipush (v := iI (244)) hx hb d_Utf8_lengthBehind_17 (by decide) ?_
      refine ia_icmp_le (a := a) (b := 244) (tgt := 25) hx hb d_Utf8_lengthBehind_20 (by decide) (by omega) (by omega) (fun c3 => ?_) (fun c3 => ?_)
      · refine lv_iload_n hx hb d_Utf8_lengthBehind_25 rfl (lv_at hl 0 rfl) ?_
        refine lv_sipush (v := iI (224)) hx hb d_Utf8_lengthBehind_26 (by decide) ?_
        refine ia_icmp_ge (a := a) (b := 224) (tgt := 36) hx hb d_Utf8_lengthBehind_29 (by decide) (by omega) (by omega) (fun c4 => ?_) (fun c4 => ?_)
        · refine lv_iload_n hx hb d_Utf8_lengthBehind_36 rfl (lv_at hl 0 rfl) ?_
          refine lv_sipush (v := iI (240)) hx hb d_Utf8_lengthBehind_37 (by decide) ?_
          refine ia_icmp_ge (a := a) (b := 240) (tgt := 47) hx hb d_Utf8_lengthBehind_40 (by decide) (by omega) (by omega) (fun c5 => ?_) (fun c5 => ?_)
          · refine lv_iconst (v := iI (4)) hx hb d_Utf8_lengthBehind_47 rfl ?_
            exact mw_iret hx hb hr hM hS hlocks d_Utf8_lengthBehind_48 (mwR_i (by unfold uLen; (repeat split) <;> omega))
          · refine lv_iconst (v := iI (3)) hx hb d_Utf8_lengthBehind_43 rfl ?_
            refine lv_goto (tgt := 48) hx hb d_Utf8_lengthBehind_44 (by decide) ?_
            exact mw_iret hx hb hr hM hS hlocks d_Utf8_lengthBehind_48 (mwR_i (by unfold uLen; (repeat split) <;> omega))
        · refine lv_iconst (v := iI (2)) hx hb d_Utf8_lengthBehind_32 rfl ?_
          refine lv_goto (tgt := 48) hx hb d_Utf8_lengthBehind_33 (by decide) ?_
          exact mw_iret hx hb hr hM hS hlocks d_Utf8_lengthBehind_48 (mwR_i (by unfold uLen; (repeat split) <;> omega))
      · refine lv_iconst (v := iI (0)) hx hb d_Utf8_lengthBehind_23 rfl ?_
        exact mw_iret hx hb hr hM hS hlocks d_Utf8_lengthBehind_24 (mwR_i (by unfold uLen; (repeat split) <;> omega))
  · refine lv_iconst (v := iI (1)) hx hb d_Utf8_lengthBehind_7 rfl ?_
    exact mw_iret hx hb hr hM hS hlocks d_Utf8_lengthBehind_8 (mwR_i (by unfold uLen; (repeat split) <;> omega))
set_option maxHeartbeats 4000000 in
set_option maxRecDepth 100000 in
theorem c_Utf8_isRight (l : Launch) (D : va_G) (g : Nat → ClassId) (lo : Nat) (L : Nat → Nat) (κ : Nat → Option va_E) (i j mo n sz : Nat) (b : Nat → Int) (hB : bxs g L κ i j mo n sz b) (a1 a2 : Int) (ha1 : -1000000 ≤ a1 ∧ a1 ≤ 1000000) (ha2 : -1000000 ≤ a2 ∧ a2 ≤ 1000000) : Met l y_Utf8_isRight w_Utf8_isRight ({ frames := 1, cells := 0, slots := 0, locals := 21 }) (mwP D vwCl (tyL g) lo L κ [.ref (L i), .int (iI a1), .int (iI a2)]) (mwQ D vwCl lo (mwR (some (.int (iI (bI (uRight b sz a1 a2))))) L κ)) 0 0 (fun q => lo ≤ q) := by
  obtain ⟨hz1, hz2, hz3⟩ := hB.2.2.1
  refine Met.ofW (cc := b_Utf8_isRight) (maxL := 8) (ret := (Option.some Jvm.ClassFile.FieldType.boolean)) (by decide) rfl ?_
  intro p e s m args below meth c s₁ B hml hpre
  obtain ⟨hargs, hM, hK⟩ := hpre
  have hx := B.exec
  have hb := B.bytes
  have hr := B.returns
  have hts : ∀ w ∈ wA, w.before args s = true := fun w h => atoms_spec (ws := w_Utf8_isRight) B.pre w (List.mem_cons_of_mem _ h)
  have hown : s.vm.findClass R_Utf8 = some m.cls := findClass_of_methodNamed B.named
  have hlocks := B.notSynchronized
  have hS : va_S (fun q => lo ≤ q) s.heap s.heap [] := va_S.rf
  have loop71 : ∀ (N : Nat) (k : Int) (u : Int) (v : Int), (a2 - k).toNat < N → (0 ≤ k ∧ k ≤ 1000000) → (0 ≤ u ∧ u < 256) → (0 ≤ v ∧ v < 256) → (uRight b sz a1 a2 = uRt b sz a1 a2 k u v) → ∀ (H : Heap) (locs : List Loc) (ls : Array Slot), mw D vwCl lo L κ H → va_S (fun q => lo ≤ q) s.heap H locs → lv_has ls 8 [(6, .int (iI k)), (5, .int (iI v)), (4, .int (iI u)), (0, .ref (L i)), (1, .int (iI a1)), (2, .int (iI a2))] → W p l e (headSpec w_Utf8_isRight ({ frames := 1, cells := 0, slots := 0, locals := 21 })).room s m args below meth c H locs 0 0 (MQ below (mwQ D vwCl lo (mwR (some (.int (iI (bI (uRight b sz a1 a2))))) L κ)) args s 0 0 (fun q => lo ≤ q)) (F0 m 71 ls []) := by
    intro N
    induction N with
    | zero => intro k u v hms; exact absurd hms (Nat.not_lt_zero _)
    | succ N ih =>
      intro k u v hms hk hu hv hres H locs ls hM hS hl
      refine lv_iload hx hb d_Utf8_isRight_71 (lv_at hl 0 rfl) ?_
      refine lv_iload_n hx hb d_Utf8_isRight_73 rfl (lv_at hl 5 rfl) ?_
      refine ia_icmp_ge (a := k) (b := a2) (tgt := 119) hx hb d_Utf8_isRight_74 (by decide) (by omega) (by omega) (fun c1 => ?_) (fun c1 => ?_)
      · refine lv_iconst (v := iI (1)) hx hb d_Utf8_isRight_119 rfl ?_
        exact mw_zret (v := true) hx hb hr hM hS hlocks d_Utf8_isRight_120 (mwR_z (by rw [hres, uRt_end (by omega)]))
      · refine lv_aload_n hx hb d_Utf8_isRight_77 rfl (lv_at hl 3 rfl) ?_
        refine lv_iload_n hx hb d_Utf8_isRight_78 rfl (lv_at hl 4 rfl) ?_
        refine lv_iload hx hb d_Utf8_isRight_79 (lv_at hl 0 rfl) ?_
        refine ia_add hx hb d_Utf8_isRight_81 ?_
        refine mw_rdV (i := i) (As := [.int (iI (a1 + k))]) (rest := []) ⟨hx, hb, hml, hown, hts⟩ hK hM hS rfl hB.1 rfl (c_Bytes_get l D g lo L κ i j mo n sz b hB (a1 + k) (by omega)) (cwV 1 hts (gV m_305 m_251 m_252 m_52 m_253) rfl rfl rfl (by decide +kernel) ⟨Nat.le_of_ble_eq_true rfl, Nat.le_of_ble_eq_true rfl⟩) rfl hl.1 rfl (Nat.le_of_ble_eq_true rfl) d_Utf8_isRight_82 ⟨Nat.le_of_ble_eq_true rfl, Nat.le_of_ble_eq_true rfl⟩ (fun H locs hM hS => ?_)
        have r2 := bGet_r (sz := sz) hB.2.2.2.1 (a1 + k)
        refine lv_istore (lv' := [(7, .int (iI (bGet b sz (a1 + k)))), (6, .int (iI k)), (5, .int (iI v)), (4, .int (iI u)), (0, .ref (L i)), (1, .int (iI a1)), (2, .int (iI a2))]) hx hb d_Utf8_isRight_85 hl (by decide) rfl (fun ls hl => ?_)
        refine lv_iload hx hb d_Utf8_isRight_87 (lv_at hl 0 rfl) ?_
        refine lv_iload hx hb d_Utf8_isRight_89 (lv_at hl 3 rfl) ?_
        refine ia_icmp_lt (a := bGet b sz (a1 + k)) (b := u) (tgt := 101) hx hb d_Utf8_isRight_91 (by decide) (by omega) (by omega) (fun c3 => ?_) (fun c3 => ?_)
        · refine lv_iconst (v := iI (0)) hx hb d_Utf8_isRight_101 rfl ?_
          exact mw_zret (v := false) hx hb hr hM hS hlocks d_Utf8_isRight_102 (mwR_z (by rw [hres, uRt_step (by omega), if_pos (by omega)]))
        · refine lv_iload hx hb d_Utf8_isRight_94 (lv_at hl 0 rfl) ?_
          refine lv_iload hx hb d_Utf8_isRight_96 (lv_at hl 2 rfl) ?_
          refine ia_icmp_le (a := bGet b sz (a1 + k)) (b := v) (tgt := 103) hx hb d_Utf8_isRight_98 (by decide) (by omega) (by omega) (fun c4 => ?_) (fun c4 => ?_)
          · refine lv_sipush (v := iI (128)) hx hb d_Utf8_isRight_103 (by decide) ?_
            refine lv_istore (lv' := [(4, .int (iI 128)), (7, .int (iI (bGet b sz (a1 + k)))), (6, .int (iI k)), (5, .int (iI v)), (0, .ref (L i)), (1, .int (iI a1)), (2, .int (iI a2))]) hx hb d_Utf8_isRight_106 hl (by decide) rfl (fun ls hl => ?_)
            refine lv_sipush (v := iI (191)) hx hb d_Utf8_isRight_108 (by decide) ?_
            refine lv_istore (lv' := [(5, .int (iI 191)), (4, .int (iI 128)), (7, .int (iI (bGet b sz (a1 + k)))), (6, .int (iI k)), (0, .ref (L i)), (1, .int (iI a1)), (2, .int (iI a2))]) hx hb d_Utf8_isRight_111 hl (by decide) rfl (fun ls hl => ?_)
            refine lv_iinc (v := iI (k + 1)) (lv' := [(6, .int (iI (k + 1))), (5, .int (iI 191)), (4, .int (iI 128)), (7, .int (iI (bGet b sz (a1 + k)))), (0, .ref (L i)), (1, .int (iI a1)), (2, .int (iI a2))]) hx hb d_Utf8_isRight_113 hl (k := 3) rfl (iI_inc _ _) (by decide) rfl (fun ls hl => ?_)
            refine lv_goto (tgt := 71) hx hb d_Utf8_isRight_116 (by decide) ?_
            exact ih (k + 1) 128 191 (by omega) (by omega) (by omega) (by omega) (by rw [hres, uRt_step (by omega), if_neg (by omega)]) _ _ ls hM hS (lv_sub hl [0, 1, 2, 4, 5, 6] rfl)
          · refine lv_iconst (v := iI (0)) hx hb d_Utf8_isRight_101 rfl ?_
            exact mw_zret (v := false) hx hb hr hM hS hlocks d_Utf8_isRight_102 (mwR_z (by rw [hres, uRt_step (by omega), if_pos (by omega)]))
  obtain ⟨ls, hls, hl⟩ := mw_entry (m := m) [.ref (L i), .int (iI a1), .int (iI a2)] (n := 8) (Nat.le_of_ble_eq_true rfl) hargs
  refine W.eq hls ?_
  have hl : lv_has ls 8 [(0, .ref (L i)), (1, .int (iI a1)), (2, .int (iI a2))] := hl
  refine lv_aload_n hx hb d_Utf8_isRight_0 rfl (lv_at hl 0 rfl) ?_
  refine lv_iload_n hx hb d_Utf8_isRight_1 rfl (lv_at hl 1 rfl) ?_
  refine mw_rdV (i := i) (As := [.int (iI a1)]) (rest := []) ⟨hx, hb, hml, hown, hts⟩ hK hM hS rfl hB.1 rfl (c_Bytes_get l D g lo L κ i j mo n sz b hB a1 (by omega)) (cwV 1 hts (gV m_305 m_251 m_252 m_52 m_253) rfl rfl rfl (by decide +kernel) ⟨Nat.le_of_ble_eq_true rfl, Nat.le_of_ble_eq_true rfl⟩) rfl hl.1 rfl (Nat.le_of_ble_eq_true rfl) d_Utf8_isRight_2 ⟨Nat.le_of_ble_eq_true rfl, Nat.le_of_ble_eq_true rfl⟩ (fun H locs hM hS => ?_)
  have r5 := bGet_r (sz := sz) hB.2.2.2.1 a1
  refine lv_istore_n (lv' := [(3, .int (iI (bGet b sz a1))), (0, .ref (L i)), (1, .int (iI a1)), (2, .int (iI a2))]) hx hb d_Utf8_isRight_5 rfl hl (by decide) rfl (fun ls hl => ?_)
  refine lv_iload_n hx hb d_Utf8_isRight_6 rfl (lv_at hl 0 rfl) ?_
  refine lv_sipush (v := iI (224)) hx hb d_Utf8_isRight_7 (by decide) ?_
  refine ia_icmp_ne (a := bGet b sz a1) (b := 224) (tgt := 19) hx hb d_Utf8_isRight_10 (by decide) (by omega) (by omega) (fun c6 => ?_) (fun c6 => ?_)
  · refine lv_iload_n hx hb d_Utf8_isRight_19 rfl (lv_at hl 0 rfl) ?_
    refine lv_sipush (v := iI (240)) hx hb d_Utf8_isRight_20 (by decide) ?_
    refine ia_icmp_ne (a := bGet b sz a1) (b := 240) (tgt := 32) hx hb d_Utf8_isRight_23 (by decide) (by omega) (by omega) (fun c7 => ?_) (fun c7 => ?_)
    · refine lv_sipush (v := iI (128)) hx hb d_Utf8_isRight_32 (by decide) ?_
      refine lv_istore (lv' := [(4, .int (iI 128)), (3, .int (iI (bGet b sz a1))), (0, .ref (L i)), (1, .int (iI a1)), (2, .int (iI a2))]) hx hb d_Utf8_isRight_35 hl (by decide) rfl (fun ls hl => ?_)
      refine lv_iload_n hx hb d_Utf8_isRight_37 rfl (lv_at hl 1 rfl) ?_
      refine lv_sipush (v := iI (237)) hx hb d_Utf8_isRight_38 (by decide) ?_
      refine ia_icmp_ne (a := bGet b sz a1) (b := 237) (tgt := 50) hx hb d_Utf8_isRight_41 (by decide) (by omega) (by omega) (fun c8 => ?_) (fun c8 => ?_)
      · refine lv_iload_n hx hb d_Utf8_isRight_50 rfl (lv_at hl 1 rfl) ?_
        refine lv_sipush (v := iI (244)) hx hb d_Utf8_isRight_51 (by decide) ?_
        refine ia_icmp_ne (a := bGet b sz a1) (b := 244) (tgt := 63) hx hb d_Utf8_isRight_54 (by decide) (by omega) (by omega) (fun c9 => ?_) (fun c9 => ?_)
        · refine lv_sipush (v := iI (191)) hx hb d_Utf8_isRight_63 (by decide) ?_
          refine lv_istore (lv' := [(5, .int (iI 191)), (4, .int (iI 128)), (3, .int (iI (bGet b sz a1))), (0, .ref (L i)), (1, .int (iI a1)), (2, .int (iI a2))]) hx hb d_Utf8_isRight_66 hl (by decide) rfl (fun ls hl => ?_)
          refine lv_iconst (v := iI (1)) hx hb d_Utf8_isRight_68 rfl ?_
          refine lv_istore (lv' := [(6, .int (iI 1)), (5, .int (iI 191)), (4, .int (iI 128)), (3, .int (iI (bGet b sz a1))), (0, .ref (L i)), (1, .int (iI a1)), (2, .int (iI a2))]) hx hb d_Utf8_isRight_69 hl (by decide) rfl (fun ls hl => ?_)
          exact loop71 _ 1 128 191 (Nat.lt_succ_self _) (by omega) (by omega) (by omega) (by unfold uRight; rw [show uLow (bGet b sz a1) = 128 by unfold uLow; (repeat split) <;> omega, show uHigh (bGet b sz a1) = 191 by unfold uHigh; (repeat split) <;> omega]) _ _ ls hM hS (lv_sub hl [0, 1, 2, 4, 5, 6] rfl)
        · refine lv_sipush (v := iI (143)) hx hb d_Utf8_isRight_57 (by decide) ?_
          refine lv_goto (tgt := 66) hx hb d_Utf8_isRight_60 (by decide) ?_
          refine lv_istore (lv' := [(5, .int (iI 143)), (4, .int (iI 128)), (3, .int (iI (bGet b sz a1))), (0, .ref (L i)), (1, .int (iI a1)), (2, .int (iI a2))]) hx hb d_Utf8_isRight_66 hl (by decide) rfl (fun ls hl => ?_)
          refine lv_iconst (v := iI (1)) hx hb d_Utf8_isRight_68 rfl ?_
          refine lv_istore (lv' := [(6, .int (iI 1)), (5, .int (iI 143)), (4, .int (iI 128)), (3, .int (iI (bGet b sz a1))), (0, .ref (L i)), (1, .int (iI a1)), (2, .int (iI a2))]) hx hb d_Utf8_isRight_69 hl (by decide) rfl (fun ls hl => ?_)
          exact loop71 _ 1 128 143 (Nat.lt_succ_self _) (by omega) (by omega) (by omega) (by unfold uRight; rw [show uLow (bGet b sz a1) = 128 by unfold uLow; (repeat split) <;> omega, show uHigh (bGet b sz a1) = 143 by unfold uHigh; (repeat split) <;> omega]) _ _ ls hM hS (lv_sub hl [0, 1, 2, 4, 5, 6] rfl)
      · refine lv_sipush (v := iI (159)) hx hb d_Utf8_isRight_44 (by decide) ?_
        refine lv_goto (tgt := 66) hx hb d_Utf8_isRight_47 (by decide) ?_
        refine lv_istore (lv' := [(5, .int (iI 159)), (4, .int (iI 128)), (3, .int (iI (bGet b sz a1))), (0, .ref (L i)), (1, .int (iI a1)), (2, .int (iI a2))]) hx hb d_Utf8_isRight_66 hl (by decide) rfl (fun ls hl => ?_)
        refine lv_iconst (v := iI (1)) hx hb d_Utf8_isRight_68 rfl ?_
        refine lv_istore (lv' := [(6, .int (iI 1)), (5, .int (iI 159)), (4, .int (iI 128)), (3, .int (iI (bGet b sz a1))), (0, .ref (L i)), (1, .int (iI a1)), (2, .int (iI a2))]) hx hb d_Utf8_isRight_69 hl (by decide) rfl (fun ls hl => ?_)
        exact loop71 _ 1 128 159 (Nat.lt_succ_self _) (by omega) (by omega) (by omega) (by unfold uRight; rw [show uLow (bGet b sz a1) = 128 by unfold uLow; (repeat split) <;> omega, show uHigh (bGet b sz a1) = 159 by unfold uHigh; (repeat split) <;> omega]) _ _ ls hM hS (lv_sub hl [0, 1, 2, 4, 5, 6] rfl)
    · refine lv_sipush (v := iI (144)) hx hb d_Utf8_isRight_26 (by decide) ?_
      refine lv_goto (tgt := 35) hx hb d_Utf8_isRight_29 (by decide) ?_
      refine lv_istore (lv' := [(4, .int (iI 144)), (3, .int (iI (bGet b sz a1))), (0, .ref (L i)), (1, .int (iI a1)), (2, .int (iI a2))]) hx hb d_Utf8_isRight_35 hl (by decide) rfl (fun ls hl => ?_)
      refine lv_iload_n hx hb d_Utf8_isRight_37 rfl (lv_at hl 1 rfl) ?_
      refine lv_sipush (v := iI (237)) hx hb d_Utf8_isRight_38 (by decide) ?_
      refine ia_icmp_ne (a := bGet b sz a1) (b := 237) (tgt := 50) hx hb d_Utf8_isRight_41 (by decide) (by omega) (by omega) (fun c10 => ?_) (fun c10 => ?_)
      · refine lv_iload_n hx hb d_Utf8_isRight_50 rfl (lv_at hl 1 rfl) ?_
        refine lv_sipush (v := iI (244)) hx hb d_Utf8_isRight_51 (by decide) ?_
        refine ia_icmp_ne (a := bGet b sz a1) (b := 244) (tgt := 63) hx hb d_Utf8_isRight_54 (by decide) (by omega) (by omega) (fun c11 => ?_) (fun c11 => ?_)
        · refine lv_sipush (v := iI (191)) hx hb d_Utf8_isRight_63 (by decide) ?_
          refine lv_istore (lv' := [(5, .int (iI 191)), (4, .int (iI 144)), (3, .int (iI (bGet b sz a1))), (0, .ref (L i)), (1, .int (iI a1)), (2, .int (iI a2))]) hx hb d_Utf8_isRight_66 hl (by decide) rfl (fun ls hl => ?_)
          refine lv_iconst (v := iI (1)) hx hb d_Utf8_isRight_68 rfl ?_
          refine lv_istore (lv' := [(6, .int (iI 1)), (5, .int (iI 191)), (4, .int (iI 144)), (3, .int (iI (bGet b sz a1))), (0, .ref (L i)), (1, .int (iI a1)), (2, .int (iI a2))]) hx hb d_Utf8_isRight_69 hl (by decide) rfl (fun ls hl => ?_)
          exact loop71 _ 1 144 191 (Nat.lt_succ_self _) (by omega) (by omega) (by omega) (by unfold uRight; rw [show uLow (bGet b sz a1) = 144 by unfold uLow; (repeat split) <;> omega, show uHigh (bGet b sz a1) = 191 by unfold uHigh; (repeat split) <;> omega]) _ _ ls hM hS (lv_sub hl [0, 1, 2, 4, 5, 6] rfl)
        · refine lv_sipush (v := iI (143)) hx hb d_Utf8_isRight_57 (by decide) ?_
          refine lv_goto (tgt := 66) hx hb d_Utf8_isRight_60 (by decide) ?_
          refine lv_istore (lv' := [(5, .int (iI 143)), (4, .int (iI 144)), (3, .int (iI (bGet b sz a1))), (0, .ref (L i)), (1, .int (iI a1)), (2, .int (iI a2))]) hx hb d_Utf8_isRight_66 hl (by decide) rfl (fun ls hl => ?_)
          refine lv_iconst (v := iI (1)) hx hb d_Utf8_isRight_68 rfl ?_
          refine lv_istore (lv' := [(6, .int (iI 1)), (5, .int (iI 143)), (4, .int (iI 144)), (3, .int (iI (bGet b sz a1))), (0, .ref (L i)), (1, .int (iI a1)), (2, .int (iI a2))]) hx hb d_Utf8_isRight_69 hl (by decide) rfl (fun ls hl => ?_)
          exact loop71 _ 1 144 143 (Nat.lt_succ_self _) (by omega) (by omega) (by omega) (by unfold uRight; rw [show uLow (bGet b sz a1) = 144 by unfold uLow; (repeat split) <;> omega, show uHigh (bGet b sz a1) = 143 by unfold uHigh; (repeat split) <;> omega]) _ _ ls hM hS (lv_sub hl [0, 1, 2, 4, 5, 6] rfl)
      · refine lv_sipush (v := iI (159)) hx hb d_Utf8_isRight_44 (by decide) ?_
        refine lv_goto (tgt := 66) hx hb d_Utf8_isRight_47 (by decide) ?_
        refine lv_istore (lv' := [(5, .int (iI 159)), (4, .int (iI 144)), (3, .int (iI (bGet b sz a1))), (0, .ref (L i)), (1, .int (iI a1)), (2, .int (iI a2))]) hx hb d_Utf8_isRight_66 hl (by decide) rfl (fun ls hl => ?_)
        refine lv_iconst (v := iI (1)) hx hb d_Utf8_isRight_68 rfl ?_
        refine lv_istore (lv' := [(6, .int (iI 1)), (5, .int (iI 159)), (4, .int (iI 144)), (3, .int (iI (bGet b sz a1))), (0, .ref (L i)), (1, .int (iI a1)), (2, .int (iI a2))]) hx hb d_Utf8_isRight_69 hl (by decide) rfl (fun ls hl => ?_)
        exact loop71 _ 1 144 159 (Nat.lt_succ_self _) (by omega) (by omega) (by omega) (by unfold uRight; rw [show uLow (bGet b sz a1) = 144 by unfold uLow; (repeat split) <;> omega, show uHigh (bGet b sz a1) = 159 by unfold uHigh; (repeat split) <;> omega]) _ _ ls hM hS (lv_sub hl [0, 1, 2, 4, 5, 6] rfl)
  · refine lv_sipush (v := iI (160)) hx hb d_Utf8_isRight_13 (by decide) ?_
    refine lv_goto (tgt := 35) hx hb d_Utf8_isRight_16 (by decide) ?_
    refine lv_istore (lv' := [(4, .int (iI 160)), (3, .int (iI (bGet b sz a1))), (0, .ref (L i)), (1, .int (iI a1)), (2, .int (iI a2))]) hx hb d_Utf8_isRight_35 hl (by decide) rfl (fun ls hl => ?_)
    refine lv_iload_n hx hb d_Utf8_isRight_37 rfl (lv_at hl 1 rfl) ?_
    refine lv_sipush (v := iI (237)) hx hb d_Utf8_isRight_38 (by decide) ?_
    refine ia_icmp_ne (a := bGet b sz a1) (b := 237) (tgt := 50) hx hb d_Utf8_isRight_41 (by decide) (by omega) (by omega) (fun c12 => ?_) (fun c12 => ?_)
    · refine lv_iload_n hx hb d_Utf8_isRight_50 rfl (lv_at hl 1 rfl) ?_
      refine lv_sipush (v := iI (244)) hx hb d_Utf8_isRight_51 (by decide) ?_
      refine ia_icmp_ne (a := bGet b sz a1) (b := 244) (tgt := 63) hx hb d_Utf8_isRight_54 (by decide) (by omega) (by omega) (fun c13 => ?_) (fun c13 => ?_)
      · refine lv_sipush (v := iI (191)) hx hb d_Utf8_isRight_63 (by decide) ?_
        refine lv_istore (lv' := [(5, .int (iI 191)), (4, .int (iI 160)), (3, .int (iI (bGet b sz a1))), (0, .ref (L i)), (1, .int (iI a1)), (2, .int (iI a2))]) hx hb d_Utf8_isRight_66 hl (by decide) rfl (fun ls hl => ?_)
        refine lv_iconst (v := iI (1)) hx hb d_Utf8_isRight_68 rfl ?_
        refine lv_istore (lv' := [(6, .int (iI 1)), (5, .int (iI 191)), (4, .int (iI 160)), (3, .int (iI (bGet b sz a1))), (0, .ref (L i)), (1, .int (iI a1)), (2, .int (iI a2))]) hx hb d_Utf8_isRight_69 hl (by decide) rfl (fun ls hl => ?_)
        exact loop71 _ 1 160 191 (Nat.lt_succ_self _) (by omega) (by omega) (by omega) (by unfold uRight; rw [show uLow (bGet b sz a1) = 160 by unfold uLow; (repeat split) <;> omega, show uHigh (bGet b sz a1) = 191 by unfold uHigh; (repeat split) <;> omega]) _ _ ls hM hS (lv_sub hl [0, 1, 2, 4, 5, 6] rfl)
      · refine lv_sipush (v := iI (143)) hx hb d_Utf8_isRight_57 (by decide) ?_
        refine lv_goto (tgt := 66) hx hb d_Utf8_isRight_60 (by decide) ?_
        refine lv_istore (lv' := [(5, .int (iI 143)), (4, .int (iI 160)), (3, .int (iI (bGet b sz a1))), (0, .ref (L i)), (1, .int (iI a1)), (2, .int (iI a2))]) hx hb d_Utf8_isRight_66 hl (by decide) rfl (fun ls hl => ?_)
        refine lv_iconst (v := iI (1)) hx hb d_Utf8_isRight_68 rfl ?_
        refine lv_istore (lv' := [(6, .int (iI 1)), (5, .int (iI 143)), (4, .int (iI 160)), (3, .int (iI (bGet b sz a1))), (0, .ref (L i)), (1, .int (iI a1)), (2, .int (iI a2))]) hx hb d_Utf8_isRight_69 hl (by decide) rfl (fun ls hl => ?_)
        exact loop71 _ 1 160 143 (Nat.lt_succ_self _) (by omega) (by omega) (by omega) (by unfold uRight; rw [show uLow (bGet b sz a1) = 160 by unfold uLow; (repeat split) <;> omega, show uHigh (bGet b sz a1) = 143 by unfold uHigh; (repeat split) <;> omega]) _ _ ls hM hS (lv_sub hl [0, 1, 2, 4, 5, 6] rfl)
    · refine lv_sipush (v := iI (159)) hx hb d_Utf8_isRight_44 (by decide) ?_
      refine lv_goto (tgt := 66) hx hb d_Utf8_isRight_47 (by decide) ?_
      refine lv_istore (lv' := [(5, .int (iI 159)), (4, .int (iI 160)), (3, .int (iI (bGet b sz a1))), (0, .ref (L i)), (1, .int (iI a1)), (2, .int (iI a2))]) hx hb d_Utf8_isRight_66 hl (by decide) rfl (fun ls hl => ?_)
      refine lv_iconst (v := iI (1)) hx hb d_Utf8_isRight_68 rfl ?_
      refine lv_istore (lv' := [(6, .int (iI 1)), (5, .int (iI 159)), (4, .int (iI 160)), (3, .int (iI (bGet b sz a1))), (0, .ref (L i)), (1, .int (iI a1)), (2, .int (iI a2))]) hx hb d_Utf8_isRight_69 hl (by decide) rfl (fun ls hl => ?_)
      exact loop71 _ 1 160 159 (Nat.lt_succ_self _) (by omega) (by omega) (by omega) (by unfold uRight; rw [show uLow (bGet b sz a1) = 160 by unfold uLow; (repeat split) <;> omega, show uHigh (bGet b sz a1) = 159 by unfold uHigh; (repeat split) <;> omega]) _ _ ls hM hS (lv_sub hl [0, 1, 2, 4, 5, 6] rfl)
set_option maxHeartbeats 4000000 in
set_option maxRecDepth 100000 in
theorem c_Utf8_firstWrong (l : Launch) (D : va_G) (g : Nat → ClassId) (lo : Nat) (L : Nat → Nat) (κ : Nat → Option va_E) (i j mo n sz : Nat) (b : Nat → Int) (hB : bxs g L κ i j mo n sz b) (a1 a2 : Int) (ha1 : 0 ≤ a1 ∧ a1 ≤ 900000) (ha2 : -1 ≤ a2 ∧ a2 ≤ 900000) : Met l y_Utf8_firstWrong w_Utf8_firstWrong ({ frames := 2, cells := 0, slots := 0, locals := 48 }) (mwP D vwCl (tyL g) lo L κ [.ref (L i), .int (iI a1), .int (iI a2)]) (mwQ D vwCl lo (mwR (some (.int (iI (uWrong b sz a1 a2)))) L κ)) 0 0 (fun q => lo ≤ q) := by
  obtain ⟨hz1, hz2, hz3⟩ := hB.2.2.1
  refine Met.ofW (cc := b_Utf8_firstWrong) (maxL := 6) (ret := (Option.some Jvm.ClassFile.FieldType.int)) (by decide) rfl ?_
  intro p e s m args below meth c s₁ B hml hpre
  obtain ⟨hargs, hM, hK⟩ := hpre
  have hx := B.exec
  have hb := B.bytes
  have hr := B.returns
  have hts : ∀ w ∈ wA, w.before args s = true := fun w h => atoms_spec (ws := w_Utf8_firstWrong) B.pre w (List.mem_cons_of_mem _ h)
  have hown : s.vm.findClass R_Utf8 = some m.cls := findClass_of_methodNamed B.named
  have hlocks := B.notSynchronized
  have hS : va_S (fun q => lo ≤ q) s.heap s.heap [] := va_S.rf
  have loop5 : ∀ (N : Nat) (k : Int) (t : Int), (a2 - k).toNat < N → (0 ≤ k ∧ k ≤ 900000) → (0 ≤ t ∧ t ≤ 1000000) → (uWrong b sz a1 a2 = uFw b sz a2 k t) → ∀ (H : Heap) (locs : List Loc) (ls : Array Slot), mw D vwCl lo L κ H → va_S (fun q => lo ≤ q) s.heap H locs → lv_has ls 6 [(4, .int (iI k)), (3, .int (iI t)), (0, .ref (L i)), (1, .int (iI a1)), (2, .int (iI a2))] → W p l e (headSpec w_Utf8_firstWrong ({ frames := 2, cells := 0, slots := 0, locals := 48 })).room s m args below meth c H locs 0 0 (MQ below (mwQ D vwCl lo (mwR (some (.int (iI (uWrong b sz a1 a2)))) L κ)) args s 0 0 (fun q => lo ≤ q)) (F0 m 5 ls []) := by
    intro N
    induction N with
    | zero => intro k t hms; exact absurd hms (Nat.not_lt_zero _)
    | succ N ih =>
      intro k t hms hk ht hres H locs ls hM hS hl
      refine lv_iload hx hb d_Utf8_firstWrong_5 (lv_at hl 0 rfl) ?_
      refine lv_iload_n hx hb d_Utf8_firstWrong_7 rfl (lv_at hl 4 rfl) ?_
      refine ia_icmp_ge (a := k) (b := a2) (tgt := 62) hx hb d_Utf8_firstWrong_8 (by decide) (by omega) (by omega) (fun c1 => ?_) (fun c1 => ?_)
      · refine lv_iconst (v := iI (-1)) hx hb d_Utf8_firstWrong_62 rfl ?_
        exact mw_iret hx hb hr hM hS hlocks d_Utf8_firstWrong_63 (mwR_i (by rw [hres, uFw_end (by omega)]))
      · refine lv_iload_n hx hb d_Utf8_firstWrong_11 rfl (lv_at hl 1 rfl) ?_
        refine lv_iload_n hx hb d_Utf8_firstWrong_12 rfl (lv_at hl 4 rfl) ?_
        refine ia_icmp_ge (a := t) (b := a2) (tgt := 62) hx hb d_Utf8_firstWrong_13 (by decide) (by omega) (by omega) (fun c2 => ?_) (fun c2 => ?_)
        · refine lv_iconst (v := iI (-1)) hx hb d_Utf8_firstWrong_62 rfl ?_
          exact mw_iret hx hb hr hM hS hlocks d_Utf8_firstWrong_63 (mwR_i (by rw [hres, uFw_end (by omega)]))
        · refine lv_aload_n hx hb d_Utf8_firstWrong_16 rfl (lv_at hl 2 rfl) ?_
          refine lv_iload_n hx hb d_Utf8_firstWrong_17 rfl (lv_at hl 1 rfl) ?_
          refine mw_rdV (i := i) (As := [.int (iI t)]) (rest := []) ⟨hx, hb, hml, hown, hts⟩ hK hM hS rfl hB.1 rfl (c_Bytes_get l D g lo L κ i j mo n sz b hB t (by omega)) (cwV 1 hts (gV m_305 m_251 m_252 m_52 m_253) rfl rfl rfl (by decide +kernel) ⟨Nat.le_of_ble_eq_true rfl, Nat.le_of_ble_eq_true rfl⟩) rfl hl.1 rfl (Nat.le_of_ble_eq_true rfl) d_Utf8_firstWrong_18 ⟨Nat.le_of_ble_eq_true rfl, Nat.le_of_ble_eq_true rfl⟩ (fun H locs hM hS => ?_)
          have r3 := bGet_r (sz := sz) hB.2.2.2.1 t
          refine mw_rdS (As := [.int (iI (bGet b sz t))]) (rest := []) ⟨hx, hb, hml, hown, hts⟩ hK hM hS (c_Utf8_lengthBehind l D g lo L κ (bGet b sz t) (by omega)) (cwS 1 hts (gS m_306 m_307 m_60 m_308) rfl rfl rfl (by decide +kernel) ⟨Nat.le_of_ble_eq_true rfl, Nat.le_of_ble_eq_true rfl⟩) rfl hl.1 rfl (Nat.le_of_ble_eq_true rfl) d_Utf8_firstWrong_21 ⟨Nat.le_of_ble_eq_true rfl, Nat.le_of_ble_eq_true rfl⟩ (fun H locs hM hS => ?_)
          have r4 := uLen_r (bGet b sz t)
          refine lv_istore (lv' := [(5, .int (iI (uLen (bGet b sz t)))), (4, .int (iI k)), (3, .int (iI t)), (0, .ref (L i)), (1, .int (iI a1)), (2, .int (iI a2))]) hx hb d_Utf8_firstWrong_24 hl (by decide) rfl (fun ls hl => ?_)
          refine lv_iload hx hb d_Utf8_firstWrong_26 (lv_at hl 0 rfl) ?_
          refine ia_if_eq (a := uLen (bGet b sz t)) (tgt := 49) hx hb d_Utf8_firstWrong_28 (by decide) (by omega) (fun c5 => ?_) (fun c5 => ?_)
          · refine lv_iload_n hx hb d_Utf8_firstWrong_49 rfl (lv_at hl 2 rfl) ?_
            exact mw_iret hx hb hr hM hS hlocks d_Utf8_firstWrong_50 (mwR_i (by rw [hres, uFw_bad (by omega) (by omega) (by first | exact Or.inl (by omega) | exact Or.inr (Or.inl (by omega)) | exact Or.inr (Or.inr (by assumption)))]))
          · refine lv_iload hx hb d_Utf8_firstWrong_31 (lv_at hl 0 rfl) ?_
            refine lv_iload_n hx hb d_Utf8_firstWrong_33 rfl (lv_at hl 5 rfl) ?_
            refine lv_iload_n hx hb d_Utf8_firstWrong_34 rfl (lv_at hl 2 rfl) ?_
            refine ia_sub hx hb d_Utf8_firstWrong_35 ?_
            refine ia_icmp_gt (a := uLen (bGet b sz t)) (b := a2 - t) (tgt := 49) hx hb d_Utf8_firstWrong_36 (by decide) (by omega) (by omega) (fun c6 => ?_) (fun c6 => ?_)
            · refine lv_iload_n hx hb d_Utf8_firstWrong_49 rfl (lv_at hl 2 rfl) ?_
              exact mw_iret hx hb hr hM hS hlocks d_Utf8_firstWrong_50 (mwR_i (by rw [hres, uFw_bad (by omega) (by omega) (by first | exact Or.inl (by omega) | exact Or.inr (Or.inl (by omega)) | exact Or.inr (Or.inr (by assumption)))]))
            · refine lv_aload_n hx hb d_Utf8_firstWrong_39 rfl (lv_at hl 3 rfl) ?_
              refine lv_iload_n hx hb d_Utf8_firstWrong_40 rfl (lv_at hl 2 rfl) ?_
              refine lv_iload hx hb d_Utf8_firstWrong_41 (lv_at hl 0 rfl) ?_
              refine mw_rdS (As := [.ref (L i), .int (iI t), .int (iI (uLen (bGet b sz t)))]) (rest := []) ⟨hx, hb, hml, hown, hts⟩ hK hM hS (c_Utf8_isRight l D g lo L κ i j mo n sz b hB t (uLen (bGet b sz t)) (by omega) (by omega)) (cwS 3 hts (gS m_309 m_310 m_60 m_311) rfl rfl rfl (by decide +kernel) ⟨Nat.le_of_ble_eq_true rfl, Nat.le_of_ble_eq_true rfl⟩) rfl hl.1 rfl (Nat.le_of_ble_eq_true rfl) d_Utf8_firstWrong_43 ⟨Nat.le_of_ble_eq_true rfl, Nat.le_of_ble_eq_true rfl⟩ (fun H locs hM hS => ?_)
              refine ia_ifz_ne (x := uRight b sz t (uLen (bGet b sz t))) (tgt := 51) hx hb d_Utf8_firstWrong_46 (by decide) (fun c7 => ?_) (fun c7 => ?_)
              · refine lv_iload_n hx hb d_Utf8_firstWrong_51 rfl (lv_at hl 2 rfl) ?_
                refine lv_iload hx hb d_Utf8_firstWrong_52 (lv_at hl 0 rfl) ?_
                refine ia_add hx hb d_Utf8_firstWrong_54 ?_
                refine lv_istore_n (lv' := [(3, .int (iI (t + (uLen (bGet b sz t))))), (5, .int (iI (uLen (bGet b sz t)))), (4, .int (iI k)), (0, .ref (L i)), (1, .int (iI a1)), (2, .int (iI a2))]) hx hb d_Utf8_firstWrong_55 rfl hl (by decide) rfl (fun ls hl => ?_)
                refine lv_iinc (v := iI (k + 1)) (lv' := [(4, .int (iI (k + 1))), (3, .int (iI (t + (uLen (bGet b sz t))))), (5, .int (iI (uLen (bGet b sz t)))), (0, .ref (L i)), (1, .int (iI a1)), (2, .int (iI a2))]) hx hb d_Utf8_firstWrong_56 hl (k := 2) rfl (iI_inc _ _) (by decide) rfl (fun ls hl => ?_)
                refine lv_goto (tgt := 5) hx hb d_Utf8_firstWrong_59 (by decide) ?_
                exact ih (k + 1) (t + (uLen (bGet b sz t))) (by omega) (by omega) (by omega) (by rw [hres, uFw_step (by omega) (by omega) (by rintro (q | q | q) <;> first | omega | exact absurd q (by simp_all))]) _ _ ls hM hS (lv_sub hl [0, 1, 3, 4, 5] rfl)
              · refine lv_iload_n hx hb d_Utf8_firstWrong_49 rfl (lv_at hl 2 rfl) ?_
                exact mw_iret hx hb hr hM hS hlocks d_Utf8_firstWrong_50 (mwR_i (by rw [hres, uFw_bad (by omega) (by omega) (by first | exact Or.inl (by omega) | exact Or.inr (Or.inl (by omega)) | exact Or.inr (Or.inr (by assumption)))]))
  obtain ⟨ls, hls, hl⟩ := mw_entry (m := m) [.ref (L i), .int (iI a1), .int (iI a2)] (n := 6) (Nat.le_of_ble_eq_true rfl) hargs
  refine W.eq hls ?_
  have hl : lv_has ls 6 [(0, .ref (L i)), (1, .int (iI a1)), (2, .int (iI a2))] := hl
  refine lv_iload_n hx hb d_Utf8_firstWrong_0 rfl (lv_at hl 1 rfl) ?_
  refine lv_istore_n (lv' := [(3, .int (iI a1)), (0, .ref (L i)), (1, .int (iI a1)), (2, .int (iI a2))]) hx hb d_Utf8_firstWrong_1 rfl hl (by decide) rfl (fun ls hl => ?_)
  refine lv_iload_n hx hb d_Utf8_firstWrong_2 rfl (lv_at hl 2 rfl) ?_
  refine lv_istore (lv' := [(4, .int (iI a1)), (3, .int (iI a1)), (0, .ref (L i)), (1, .int (iI a1)), (2, .int (iI a2))]) hx hb d_Utf8_firstWrong_3 hl (by decide) rfl (fun ls hl => ?_)
  exact loop5 _ a1 a1 (Nat.lt_succ_self _) (by omega) (by omega) rfl _ _ ls hM hS (lv_sub hl [0, 1, 2, 3, 4] rfl)
