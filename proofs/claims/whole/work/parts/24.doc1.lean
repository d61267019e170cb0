set_option maxHeartbeats 4000000 in
set_option maxRecDepth 100000 in
theorem c_Doc_isSlot (l : Launch) (D : va_G) (g : Nat → ClassId) (lo : Nat) (L : Nat → Nat) (κ : Nat → Option va_E) (s0 : Int) (hs0 : -2147483648 ≤ s0 ∧ s0 < 2147483648) : Met l y_Doc_isSlot w_Doc_isSlot ({ frames := 0, cells := 0, slots := 0, locals := 0 }) (mwP D vwCl (tyL g) lo L κ [.int (iI s0)]) (mwQ D vwCl lo (mwR (some (.int (iI (bI (dSlot s0))))) L κ)) 0 0 (fun q => lo ≤ q) := by
  refine Met.ofW (cc := b_Doc_isSlot) (maxL := 1) (ret := (Option.some Jvm.ClassFile.FieldType.boolean)) (by decide) rfl ?_
  intro p e s m args below meth c s₁ B hml hpre
  obtain ⟨hargs, hM, hK⟩ := hpre
  have hx := B.exec
  have hb := B.bytes
  have hr := B.returns
  have hts : ∀ w ∈ wA, w.before args s = true := fun w h => atoms_spec (ws := w_Doc_isSlot) B.pre w (List.mem_cons_of_mem _ h)
  have hown : s.vm.findClass R_Doc = some m.cls := findClass_of_methodNamed B.named
  have hlocks := B.notSynchronized
  have hS : va_S (fun q => lo ≤ q) s.heap s.heap [] := va_S.rf
  obtain ⟨ls, hls, hl⟩ := mw_entry (m := m) [.int (iI s0)] (n := 1) (Nat.le_of_ble_eq_true rfl) hargs
  refine W.eq hls ?_
  have hl : lv_has ls 1 [(0, .int (iI s0))] := hl
  refine lv_iload_n hx hb d_Doc_isSlot_0 rfl (lv_at hl 0 rfl) ?_
  refine ia_if_lt (a := s0) (tgt := 14) hx hb d_Doc_isSlot_1 (by decide) (by omega) (fun c1 => ?_) (fun c1 => ?_)
  · refine lv_iconst (v := iI (0)) hx hb d_Doc_isSlot_14 rfl ?_
    exact mw_zret (v := false) hx hb hr hM hS hlocks d_Doc_isSlot_15 (mwR_z (by exact dSlot_f (by omega)))
  · refine lv_iload_n hx hb d_Doc_isSlot_4 rfl (lv_at hl 0 rfl) ?_
    refine lv_bipush (v := iI (8)) hx hb d_Doc_isSlot_5 (by decide) ?_
    refine ia_icmp_ge (a := s0) (b := 8) (tgt := 14) hx hb d_Doc_isSlot_7 (by decide) (by omega) (by omega) (fun c2 => ?_) (fun c2 => ?_)
    · refine lv_iconst (v := iI (0)) hx hb d_Doc_isSlot_14 rfl ?_
      exact mw_zret (v := false) hx hb hr hM hS hlocks d_Doc_isSlot_15 (mwR_z (by exact dSlot_f (by omega)))
    · refine lv_iconst (v := iI (1)) hx hb d_Doc_isSlot_10 rfl ?_
      refine lv_goto (tgt := 15) hx hb d_Doc_isSlot_11 (by decide) ?_
      exact mw_zret (v := true) hx hb hr hM hS hlocks d_Doc_isSlot_15 (mwR_z (by exact dSlot_t (by omega)))
set_option maxHeartbeats 4000000 in
set_option maxRecDepth 100000 in
theorem c_Doc_nameCountFits (l : Launch) (D : va_G) (g : Nat → ClassId) (lo : Nat) (L : Nat → Nat) (κ : Nat → Option va_E) (scn fpl : Int) (hO : dob L κ scn fpl) (T : Nat → Nat → Int) (cnt d : Nat) (hN : nds g L κ T cnt d) (x a : Int) (hx : -2147483648 ≤ x ∧ x < 2147483648) (ha : -2147483648 ≤ a ∧ a < 2147483648) : Met l y_Doc_nameCountFits w_Doc_nameCountFits ({ frames := 2, cells := 0, slots := 0, locals := 43 }) (mwP D vwCl (tyL g) lo L κ [.ref (L 0), .int (iI x), .int (iI a)]) (mwQ D vwCl lo (mwR (some (.int (iI (bI (dFits T cnt x a))))) L κ)) 0 0 (fun q => lo ≤ q) := by
  have hc0 := hN.2.2.1
  refine Met.ofW (cc := b_Doc_nameCountFits) (maxL := 3) (ret := (Option.some Jvm.ClassFile.FieldType.boolean)) (by decide) rfl ?_
  intro p e s m args below meth c s₁ B hml hpre
  obtain ⟨hargs, hM, hK⟩ := hpre
  have hx := B.exec
  have hb := B.bytes
  have hr := B.returns
  have hts : ∀ w ∈ wA, w.before args s = true := fun w h => atoms_spec (ws := w_Doc_nameCountFits) B.pre w (List.mem_cons_of_mem _ h)
  have hown : s.vm.findClass R_Doc = some m.cls := findClass_of_methodNamed B.named
  have hlocks := B.notSynchronized
  have hS : va_S (fun q => lo ≤ q) s.heap s.heap [] := va_S.rf
  obtain ⟨ls, hls, hl⟩ := mw_entry (m := m) [.ref (L 0), .int (iI x), .int (iI a)] (n := 3) (Nat.le_of_ble_eq_true rfl) hargs
  refine W.eq hls ?_
  have hl : lv_has ls 3 [(0, .ref (L 0)), (1, .int (iI x)), (2, .int (iI a))] := hl
  refine lv_iload_n hx hb d_Doc_nameCountFits_0 rfl (lv_at hl 2 rfl) ?_
  refine ia_if_eq (a := a) (tgt := 16) hx hb d_Doc_nameCountFits_1 (by decide) (by omega) (fun c1 => ?_) (fun c1 => ?_)
  · refine lv_iconst (v := iI (1)) hx hb d_Doc_nameCountFits_16 rfl ?_
    refine lv_goto (tgt := 21) hx hb d_Doc_nameCountFits_17 (by decide) ?_
    exact mw_zret (v := true) hx hb hr hM hS hlocks d_Doc_nameCountFits_21 (mwR_z (by exact (decide_eq_true (by omega)).symm))
  · refine lv_aload_n hx hb d_Doc_nameCountFits_4 rfl (lv_at hl 0 rfl) ?_
    refine mw_get (ci := 3) (i := 0) (v := .ref (L 6)) (C := R_Doc) (T := T_Doc) (N := 7) hx hb hts in_Doc hown hK hM hO rfl rfl 3 (by decide) (hts _ m_188) rfl d_Doc_nameCountFits_5 ?_
    refine lv_iload_n hx hb d_Doc_nameCountFits_8 rfl (lv_at hl 1 rfl) ?_
    refine mw_rdV (i := 6) (As := [.int (iI x)]) (rest := []) ⟨hx, hb, hml, hown, hts⟩ hK hM hS rfl hN.1 rfl (c_Nodes_kind l D g lo L κ T cnt d hN x (by omega)) (cwV 1 hts (gV m_421 m_313 m_314 m_56 m_315) rfl rfl rfl (by decide +kernel) ⟨Nat.le_of_ble_eq_true rfl, Nat.le_of_ble_eq_true rfl⟩) rfl hl.1 rfl (Nat.le_of_ble_eq_true rfl) d_Doc_nameCountFits_9 ⟨Nat.le_of_ble_eq_true rfl, Nat.le_of_ble_eq_true rfl⟩ (fun H locs hM hS => ?_)
    have r2 := nCell_r (cnt := cnt) hN.2.2.2.1 0 x
    refine lv_iconst (v := iI (4)) hx hb d_Doc_nameCountFits_12 rfl ?_
    refine ia_icmp_eq (a := nCell T cnt 0 x) (b := 4) (tgt := 20) hx hb d_Doc_nameCountFits_13 (by decide) (by omega) (by omega) (fun c3 => ?_) (fun c3 => ?_)
    · refine lv_iconst (v := iI (0)) hx hb d_Doc_nameCountFits_20 rfl ?_
      exact mw_zret (v := false) hx hb hr hM hS hlocks d_Doc_nameCountFits_21 (mwR_z (by exact (decide_eq_false (by omega)).symm))
    · refine lv_iconst (v := iI (1)) hx hb d_Doc_nameCountFits_16 rfl ?_
      refine lv_goto (tgt := 21) hx hb d_Doc_nameCountFits_17 (by decide) ?_
      exact mw_zret (v := true) hx hb hr hM hS hlocks d_Doc_nameCountFits_21 (mwR_z (by exact (decide_eq_true (by omega)).symm))
set_option maxHeartbeats 4000000 in
set_option maxRecDepth 100000 in
theorem c_Doc_isFreeName (l : Launch) (D : va_G) (g : Nat → ClassId) (lo : Nat) (L : Nat → Nat) (κ : Nat → Option va_E) (scn fpl : Int) (hO : dob L κ scn fpl) (T : Nat → Nat → Int) (cnt d : Nat) (hN : nds g L κ T cnt d) (j mo n sz : Nat) (b : Nat → Int) (hB : bxs g L κ d j mo n sz b) (moT nT zT : Nat) (bT : Nat → Int) (hT : bxs g L κ 2 3 moT nT zT bT) (x a : Int) (hx0 : -1 ≤ x ∧ x ≤ 1000000) (ha : 0 ≤ a ∧ a ≤ 100000) : Met l y_Doc_isFreeName w_Doc_isFreeName ({ frames := 3, cells := 0, slots := 0, locals := 73 }) (mwP D vwCl (tyL g) lo L κ [.ref (L 0), .int (iI x), .int (iI a)]) (mwQ D vwCl lo (mwR (some (.int (iI (bI (dFree T cnt b sz bT zT x a))))) L κ)) 0 0 (fun q => lo ≤ q) := by
  have hc0 := hN.2.2.1
  obtain ⟨hz1, hz2, hz3⟩ := hB.2.2.1
  obtain ⟨ht1, ht2, ht3⟩ := hT.2.2.1
  refine Met.ofW (cc := b_Doc_isFreeName) (maxL := 3) (ret := (Option.some Jvm.ClassFile.FieldType.boolean)) (by decide) rfl ?_
  intro p e s m args below meth c s₁ B hml hpre
  obtain ⟨hargs, hM, hK⟩ := hpre
  have hx := B.exec
  have hb := B.bytes
  have hr := B.returns
  have hts : ∀ w ∈ wA, w.before args s = true := fun w h => atoms_spec (ws := w_Doc_isFreeName) B.pre w (List.mem_cons_of_mem _ h)
  have hown : s.vm.findClass R_Doc = some m.cls := findClass_of_methodNamed B.named
  have hlocks := B.notSynchronized
  have hS : va_S (fun q => lo ≤ q) s.heap s.heap [] := va_S.rf
  obtain ⟨ls, hls, hl⟩ := mw_entry (m := m) [.ref (L 0), .int (iI x), .int (iI a)] (n := 3) (Nat.le_of_ble_eq_true rfl) hargs
  refine W.eq hls ?_
  have hl : lv_has ls 3 [(0, .ref (L 0)), (1, .int (iI x)), (2, .int (iI a))] := hl
  refine lv_aload_n hx hb d_Doc_isFreeName_0 rfl (lv_at hl 0 rfl) ?_
  refine mw_get (ci := 3) (i := 0) (v := .ref (L 2)) (C := R_Doc) (T := T_Doc) (N := 7) hx hb hts in_Doc hown hK hM hO rfl rfl 0 (by decide) (hts _ m_185) rfl d_Doc_isFreeName_1 ?_
  refine lv_iconst (v := iI (0)) hx hb d_Doc_isFreeName_4 rfl ?_
  refine lv_iload_n hx hb d_Doc_isFreeName_5 rfl (lv_at hl 2 rfl) ?_
  refine mw_rdV (i := 2) (As := [.int (iI 0), .int (iI a)]) (rest := []) ⟨hx, hb, hml, hown, hts⟩ hK hM hS rfl hT.1 rfl (c_Bytes_firstZero l D g lo L κ 2 3 moT nT zT bT hT 0 a (by omega) (by omega)) (cwV 2 hts (gV m_494 m_299 m_300 m_52 m_301) rfl rfl rfl (by decide +kernel) ⟨Nat.le_of_ble_eq_true rfl, Nat.le_of_ble_eq_true rfl⟩) rfl hl.1 rfl (Nat.le_of_ble_eq_true rfl) d_Doc_isFreeName_6 ⟨Nat.le_of_ble_eq_true rfl, Nat.le_of_ble_eq_true rfl⟩ (fun H locs hM hS => ?_)
  have r1 := bFz_r bT zT 0 a
  refine lv_iconst (v := iI (-1)) hx hb d_Doc_isFreeName_9 rfl ?_
  refine ia_icmp_ne (a := bFz bT zT 0 a) (b := -1) (tgt := 48) hx hb d_Doc_isFreeName_10 (by decide) (by omega) (by omega) (fun c2 => ?_) (fun c2 => ?_)
  · refine lv_iconst (v := iI (0)) hx hb d_Doc_isFreeName_48 rfl ?_
    exact mw_zret (v := false) hx hb hr hM hS hlocks d_Doc_isFreeName_49 (mwR_z (by exact (decide_eq_false (by omega)).symm))
  · refine lv_aload_n hx hb d_Doc_isFreeName_13 rfl (lv_at hl 0 rfl) ?_
    refine mw_get (ci := 3) (i := 0) (v := .ref (L 2)) (C := R_Doc) (T := T_Doc) (N := 7) hx hb hts in_Doc hown hK hM hO rfl rfl 0 (by decide) (hts _ m_185) rfl d_Doc_isFreeName_14 ?_
    refine lv_iconst (v := iI (0)) hx hb d_Doc_isFreeName_17 rfl ?_
    refine lv_iload_n hx hb d_Doc_isFreeName_18 rfl (lv_at hl 2 rfl) ?_
    refine mw_rdS (As := [.ref (L 2), .int (iI 0), .int (iI a)]) (rest := []) ⟨hx, hb, hml, hown, hts⟩ hK hM hS (c_Utf8_firstWrong l D g lo L κ 2 3 moT nT zT bT hT 0 a (by omega) (by omega)) (va_cwS 3 hts (gT m_479 m_303 m_60 m_304) rfl rfl rfl (by decide +kernel) ⟨Nat.le_of_ble_eq_true rfl, Nat.le_of_ble_eq_true rfl⟩) rfl hl.1 rfl (Nat.le_of_ble_eq_true rfl) d_Doc_isFreeName_19 ⟨Nat.le_of_ble_eq_true rfl, Nat.le_of_ble_eq_true rfl⟩ (fun H locs hM hS => ?_)
    have r3 := uWrong_r bT zT 0 a
    refine lv_iconst (v := iI (-1)) hx hb d_Doc_isFreeName_22 rfl ?_
    refine ia_icmp_ne (a := uWrong bT zT 0 a) (b := -1) (tgt := 48) hx hb d_Doc_isFreeName_23 (by decide) (by omega) (by omega) (fun c4 => ?_) (fun c4 => ?_)
    · refine lv_iconst (v := iI (0)) hx hb d_Doc_isFreeName_48 rfl ?_
      exact mw_zret (v := false) hx hb hr hM hS hlocks d_Doc_isFreeName_49 (mwR_z (by exact (decide_eq_false (by omega)).symm))
    · refine lv_aload_n hx hb d_Doc_isFreeName_26 rfl (lv_at hl 0 rfl) ?_
      refine mw_get (ci := 3) (i := 0) (v := .ref (L 6)) (C := R_Doc) (T := T_Doc) (N := 7) hx hb hts in_Doc hown hK hM hO rfl rfl 3 (by decide) (hts _ m_188) rfl d_Doc_isFreeName_27 ?_
      refine lv_iload_n hx hb d_Doc_isFreeName_30 rfl (lv_at hl 1 rfl) ?_
      refine lv_aload_n hx hb d_Doc_isFreeName_31 rfl (lv_at hl 0 rfl) ?_
      refine mw_get (ci := 3) (i := 0) (v := .ref (L 2)) (C := R_Doc) (T := T_Doc) (N := 7) hx hb hts in_Doc hown hK hM hO rfl rfl 0 (by decide) (hts _ m_185) rfl d_Doc_isFreeName_32 ?_
      refine lv_iconst (v := iI (0)) hx hb d_Doc_isFreeName_35 rfl ?_
      refine lv_iload_n hx hb d_Doc_isFreeName_36 rfl (lv_at hl 2 rfl) ?_
      refine mw_rdV (i := 6) (As := [.int (iI x), .ref (L 2), .int (iI 0), .int (iI a)]) (rest := []) ⟨hx, hb, hml, hown, hts⟩ hK hM hS rfl hN.1 rfl (c_Nodes_named l D g lo L κ T cnt d hN j mo n sz b hB 2 3 moT nT zT bT hT x 0 a (by omega) (by omega) (by omega)) (cwV 4 hts (gV m_457 m_328 m_329 m_56 m_330) rfl rfl rfl (by decide +kernel) ⟨Nat.le_of_ble_eq_true rfl, Nat.le_of_ble_eq_true rfl⟩) rfl hl.1 rfl (Nat.le_of_ble_eq_true rfl) d_Doc_isFreeName_37 ⟨Nat.le_of_ble_eq_true rfl, Nat.le_of_ble_eq_true rfl⟩ (fun H locs hM hS => ?_)
      have r5 := nNamed_r T cnt b sz x bT zT 0 a
      refine lv_iconst (v := iI (-1)) hx hb d_Doc_isFreeName_40 rfl ?_
      refine ia_icmp_ne (a := nNamed T cnt b sz x bT zT 0 a) (b := -1) (tgt := 48) hx hb d_Doc_isFreeName_41 (by decide) (by omega) (by omega) (fun c6 => ?_) (fun c6 => ?_)
      · refine lv_iconst (v := iI (0)) hx hb d_Doc_isFreeName_48 rfl ?_
        exact mw_zret (v := false) hx hb hr hM hS hlocks d_Doc_isFreeName_49 (mwR_z (by exact (decide_eq_false (by omega)).symm))
      · refine lv_iconst (v := iI (1)) hx hb d_Doc_isFreeName_44 rfl ?_
        refine lv_goto (tgt := 49) hx hb d_Doc_isFreeName_45 (by decide) ?_
        exact mw_zret (v := true) hx hb hr hM hS hlocks d_Doc_isFreeName_49 (mwR_z (by exact (decide_eq_true (by omega)).symm))
set_option maxHeartbeats 4000000 in
set_option maxRecDepth 100000 in
theorem c_Doc_resizeUpwards (l : Launch) (D : va_G) (g : Nat → ClassId) (lo : Nat) (L : Nat → Nat) (κ : Nat → Option va_E) (scn fpl : Int) (hO : dob L κ scn fpl) (T : Nat → Nat → Int) (cnt d : Nat) (hN : nds g L κ T cnt d) (i j mo n sz : Nat) (b : Nat → Int) (hB : bxs g L κ i j mo n sz b) (x ch : Int) (hi : (i ≠ 0 ∧ 14 < i) ∧ 14 < j) (hx0 : -1000000 ≤ x ∧ x ≤ 1000000) (hch : -100000 ≤ ch ∧ ch ≤ 100000) : Met l y_Doc_resizeUpwards w_Doc_resizeUpwards ({ frames := 2, cells := 0, slots := 0, locals := 47 }) (mwP D vwCl (tyL g) lo L κ [.ref (L 0), .ref (L i), .int (iI x), .int (iI ch)]) (mwQ D vwCl lo (bxU g L κ i j mo n sz (rzF T cnt sz ch 0 x b))) 0 0 (fun q => lo ≤ q) := by
  have hc0 := hN.2.2.1
  obtain ⟨hz1, hz2, hz3⟩ := hB.2.2.1
  have hij := bxs_ne hB
  refine Met.ofW (cc := b_Doc_resizeUpwards) (maxL := 7) (ret := (Option.none : Option Jvm.ClassFile.FieldType)) (by decide) rfl ?_
  intro p e s m args below meth c s₁ B hml hpre
  obtain ⟨hargs, hM, hK⟩ := hpre
  have hx := B.exec
  have hb := B.bytes
  have hr := B.returns
  have hts : ∀ w ∈ wA, w.before args s = true := fun w h => atoms_spec (ws := w_Doc_resizeUpwards) B.pre w (List.mem_cons_of_mem _ h)
  have hown : s.vm.findClass R_Doc = some m.cls := findClass_of_methodNamed B.named
  have hlocks := B.notSynchronized
  have hS : va_S (fun q => lo ≤ q) s.heap s.heap [] := va_S.rf
  have loop6 : ∀ (N : Nat) (k : Int) (ar : Int) (b1 : Nat → Int) (κ1 : Nat → Option va_E), (16 - k).toNat < N → (0 ≤ k ∧ k ≤ 16) → (-1000000 ≤ ar ∧ ar ≤ 1000000) → (dob L κ1 scn fpl) → (nds g L κ1 T cnt d) → (bxs g L κ1 i j mo n sz b1) → (∀ r, r ≠ i → r ≠ j → κ1 r = κ r) → (rzF T cnt sz ch 0 x b = rzF T cnt sz ch k ar b1) → ∀ (H : Heap) (locs : List Loc) (ls : Array Slot), mw D vwCl lo L κ1 H → va_S (fun q => lo ≤ q) s.heap H locs → lv_has ls 7 [(5, .int (iI k)), (4, .int (iI ar)), (0, .ref (L 0)), (1, .ref (L i)), (2, .int (iI x)), (3, .int (iI ch))] → W p l e (headSpec w_Doc_resizeUpwards ({ frames := 2, cells := 0, slots := 0, locals := 47 })).room s m args below meth c H locs 0 0 (MQ below (mwQ D vwCl lo (bxU g L κ i j mo n sz (rzF T cnt sz ch 0 x b))) args s 0 0 (fun q => lo ≤ q)) (F0 m 6 ls []) := by
    intro N
    induction N with
    | zero => intro k ar b1 κ1 hms; exact absurd hms (Nat.not_lt_zero _)
    | succ N ih =>
      intro k ar b1 κ1 hms hk har hO1 hN1 hB1 hf hres H locs ls hM hS hl
      refine lv_iload hx hb d_Doc_resizeUpwards_6 (lv_at hl 0 rfl) ?_
      refine lv_bipush (v := iI (16)) hx hb d_Doc_resizeUpwards_8 (by decide) ?_
      refine ia_icmp_ge (a := k) (b := 16) (tgt := 63) hx hb d_Doc_resizeUpwards_10 (by decide) (by omega) (by omega) (fun c1 => ?_) (fun c1 => ?_)
      · exact mw_vret hx hb hr hM hS hlocks d_Doc_resizeUpwards_63 ⟨rfl, rfl, by rw [hres, rzF_end (by omega)]; exact hB1, hf⟩
      · refine lv_iload hx hb d_Doc_resizeUpwards_13 (lv_at hl 1 rfl) ?_
        refine ia_if_lt (a := ar) (tgt := 63) hx hb d_Doc_resizeUpwards_15 (by decide) (by omega) (fun c2 => ?_) (fun c2 => ?_)
        · exact mw_vret hx hb hr hM hS hlocks d_Doc_resizeUpwards_63 ⟨rfl, rfl, by rw [hres, rzF_end (by omega)]; exact hB1, hf⟩
        · refine lv_aload_n hx hb d_Doc_resizeUpwards_18 rfl (lv_at hl 2 rfl) ?_
          refine mw_get (ci := 3) (i := 0) (v := .ref (L 6)) (C := R_Doc) (T := T_Doc) (N := 7) hx hb hts in_Doc hown hK hM hO1 rfl rfl 3 (by decide) (hts _ m_188) rfl d_Doc_resizeUpwards_19 ?_
          refine lv_iload hx hb d_Doc_resizeUpwards_22 (lv_at hl 1 rfl) ?_
          refine mw_rdV (i := 6) (As := [.int (iI ar)]) (rest := []) ⟨hx, hb, hml, hown, hts⟩ hK hM hS rfl hN1.1 rfl (c_Nodes_value l D g lo L κ1 T cnt d hN1 ar (by omega)) (cwV 1 hts (gV m_442 m_443 m_444 m_56 m_445) rfl rfl rfl (by decide +kernel) ⟨Nat.le_of_ble_eq_true rfl, Nat.le_of_ble_eq_true rfl⟩) rfl hl.1 rfl (Nat.le_of_ble_eq_true rfl) d_Doc_resizeUpwards_24 ⟨Nat.le_of_ble_eq_true rfl, Nat.le_of_ble_eq_true rfl⟩ (fun H locs hM hS => ?_)
          have r3 := nCell_r (cnt := cnt) hN1.2.2.2.1 4 ar
          refine lv_istore (lv' := [(6, .int (iI (nCell T cnt 4 ar))), (5, .int (iI k)), (4, .int (iI ar)), (0, .ref (L 0)), (1, .ref (L i)), (2, .int (iI x)), (3, .int (iI ch))]) hx hb d_Doc_resizeUpwards_27 hl (by decide) rfl (fun ls hl => ?_)
          refine lv_aload_n hx hb d_Doc_resizeUpwards_29 rfl (lv_at hl 4 rfl) ?_
          refine lv_iload hx hb d_Doc_resizeUpwards_30 (lv_at hl 0 rfl) ?_
          refine lv_iconst (v := iI (4)) hx hb d_Doc_resizeUpwards_32 rfl ?_
          refine lv_aload_n hx hb d_Doc_resizeUpwards_33 rfl (lv_at hl 4 rfl) ?_
          refine lv_iload hx hb d_Doc_resizeUpwards_34 (lv_at hl 0 rfl) ?_
          refine lv_iconst (v := iI (4)) hx hb d_Doc_resizeUpwards_36 rfl ?_
          refine mw_rdV (i := i) (As := [.int (iI (nCell T cnt 4 ar)), .int (iI 4)]) (rest := [.int (iI 4), .int (iI (nCell T cnt 4 ar)), .ref (L i)]) ⟨hx, hb, hml, hown, hts⟩ hK hM hS rfl hB1.1 rfl (c_Bytes_numberAt l D g lo L κ1 i j mo n sz b1 hB1 (nCell T cnt 4 ar) 4 (by omega) (by omega)) (cwV 2 hts (gV m_447 m_247 m_248 m_52 m_249) rfl rfl rfl (by decide +kernel) ⟨Nat.le_of_ble_eq_true rfl, Nat.le_of_ble_eq_true rfl⟩) rfl hl.1 rfl (Nat.le_of_ble_eq_true rfl) d_Doc_resizeUpwards_37 ⟨Nat.le_of_ble_eq_true rfl, Nat.le_of_ble_eq_true rfl⟩ (fun H locs hM hS => ?_)
          have r4 := bNum4_r b1 sz (nCell T cnt 4 ar)
          refine lv_iload_n hx hb d_Doc_resizeUpwards_40 rfl (lv_at hl 6 rfl) ?_
          refine ia_i2l hx hb (by omega) d_Doc_resizeUpwards_41 ?_
          refine ia_ladd hx hb d_Doc_resizeUpwards_42 ?_
          refine mw_callV (i := i) (As := [.int (iI (nCell T cnt 4 ar)), .int (iI 4), .long (lI ((bNum b1 sz (nCell T cnt 4 ar) 3 0) + ch))]) (rest := []) ⟨hx, hb, hml, hown, hts⟩ hK hM hS rfl hB1.1 rfl (c_Bytes_putNumber l D g lo L κ1 i j mo n sz b1 hB1 (nCell T cnt 4 ar) 4 ((bNum b1 sz (nCell T cnt 4 ar) 3 0) + ch) (by omega) (by omega) (by omega)) (cwV 3 hts (gV m_513 m_118 m_119 m_52 m_120) rfl rfl rfl (by decide +kernel) ⟨Nat.le_of_ble_eq_true rfl, Nat.le_of_ble_eq_true rfl⟩) rfl hl.1 rfl (Nat.le_of_ble_eq_true rfl) d_Doc_resizeUpwards_43 ⟨Nat.le_of_ble_eq_true rfl, Nat.le_of_ble_eq_true rfl⟩ (fun v5 L5 κ5 H locs hp5 hM hS => ?_)
          obtain ⟨rfl, rfl, hB5, hk5⟩ := hp5
          have hN6 := nds_keep hN1 (fun r h1 h2 => hk5 r (by omega) (by omega)) (fun r h1 h2 => rfl) rfl
          have e7 := (hk5 0 (by omega) (by omega)).trans hO1
          refine lv_aload_n hx hb d_Doc_resizeUpwards_46 rfl (lv_at hl 3 rfl) ?_
          refine mw_get (ci := 3) (i := 0) (v := .ref (L 6)) (C := R_Doc) (T := T_Doc) (N := 7) hx hb hts in_Doc hown hK hM e7 rfl rfl 3 (by decide) (hts _ m_188) rfl d_Doc_resizeUpwards_47 ?_
          refine lv_iload hx hb d_Doc_resizeUpwards_50 (lv_at hl 2 rfl) ?_
          refine mw_rdV (i := 6) (As := [.int (iI ar)]) (rest := []) ⟨hx, hb, hml, hown, hts⟩ hK hM hS rfl hN6.1 rfl (c_Nodes_parent l D g lo L κ5 T cnt d hN6 ar (by omega)) (cwV 1 hts (gV m_422 m_280 m_281 m_56 m_282) rfl rfl rfl (by decide +kernel) ⟨Nat.le_of_ble_eq_true rfl, Nat.le_of_ble_eq_true rfl⟩) rfl hl.1 rfl (Nat.le_of_ble_eq_true rfl) d_Doc_resizeUpwards_52 ⟨Nat.le_of_ble_eq_true rfl, Nat.le_of_ble_eq_true rfl⟩ (fun H locs hM hS => ?_)
          have r8 := nCell_r (cnt := cnt) hN6.2.2.2.1 1 ar
          refine lv_istore (lv' := [(4, .int (iI (nCell T cnt 1 ar))), (6, .int (iI (nCell T cnt 4 ar))), (5, .int (iI k)), (0, .ref (L 0)), (1, .ref (L i)), (2, .int (iI x)), (3, .int (iI ch))]) hx hb d_Doc_resizeUpwards_55 hl (by decide) rfl (fun ls hl => ?_)
          refine lv_iinc (v := iI (k + 1)) (lv' := [(5, .int (iI (k + 1))), (4, .int (iI (nCell T cnt 1 ar))), (6, .int (iI (nCell T cnt 4 ar))), (0, .ref (L 0)), (1, .ref (L i)), (2, .int (iI x)), (3, .int (iI ch))]) hx hb d_Doc_resizeUpwards_57 hl (k := 2) rfl (iI_inc _ _) (by decide) rfl (fun ls hl => ?_)
          refine lv_goto (tgt := 6) hx hb d_Doc_resizeUpwards_60 (by decide) ?_
          exact ih (k + 1) (nCell T cnt 1 ar) (bPn sz (nCell T cnt 4 ar) ((bNum b1 sz (nCell T cnt 4 ar) 3 0) + ch) 4 0 b1) κ5 (by omega) (by omega) (by omega) e7 hN6 hB5 (fun r h1 h2 => (hk5 r h1 h2).trans (hf r h1 h2)) (by rw [hres, rzF_step (by omega) (by omega)]) _ _ ls hM hS (lv_sub hl [0, 1, 3, 4, 5, 6] rfl)
  obtain ⟨ls, hls, hl⟩ := mw_entry (m := m) [.ref (L 0), .ref (L i), .int (iI x), .int (iI ch)] (n := 7) (Nat.le_of_ble_eq_true rfl) hargs
  refine W.eq hls ?_
  have hl : lv_has ls 7 [(0, .ref (L 0)), (1, .ref (L i)), (2, .int (iI x)), (3, .int (iI ch))] := hl
  refine lv_iload_n hx hb d_Doc_resizeUpwards_0 rfl (lv_at hl 2 rfl) ?_
  refine lv_istore (lv' := [(4, .int (iI x)), (0, .ref (L 0)), (1, .ref (L i)), (2, .int (iI x)), (3, .int (iI ch))]) hx hb d_Doc_resizeUpwards_1 hl (by decide) rfl (fun ls hl => ?_)
  refine lv_iconst (v := iI (0)) hx hb d_Doc_resizeUpwards_3 rfl ?_
  refine lv_istore (lv' := [(5, .int (iI 0)), (4, .int (iI x)), (0, .ref (L 0)), (1, .ref (L i)), (2, .int (iI x)), (3, .int (iI ch))]) hx hb d_Doc_resizeUpwards_4 hl (by decide) rfl (fun ls hl => ?_)
  exact loop6 _ 0 x b κ (Nat.lt_succ_self _) (by omega) (by omega) hO hN hB (fun r h1 h2 => rfl) rfl _ _ ls hM hS (lv_sub hl [0, 1, 2, 3, 4, 5] rfl)
set_option maxHeartbeats 4000000 in
set_option maxRecDepth 100000 in
theorem c_Doc_renumberBehind (l : Launch) (D : va_G) (g : Nat → ClassId) (lo : Nat) (L : Nat → Nat) (κ : Nat → Option va_E) (scn fpl : Int) (hO : dob L κ scn fpl) (T : Nat → Nat → Int) (cnt d : Nat) (hN : nds g L κ T cnt d) (i j mo n sz : Nat) (b : Nat → Int) (hB : bxs g L κ i j mo n sz b) (row x : Int) (hi : (i ≠ 0 ∧ 14 < i) ∧ 14 < j) (hrow : 0 ≤ row ∧ row ≤ 1000) (hx0 : 0 ≤ x ∧ x ≤ 1000) (hgood : rnG T cnt row x (nBeh T cnt row - 1) (nCell T cnt 6 row - 1) sz) : Met l y_Doc_renumberBehind w_Doc_renumberBehind ({ frames := 2, cells := 0, slots := 0, locals := 62 }) (mwP D vwCl (tyL g) lo L κ [.ref (L 0), .ref (L i), .int (iI row), .int (iI x)]) (mwQ D vwCl lo (bxU g L κ i j mo n (rnF T cnt row x (nBeh T cnt row - 1) (nCell T cnt 6 row - 1) sz b).1 (rnF T cnt row x (nBeh T cnt row - 1) (nCell T cnt 6 row - 1) sz b).2)) 0 0 (fun q => lo ≤ q) := by
  have hc0 := hN.2.2.1
  obtain ⟨hz1, hz2, hz3⟩ := hB.2.2.1
  have hij := bxs_ne hB
  have hbr := nBeh_r T cnt row
  have hcr := nCell_r (cnt := cnt) hN.2.2.2.1 6 row
  refine Met.ofW (cc := b_Doc_renumberBehind) (maxL := 7) (ret := (Option.none : Option Jvm.ClassFile.FieldType)) (by decide) rfl ?_
  intro p e s m args below meth c s₁ B hml hpre
  obtain ⟨hargs, hM, hK⟩ := hpre
  have hx := B.exec
  have hb := B.bytes
  have hr := B.returns
  have hts : ∀ w ∈ wA, w.before args s = true := fun w h => atoms_spec (ws := w_Doc_renumberBehind) B.pre w (List.mem_cons_of_mem _ h)
  have hown : s.vm.findClass R_Doc = some m.cls := findClass_of_methodNamed B.named
  have hlocks := B.notSynchronized
  have hS : va_S (fun q => lo ≤ q) s.heap s.heap [] := va_S.rf
  have loop24 : ∀ (N : Nat) (k : Int) (ix : Int) (z1 : Nat) (b1 : Nat → Int) (κ1 : Nat → Option va_E), (k - x).toNat < N → (-1000000 ≤ k ∧ k ≤ 1000000) → (-2000000 ≤ ix ∧ ix ≤ 2000000) → (dob L κ1 scn fpl) → (nds g L κ1 T cnt d) → (bxs g L κ1 i j mo n z1 b1) → (∀ r, r ≠ i → r ≠ j → κ1 r = κ r) → (rnF T cnt row x (nBeh T cnt row - 1) (nCell T cnt 6 row - 1) sz b = rnF T cnt row x k ix z1 b1) → (rnG T cnt row x k ix z1) → ∀ (H : Heap) (locs : List Loc) (ls : Array Slot), mw D vwCl lo L κ1 H → va_S (fun q => lo ≤ q) s.heap H locs → lv_has ls 7 [(5, .int (iI k)), (4, .int (iI ix)), (0, .ref (L 0)), (1, .ref (L i)), (2, .int (iI row)), (3, .int (iI x))] → W p l e (headSpec w_Doc_renumberBehind ({ frames := 2, cells := 0, slots := 0, locals := 62 })).room s m args below meth c H locs 0 0 (MQ below (mwQ D vwCl lo (bxU g L κ i j mo n (rnF T cnt row x (nBeh T cnt row - 1) (nCell T cnt 6 row - 1) sz b).1 (rnF T cnt row x (nBeh T cnt row - 1) (nCell T cnt 6 row - 1) sz b).2)) args s 0 0 (fun q => lo ≤ q)) (F0 m 24 ls []) := by
    intro N
    induction N with
    | zero => intro k ix z1 b1 κ1 hms; exact absurd hms (Nat.not_lt_zero _)
    | succ N ih =>
      intro k ix z1 b1 κ1 hms hk hix hO1 hN1 hB1 hf hres hgd H locs ls hM hS hl
      have hz4 := hB1.2.2.1
      refine lv_iload hx hb d_Doc_renumberBehind_24 (lv_at hl 0 rfl) ?_
      refine lv_iload_n hx hb d_Doc_renumberBehind_26 rfl (lv_at hl 5 rfl) ?_
      refine ia_icmp_le (a := k) (b := x) (tgt := 101) hx hb d_Doc_renumberBehind_27 (by decide) (by omega) (by omega) (fun c1 => ?_) (fun c1 => ?_)
      · exact mw_vret hx hb hr hM hS hlocks d_Doc_renumberBehind_101 ⟨rfl, rfl, by rw [hres, rnF_end (by omega)]; exact hB1, hf⟩
      · refine lv_aload_n hx hb d_Doc_renumberBehind_30 rfl (lv_at hl 2 rfl) ?_
        refine mw_get (ci := 3) (i := 0) (v := .ref (L 6)) (C := R_Doc) (T := T_Doc) (N := 7) hx hb hts in_Doc hown hK hM hO1 rfl rfl 3 (by decide) (hts _ m_188) rfl d_Doc_renumberBehind_31 ?_
        refine lv_iload hx hb d_Doc_renumberBehind_34 (lv_at hl 0 rfl) ?_
        refine mw_rdV (i := 6) (As := [.int (iI k)]) (rest := []) ⟨hx, hb, hml, hown, hts⟩ hK hM hS rfl hN1.1 rfl (c_Nodes_parent l D g lo L κ1 T cnt d hN1 k (by omega)) (cwV 1 hts (gV m_422 m_280 m_281 m_56 m_282) rfl rfl rfl (by decide +kernel) ⟨Nat.le_of_ble_eq_true rfl, Nat.le_of_ble_eq_true rfl⟩) rfl hl.1 rfl (Nat.le_of_ble_eq_true rfl) d_Doc_renumberBehind_36 ⟨Nat.le_of_ble_eq_true rfl, Nat.le_of_ble_eq_true rfl⟩ (fun H locs hM hS => ?_)
        have r2 := nCell_r (cnt := cnt) hN1.2.2.2.1 1 k
        refine lv_iload_n hx hb d_Doc_renumberBehind_39 rfl (lv_at hl 4 rfl) ?_
        refine ia_icmp_ne (a := nCell T cnt 1 k) (b := row) (tgt := 95) hx hb d_Doc_renumberBehind_40 (by decide) (by omega) (by omega) (fun c3 => ?_) (fun c3 => ?_)
        · refine lv_iinc (v := iI (k + (-1))) (lv' := [(5, .int (iI (k + (-1)))), (4, .int (iI ix)), (0, .ref (L 0)), (1, .ref (L i)), (2, .int (iI row)), (3, .int (iI x))]) hx hb d_Doc_renumberBehind_95 hl (k := 0) rfl (iI_inc _ _) (by decide) rfl (fun ls hl => ?_)
          refine lv_goto (tgt := 24) hx hb d_Doc_renumberBehind_98 (by decide) ?_
          exact ih (k + (-1)) ix z1 b1 κ1 (by omega) (by omega) (by omega) hO1 hN1 hB1 hf (by rw [hres, rnF_miss (by omega) (by omega)]) (rnG_miss (by omega) (by omega) hgd) _ _ ls hM hS (lv_sub hl [0, 1, 2, 3, 4, 5] rfl)
        · have hgd1 := (rnG_hit (by omega) (by omega) hgd).1
          refine lv_iinc (v := iI (ix + (-1))) (lv' := [(4, .int (iI (ix + (-1)))), (5, .int (iI k)), (0, .ref (L 0)), (1, .ref (L i)), (2, .int (iI row)), (3, .int (iI x))]) hx hb d_Doc_renumberBehind_43 hl (k := 1) rfl (iI_inc _ _) (by decide) rfl (fun ls hl => ?_)
          refine lv_iload hx hb d_Doc_renumberBehind_46 (lv_at hl 0 rfl) ?_
          refine mw_rdS (As := [.int (iI (ix + (-1)))]) (rest := []) ⟨hx, hb, hml, hown, hts⟩ hK hM hS (c_Bytes_digits l D g lo L κ1 (ix + (-1)) (by omega)) (va_cwS 1 hts (gT m_495 m_325 m_52 m_326) rfl rfl rfl (by decide +kernel) ⟨Nat.le_of_ble_eq_true rfl, Nat.le_of_ble_eq_true rfl⟩) rfl hl.1 rfl (Nat.le_of_ble_eq_true rfl) d_Doc_renumberBehind_48 ⟨Nat.le_of_ble_eq_true rfl, Nat.le_of_ble_eq_true rfl⟩ (fun H locs hM hS => ?_)
          have r4 := bDigits_r (ix + (-1))
          refine lv_istore (lv' := [(6, .int (iI (bDigits (ix + (-1))))), (4, .int (iI (ix + (-1)))), (5, .int (iI k)), (0, .ref (L 0)), (1, .ref (L i)), (2, .int (iI row)), (3, .int (iI x))]) hx hb d_Doc_renumberBehind_51 hl (by decide) rfl (fun ls hl => ?_)
          refine lv_aload_n hx hb d_Doc_renumberBehind_53 rfl (lv_at hl 4 rfl) ?_
          refine lv_aload_n hx hb d_Doc_renumberBehind_54 rfl (lv_at hl 3 rfl) ?_
          refine mw_get (ci := 3) (i := 0) (v := .ref (L 6)) (C := R_Doc) (T := T_Doc) (N := 7) hx hb hts in_Doc hown hK hM hO1 rfl rfl 3 (by decide) (hts _ m_188) rfl d_Doc_renumberBehind_55 ?_
          refine lv_iload hx hb d_Doc_renumberBehind_58 (lv_at hl 2 rfl) ?_
          refine mw_rdV (i := 6) (As := [.int (iI k)]) (rest := [.ref (L i)]) ⟨hx, hb, hml, hown, hts⟩ hK hM hS rfl hN1.1 rfl (c_Nodes_name l D g lo L κ1 T cnt d hN1 k (by omega)) (cwV 1 hts (gV m_452 m_337 m_338 m_56 m_339) rfl rfl rfl (by decide +kernel) ⟨Nat.le_of_ble_eq_true rfl, Nat.le_of_ble_eq_true rfl⟩) rfl hl.1 rfl (Nat.le_of_ble_eq_true rfl) d_Doc_renumberBehind_60 ⟨Nat.le_of_ble_eq_true rfl, Nat.le_of_ble_eq_true rfl⟩ (fun H locs hM hS => ?_)
          have r5 := nCell_r (cnt := cnt) hN1.2.2.2.1 3 k
          refine lv_aload_n hx hb d_Doc_renumberBehind_63 rfl (lv_at hl 3 rfl) ?_
          refine mw_get (ci := 3) (i := 0) (v := .ref (L 6)) (C := R_Doc) (T := T_Doc) (N := 7) hx hb hts in_Doc hown hK hM hO1 rfl rfl 3 (by decide) (hts _ m_188) rfl d_Doc_renumberBehind_64 ?_
          refine lv_iload hx hb d_Doc_renumberBehind_67 (lv_at hl 2 rfl) ?_
          refine mw_rdV (i := 6) (As := [.int (iI k)]) (rest := [.int (iI (nCell T cnt 3 k)), .ref (L i)]) ⟨hx, hb, hml, hown, hts⟩ hK hM hS rfl hN1.1 rfl (c_Nodes_nameLength l D g lo L κ1 T cnt d hN1 k (by omega)) (cwV 1 hts (gV m_428 m_333 m_334 m_56 m_335) rfl rfl rfl (by decide +kernel) ⟨Nat.le_of_ble_eq_true rfl, Nat.le_of_ble_eq_true rfl⟩) rfl hl.1 rfl (Nat.le_of_ble_eq_true rfl) d_Doc_renumberBehind_69 ⟨Nat.le_of_ble_eq_true rfl, Nat.le_of_ble_eq_true rfl⟩ (fun H locs hM hS => ?_)
          have r6 := nCell_r (cnt := cnt) hN1.2.2.2.1 4 k
          have r7 := nCell_r (cnt := cnt) hN1.2.2.2.1 3 k
          have r8 := (show nNameLen T cnt k = nCell T cnt 4 k - 1 - nCell T cnt 3 k from rfl)
          refine lv_iload hx hb d_Doc_renumberBehind_72 (lv_at hl 0 rfl) ?_
          refine ia_sub hx hb d_Doc_renumberBehind_74 ?_
          refine mw_callV (i := i) (As := [.int (iI (nCell T cnt 3 k)), .int (iI ((nNameLen T cnt k) - (bDigits (ix + (-1)))))]) (rest := []) ⟨hx, hb, hml, hown, hts⟩ hK hM hS rfl hB1.1 rfl (c_Bytes_cut l D g lo L κ1 i j mo n z1 b1 hB1 (nCell T cnt 3 k) ((nNameLen T cnt k) - (bDigits (ix + (-1)))) (by omega)) (cwV 2 hts (gV m_536 m_537 m_538 m_52 m_539) rfl rfl rfl (by decide +kernel) ⟨Nat.le_of_ble_eq_true rfl, Nat.le_of_ble_eq_true rfl⟩) rfl hl.1 rfl (Nat.le_of_ble_eq_true rfl) d_Doc_renumberBehind_75 ⟨Nat.le_of_ble_eq_true rfl, Nat.le_of_ble_eq_true rfl⟩ (fun v9 L9 κ9 H locs hp9 hM hS => ?_)
          obtain ⟨rfl, rfl, hB9, hk9⟩ := hp9
          have hN10 := nds_keep hN1 (fun r h1 h2 => hk9 r (by omega) (by omega)) (fun r h1 h2 => rfl) rfl
          have e11 := (hk9 0 (by omega) (by omega)).trans hO1
          refine lv_aload_n hx hb d_Doc_renumberBehind_78 rfl (lv_at hl 4 rfl) ?_
          refine lv_aload_n hx hb d_Doc_renumberBehind_79 rfl (lv_at hl 3 rfl) ?_
          refine mw_get (ci := 3) (i := 0) (v := .ref (L 6)) (C := R_Doc) (T := T_Doc) (N := 7) hx hb hts in_Doc hown hK hM e11 rfl rfl 3 (by decide) (hts _ m_188) rfl d_Doc_renumberBehind_80 ?_
          refine lv_iload hx hb d_Doc_renumberBehind_83 (lv_at hl 2 rfl) ?_
          refine mw_rdV (i := 6) (As := [.int (iI k)]) (rest := [.ref (L i)]) ⟨hx, hb, hml, hown, hts⟩ hK hM hS rfl hN10.1 rfl (c_Nodes_name l D g lo L κ9 T cnt d hN10 k (by omega)) (cwV 1 hts (gV m_452 m_337 m_338 m_56 m_339) rfl rfl rfl (by decide +kernel) ⟨Nat.le_of_ble_eq_true rfl, Nat.le_of_ble_eq_true rfl⟩) rfl hl.1 rfl (Nat.le_of_ble_eq_true rfl) d_Doc_renumberBehind_85 ⟨Nat.le_of_ble_eq_true rfl, Nat.le_of_ble_eq_true rfl⟩ (fun H locs hM hS => ?_)
          have r12 := nCell_r (cnt := cnt) hN10.2.2.2.1 3 k
          refine lv_iload hx hb d_Doc_renumberBehind_88 (lv_at hl 0 rfl) ?_
          refine lv_iload hx hb d_Doc_renumberBehind_90 (lv_at hl 1 rfl) ?_
          refine mw_callV (i := i) (As := [.int (iI (nCell T cnt 3 k)), .int (iI (bDigits (ix + (-1)))), .int (iI (ix + (-1)))]) (rest := []) ⟨hx, hb, hml, hown, hts⟩ hK hM hS rfl hB9.1 rfl (c_Bytes_putDecimal l D g lo L κ9 i j mo n (z1 - ((nNameLen T cnt k) - (bDigits (ix + (-1)))).toNat) (bCut b1 z1 (nCell T cnt 3 k) ((nNameLen T cnt k) - (bDigits (ix + (-1))))) hB9 (nCell T cnt 3 k) (bDigits (ix + (-1))) (ix + (-1)) (by omega) (by omega) (by omega)) (cwV 3 hts (gV m_504 m_505 m_506 m_52 m_507) rfl rfl rfl (by decide +kernel) ⟨Nat.le_of_ble_eq_true rfl, Nat.le_of_ble_eq_true rfl⟩) rfl hl.1 rfl (Nat.le_of_ble_eq_true rfl) d_Doc_renumberBehind_92 ⟨Nat.le_of_ble_eq_true rfl, Nat.le_of_ble_eq_true rfl⟩ (fun v13 L13 κ13 H locs hp13 hM hS => ?_)
          obtain ⟨rfl, rfl, hB13, hk13⟩ := hp13
          have hN14 := nds_keep hN10 (fun r h1 h2 => hk13 r (by omega) (by omega)) (fun r h1 h2 => rfl) rfl
          have e15 := (hk13 0 (by omega) (by omega)).trans e11
          refine lv_iinc (v := iI (k + (-1))) (lv' := [(5, .int (iI (k + (-1)))), (6, .int (iI (bDigits (ix + (-1))))), (4, .int (iI (ix + (-1)))), (0, .ref (L 0)), (1, .ref (L i)), (2, .int (iI row)), (3, .int (iI x))]) hx hb d_Doc_renumberBehind_95 hl (k := 2) rfl (iI_inc _ _) (by decide) rfl (fun ls hl => ?_)
          refine lv_goto (tgt := 24) hx hb d_Doc_renumberBehind_98 (by decide) ?_
          exact ih (k + (-1)) (ix + (-1)) (z1 - ((nNameLen T cnt k) - (bDigits (ix + (-1)))).toNat) (bPd (z1 - ((nNameLen T cnt k) - (bDigits (ix + (-1)))).toNat) (nCell T cnt 3 k) (bDigits (ix + (-1)) - 1) (ix + (-1)) (bCut b1 z1 (nCell T cnt 3 k) ((nNameLen T cnt k) - (bDigits (ix + (-1)))))) κ13 (by omega) (by omega) (by omega) e15 hN14 hB13 (fun r h1 h2 => by rw [hk13 r h1 h2, hk9 r h1 h2, hf r h1 h2]) (by rw [hres, rnF_hit (by omega) (by omega)]) ((rnG_hit (by omega) (by omega) hgd).2) _ _ ls hM hS (lv_sub hl [0, 2, 3, 4, 5, 6] rfl)
  obtain ⟨ls, hls, hl⟩ := mw_entry (m := m) [.ref (L 0), .ref (L i), .int (iI row), .int (iI x)] (n := 7) (Nat.le_of_ble_eq_true rfl) hargs
  refine W.eq hls ?_
  have hl : lv_has ls 7 [(0, .ref (L 0)), (1, .ref (L i)), (2, .int (iI row)), (3, .int (iI x))] := hl
  refine lv_aload_n hx hb d_Doc_renumberBehind_0 rfl (lv_at hl 0 rfl) ?_
  refine mw_get (ci := 3) (i := 0) (v := .ref (L 6)) (C := R_Doc) (T := T_Doc) (N := 7) hx hb hts in_Doc hown hK hM hO rfl rfl 3 (by decide) (hts _ m_188) rfl d_Doc_renumberBehind_1 ?_
  refine lv_iload_n hx hb d_Doc_renumberBehind_4 rfl (lv_at hl 2 rfl) ?_
  refine mw_rdV (i := 6) (As := [.int (iI row)]) (rest := []) ⟨hx, hb, hml, hown, hts⟩ hK hM hS rfl hN.1 rfl (c_Nodes_elements l D g lo L κ T cnt d hN row (by omega)) (cwV 1 hts (gV m_423 m_317 m_318 m_56 m_319) rfl rfl rfl (by decide +kernel) ⟨Nat.le_of_ble_eq_true rfl, Nat.le_of_ble_eq_true rfl⟩) rfl hl.1 rfl (Nat.le_of_ble_eq_true rfl) d_Doc_renumberBehind_5 ⟨Nat.le_of_ble_eq_true rfl, Nat.le_of_ble_eq_true rfl⟩ (fun H locs hM hS => ?_)
  have r16 := nCell_r (cnt := cnt) hN.2.2.2.1 6 row
  refine lv_iconst (v := iI (1)) hx hb d_Doc_renumberBehind_8 rfl ?_
  refine ia_sub hx hb d_Doc_renumberBehind_9 ?_
  refine lv_istore (lv' := [(4, .int (iI ((nCell T cnt 6 row) - 1))), (0, .ref (L 0)), (1, .ref (L i)), (2, .int (iI row)), (3, .int (iI x))]) hx hb d_Doc_renumberBehind_10 hl (by decide) rfl (fun ls hl => ?_)
  refine lv_aload_n hx hb d_Doc_renumberBehind_12 rfl (lv_at hl 1 rfl) ?_
  refine mw_get (ci := 3) (i := 0) (v := .ref (L 6)) (C := R_Doc) (T := T_Doc) (N := 7) hx hb hts in_Doc hown hK hM hO rfl rfl 3 (by decide) (hts _ m_188) rfl d_Doc_renumberBehind_13 ?_
  refine lv_iload_n hx hb d_Doc_renumberBehind_16 rfl (lv_at hl 3 rfl) ?_
  refine mw_rdV (i := 6) (As := [.int (iI row)]) (rest := []) ⟨hx, hb, hml, hown, hts⟩ hK hM hS rfl hN.1 rfl (c_Nodes_behind l D g lo L κ T cnt d hN row (by omega)) (cwV 1 hts (gV m_496 m_406 m_407 m_56 m_408) rfl rfl rfl (by decide +kernel) ⟨Nat.le_of_ble_eq_true rfl, Nat.le_of_ble_eq_true rfl⟩) rfl hl.1 rfl (Nat.le_of_ble_eq_true rfl) d_Doc_renumberBehind_17 ⟨Nat.le_of_ble_eq_true rfl, Nat.le_of_ble_eq_true rfl⟩ (fun H locs hM hS => ?_)
  have r17 := nBeh_r T cnt row
  refine lv_iconst (v := iI (1)) hx hb d_Doc_renumberBehind_20 rfl ?_
  refine ia_sub hx hb d_Doc_renumberBehind_21 ?_
  refine lv_istore (lv' := [(5, .int (iI ((nBeh T cnt row) - 1))), (4, .int (iI ((nCell T cnt 6 row) - 1))), (0, .ref (L 0)), (1, .ref (L i)), (2, .int (iI row)), (3, .int (iI x))]) hx hb d_Doc_renumberBehind_22 hl (by decide) rfl (fun ls hl => ?_)
  exact loop24 _ (nBeh T cnt row - 1) (nCell T cnt 6 row - 1) sz b κ (Nat.lt_succ_self _) (by omega) (by omega) hO hN hB (fun r h1 h2 => rfl) rfl hgood _ _ ls hM hS (lv_sub hl [0, 1, 2, 3, 4, 5] rfl)
set_option maxHeartbeats 4000000 in
set_option maxRecDepth 100000 in
theorem c_Doc_writeFresh (l : Launch) (D : va_G) (g : Nat → ClassId) (lo : Nat) (L : Nat → Nat) (κ : Nat → Option va_E) (scn fpl : Int) (hO : dob L κ scn fpl) (T : Nat → Nat → Int) (cnt d : Nat) (hN : nds g L κ T cnt d) (i j mo n sz : Nat) (b : Nat → Int) (hB : bxs g L κ i j mo n sz b) (moT nT zT : Nat) (bT : Nat → Int) (hT : bxs g L κ 2 3 moT nT zT bT) (moF nF zF : Nat) (bF : Nat → Int) (hF : bxs g L κ 4 5 moF nF zF bF) (x k0 nl : Int) (hi : (i ≠ 0 ∧ 14 < i) ∧ 14 < j) (hdj : d ≠ j) (hnl : 0 ≤ nl ∧ nl ≤ 2000) (hst : 0 ≤ nLast T cnt x ∧ nLast T cnt x ≤ sz) (hx0 : 0 ≤ x ∧ x < cnt) (hfit : 2 + nl + zF ≤ (mo : Int) - sz) (hel0 : 0 ≤ nCell T cnt 6 x) (htp : nCell T cnt 0 x = 4 ∨ nl ≤ zT) : Met l y_Doc_writeFresh w_Doc_writeFresh ({ frames := 3, cells := 1, slots := 2005, locals := 84 }) (mwP D vwCl (tyL g) lo L κ [.ref (L 0), .ref (L i), .int (iI x), .int (iI k0), .int (iI nl)]) (mwQ D vwCl lo (bxW g L κ i j mo (sz + (2 + nl + zF).toNat) (dWrite T cnt b sz bT bF zF x k0 nl))) 1 2005 (fun q => lo ≤ q) := by
  have hc0 := hN.2.2.1
  obtain ⟨hz1, hz2, hz3⟩ := hB.2.2.1
  have hij := bxs_ne hB
  obtain ⟨ht1, ht2, ht3⟩ := hT.2.2.1
  obtain ⟨hf1, hf2, hf3⟩ := hF.2.2.1
  have hel : -1000000 ≤ nCell T cnt 6 x ∧ nCell T cnt 6 x ≤ 1000000 := nCell_r (cnt := cnt) hN.2.2.2.1 6 x
  refine Met.ofW (cc := b_Doc_writeFresh) (maxL := 9) (ret := (Option.none : Option Jvm.ClassFile.FieldType)) (by decide) rfl ?_
  intro p e s m args below meth c s₁ B hml hpre
  obtain ⟨hargs, hM, hK⟩ := hpre
  have hx := B.exec
  have hb := B.bytes
  have hr := B.returns
  have hts : ∀ w ∈ wA, w.before args s = true := fun w h => atoms_spec (ws := w_Doc_writeFresh) B.pre w (List.mem_cons_of_mem _ h)
  have hown : s.vm.findClass R_Doc = some m.cls := findClass_of_methodNamed B.named
  have hlocks := B.notSynchronized
  have hS : va_S (fun q => lo ≤ q) s.heap s.heap [] := va_S.rf
  obtain ⟨ls, hls, hl⟩ := mw_entry (m := m) [.ref (L 0), .ref (L i), .int (iI x), .int (iI k0), .int (iI nl)] (n := 9) (Nat.le_of_ble_eq_true rfl) hargs
  refine W.eq hls ?_
  have hl : lv_has ls 9 [(0, .ref (L 0)), (1, .ref (L i)), (2, .int (iI x)), (3, .int (iI k0)), (4, .int (iI nl))] := hl
  refine lv_aload_n hx hb d_Doc_writeFresh_0 rfl (lv_at hl 0 rfl) ?_
  refine mw_get (ci := 3) (i := 0) (v := .ref (L 6)) (C := R_Doc) (T := T_Doc) (N := 7) hx hb hts in_Doc hown hK hM hO rfl rfl 3 (by decide) (hts _ m_188) rfl d_Doc_writeFresh_1 ?_
  refine lv_iload_n hx hb d_Doc_writeFresh_4 rfl (lv_at hl 2 rfl) ?_
  refine mw_rdV (i := 6) (As := [.int (iI x)]) (rest := []) ⟨hx, hb, hml, hown, hts⟩ hK hM hS rfl hN.1 rfl (c_Nodes_lastByte l D g lo L κ T cnt d hN x (by omega)) (cwV 1 hts (gV m_501 m_271 m_272 m_56 m_273) rfl rfl rfl (by decide +kernel) ⟨Nat.le_of_ble_eq_true rfl, Nat.le_of_ble_eq_true rfl⟩) rfl hl.1 rfl (Nat.le_of_ble_eq_true rfl) d_Doc_writeFresh_5 ⟨Nat.le_of_ble_eq_true rfl, Nat.le_of_ble_eq_true rfl⟩ (fun H locs hM hS => ?_)
  have r1 := nCell_r (cnt := cnt) hN.2.2.2.1 4 x
  have r2 := nCell_r (cnt := cnt) hN.2.2.2.1 5 x
  have r3 := (show nLast T cnt x = nCell T cnt 4 x + nCell T cnt 5 x - 1 from rfl)
  refine lv_istore (lv' := [(5, .int (iI (nLast T cnt x))), (0, .ref (L 0)), (1, .ref (L i)), (2, .int (iI x)), (3, .int (iI k0)), (4, .int (iI nl))]) hx hb d_Doc_writeFresh_8 hl (by decide) rfl (fun ls hl => ?_)
  refine lv_iload hx hb d_Doc_writeFresh_10 (lv_at hl 0 rfl) ?_
  refine lv_iconst (v := iI (1)) hx hb d_Doc_writeFresh_12 rfl ?_
  refine ia_add hx hb d_Doc_writeFresh_13 ?_
  refine lv_istore (lv' := [(6, .int (iI ((nLast T cnt x) + 1))), (5, .int (iI (nLast T cnt x))), (0, .ref (L 0)), (1, .ref (L i)), (2, .int (iI x)), (3, .int (iI k0)), (4, .int (iI nl))]) hx hb d_Doc_writeFresh_14 hl (by decide) rfl (fun ls hl => ?_)
  refine lv_iload hx hb d_Doc_writeFresh_16 (lv_at hl 0 rfl) ?_
  refine lv_iload hx hb d_Doc_writeFresh_18 (lv_at hl 6 rfl) ?_
  refine ia_add hx hb d_Doc_writeFresh_20 ?_
  refine lv_iconst (v := iI (1)) hx hb d_Doc_writeFresh_21 rfl ?_
  refine ia_add hx hb d_Doc_writeFresh_22 ?_
  refine lv_istore (lv' := [(7, .int (iI ((((nLast T cnt x) + 1) + nl) + 1))), (6, .int (iI ((nLast T cnt x) + 1))), (5, .int (iI (nLast T cnt x))), (0, .ref (L 0)), (1, .ref (L i)), (2, .int (iI x)), (3, .int (iI k0)), (4, .int (iI nl))]) hx hb d_Doc_writeFresh_23 hl (by decide) rfl (fun ls hl => ?_)
  refine lv_aload_n hx hb d_Doc_writeFresh_25 rfl (lv_at hl 3 rfl) ?_
  refine mw_get (ci := 3) (i := 0) (v := .ref (L 6)) (C := R_Doc) (T := T_Doc) (N := 7) hx hb hts in_Doc hown hK hM hO rfl rfl 3 (by decide) (hts _ m_188) rfl d_Doc_writeFresh_26 ?_
  refine lv_iload_n hx hb d_Doc_writeFresh_29 rfl (lv_at hl 5 rfl) ?_
  refine mw_rdV (i := 6) (As := [.int (iI x)]) (rest := []) ⟨hx, hb, hml, hown, hts⟩ hK hM hS rfl hN.1 rfl (c_Nodes_kind l D g lo L κ T cnt d hN x (by omega)) (cwV 1 hts (gV m_421 m_313 m_314 m_56 m_315) rfl rfl rfl (by decide +kernel) ⟨Nat.le_of_ble_eq_true rfl, Nat.le_of_ble_eq_true rfl⟩) rfl hl.1 rfl (Nat.le_of_ble_eq_true rfl) d_Doc_writeFresh_30 ⟨Nat.le_of_ble_eq_true rfl, Nat.le_of_ble_eq_true rfl⟩ (fun H locs hM hS => ?_)
  have r4 := nCell_r (cnt := cnt) hN.2.2.2.1 0 x
  refine lv_iconst (v := iI (4)) hx hb d_Doc_writeFresh_33 rfl ?_
  refine ia_icmp_ne (a := nCell T cnt 0 x) (b := 4) (tgt := 41) hx hb d_Doc_writeFresh_34 (by decide) (by omega) (by omega) (fun c5 => ?_) (fun c5 => ?_)
  · refine lv_iconst (v := iI (0)) hx hb d_Doc_writeFresh_41 rfl ?_
    refine lv_istore (lv' := [(8, .int (iI 0)), (7, .int (iI ((((nLast T cnt x) + 1) + nl) + 1))), (6, .int (iI ((nLast T cnt x) + 1))), (5, .int (iI (nLast T cnt x))), (0, .ref (L 0)), (1, .ref (L i)), (2, .int (iI x)), (3, .int (iI k0)), (4, .int (iI nl))]) hx hb d_Doc_writeFresh_42 hl (by decide) rfl (fun ls hl => ?_)
    refine lv_aload_n hx hb d_Doc_writeFresh_44 rfl (lv_at hl 5 rfl) ?_
    refine lv_iload hx hb d_Doc_writeFresh_45 (lv_at hl 3 rfl) ?_
    refine lv_iconst (v := iI (2)) hx hb d_Doc_writeFresh_47 rfl ?_
    refine lv_iload hx hb d_Doc_writeFresh_48 (lv_at hl 8 rfl) ?_
    refine ia_add hx hb d_Doc_writeFresh_50 ?_
    refine lv_aload_n hx hb d_Doc_writeFresh_51 rfl (lv_at hl 4 rfl) ?_
    refine mw_get (ci := 3) (i := 0) (v := .ref (L 4)) (C := R_Doc) (T := T_Doc) (N := 7) hx hb hts in_Doc hown hK hM hO rfl rfl 2 (by decide) (hts _ m_187) rfl d_Doc_writeFresh_52 ?_
    refine mw_rdV (i := 4) (As := []) (rest := [.int (iI (2 + nl)), .int (iI (nLast T cnt x)), .ref (L i)]) ⟨hx, hb, hml, hown, hts⟩ hK hM hS rfl hF.1 rfl (c_Bytes_size l D g lo L κ 4 5 moF nF zF bF hF ) (cwV 0 hts (gV m_211 m_212 m_213 m_52 m_214) rfl rfl rfl (by decide +kernel) ⟨Nat.le_of_ble_eq_true rfl, Nat.le_of_ble_eq_true rfl⟩) rfl hl.1 rfl (Nat.le_of_ble_eq_true rfl) d_Doc_writeFresh_55 ⟨Nat.le_of_ble_eq_true rfl, Nat.le_of_ble_eq_true rfl⟩ (fun H locs hM hS => ?_)
    refine ia_add hx hb d_Doc_writeFresh_58 ?_
    refine mw_callV (i := i) (As := [.int (iI (nLast T cnt x)), .int (iI ((2 + nl) + zF))]) (rest := []) ⟨hx, hb, hml, hown, hts⟩ hK hM hS rfl hB.1 rfl (c_Bytes_openGap l D g lo L κ i j mo n sz b hB (nLast T cnt x) ((2 + nl) + zF) (by omega) (by omega)) (cwV 2 hts (gV m_502 m_97 m_98 m_52 m_99) rfl rfl rfl (by decide +kernel) ⟨Nat.le_of_ble_eq_true rfl, Nat.le_of_ble_eq_true rfl⟩) rfl hl.1 rfl (Nat.le_of_ble_eq_true rfl) d_Doc_writeFresh_59 ⟨Nat.le_of_ble_eq_true rfl, Nat.le_of_ble_eq_true rfl⟩ (fun v6 L6 κ6 H locs hp6 hM hS => ?_)
    obtain ⟨n6, rfl, hL6, hB6, hk6⟩ := hp6
    have hB6 : bxs g L6 κ6 i j mo n6 (sz + ((2 + nl) + zF).toNat) (bGap b sz (nLast T cnt x) ((2 + nl) + zF)) := hB6
    have r7 := hB6.2.2.1
    have hN8 := nds_keep hN (fun r h1 h2 => hk6 r (by omega) (by omega)) (fun r h1 h2 => hL6 r (by omega)) (hL6 d (by omega))
    have hB9 := bxs_keep hT (hk6 2 (by omega) (by omega)) (hk6 3 (by omega) (by omega)) (hL6 3 (by omega))
    have hB10 := bxs_keep hF (hk6 4 (by omega) (by omega)) (hk6 5 (by omega) (by omega)) (hL6 5 (by omega))
    have e11 := (hk6 0 (by omega) (by omega)).trans hO
    refine lv_aload_n hx hb d_Doc_writeFresh_62 rfl (lv_at hl 5 rfl) ?_
    refine lv_iload hx hb d_Doc_writeFresh_63 (lv_at hl 3 rfl) ?_
    refine lv_iload_n hx hb d_Doc_writeFresh_65 rfl (lv_at hl 7 rfl) ?_
    refine mw_callV (i := i) (As := [.int (iI (nLast T cnt x)), .int (iI k0)]) (rest := []) ⟨hx, hb, hml, hown, hts⟩ hK hM hS (hL6 i (by omega)) hB6.1 rfl (c_Bytes_put l D g lo L6 κ6 i j mo n6 (sz + ((2 + nl) + zF).toNat) (bGap b sz (nLast T cnt x) ((2 + nl) + zF)) hB6 (nLast T cnt x) k0 (by omega)) (cwV 2 hts (gV m_503 m_122 m_123 m_52 m_124) rfl rfl rfl (by decide +kernel) ⟨Nat.le_of_ble_eq_true rfl, Nat.le_of_ble_eq_true rfl⟩) rfl hl.1 rfl (Nat.le_of_ble_eq_true rfl) d_Doc_writeFresh_66 ⟨Nat.le_of_ble_eq_true rfl, Nat.le_of_ble_eq_true rfl⟩ (fun v12 L12 κ12 H locs hp12 hM hS => ?_)
    obtain ⟨rfl, rfl, hB12, hk12⟩ := hp12
    have hN13 := nds_keep hN8 (fun r h1 h2 => hk12 r (by omega) (by omega)) (fun r h1 h2 => rfl) rfl
    have hB14 := bxs_keep hB9 (hk12 2 (by omega) (by omega)) (hk12 3 (by omega) (by omega)) rfl
    have hB15 := bxs_keep hB10 (hk12 4 (by omega) (by omega)) (hk12 5 (by omega) (by omega)) rfl
    have e16 := (hk12 0 (by omega) (by omega)).trans e11
    refine lv_iload hx hb d_Doc_writeFresh_69 (lv_at hl 0 rfl) ?_
    refine ia_if_eq (a := 0) (tgt := 93) hx hb d_Doc_writeFresh_71 (by decide) (by omega) (fun c17 => ?_) (fun c17 => ?_)
    · refine lv_aload_n hx hb d_Doc_writeFresh_93 rfl (lv_at hl 5 rfl) ?_
      refine lv_iload hx hb d_Doc_writeFresh_94 (lv_at hl 2 rfl) ?_
      refine lv_aload_n hx hb d_Doc_writeFresh_96 rfl (lv_at hl 4 rfl) ?_
      refine mw_get (ci := 3) (i := 0) (v := .ref (L 2)) (C := R_Doc) (T := T_Doc) (N := 7) hx hb hts in_Doc hown hK hM e16 (hL6 0 (by omega)) rfl 0 (by decide) (hts _ m_185) rfl d_Doc_writeFresh_97 ?_
      refine lv_iconst (v := iI (0)) hx hb d_Doc_writeFresh_100 rfl ?_
      refine lv_iload hx hb d_Doc_writeFresh_101 (lv_at hl 8 rfl) ?_
      refine mw_callV (i := i) (As := [.int (iI ((nLast T cnt x) + 1)), .ref (L6 2), .int (iI 0), .int (iI nl)]) (rest := []) ⟨hx, hb, hml, hown, hts⟩ hK hM hS (hL6 i (by omega)) hB12.1 rfl (c_Bytes_putFrom l D g lo L6 κ12 i j mo n6 (sz + ((2 + nl) + zF).toNat) (bPut (bGap b sz (nLast T cnt x) ((2 + nl) + zF)) (sz + ((2 + nl) + zF).toNat) (nLast T cnt x) k0) hB12 2 3 moT nT zT bT hB14 ((nLast T cnt x) + 1) 0 nl (by omega) (by omega)) (cwV 4 hts (gV m_508 m_367 m_368 m_52 m_369) rfl rfl rfl (by decide +kernel) ⟨Nat.le_of_ble_eq_true rfl, Nat.le_of_ble_eq_true rfl⟩) rfl hl.1 (by rw [show L6 2 = L 2 from (hL6 2 (by omega))]; rfl) (Nat.le_of_ble_eq_true rfl) d_Doc_writeFresh_103 ⟨Nat.le_of_ble_eq_true rfl, Nat.le_of_ble_eq_true rfl⟩ (fun v18 L18 κ18 H locs hp18 hM hS => ?_)
      obtain ⟨rfl, rfl, hB18, hk18⟩ := hp18
      have hN19 := nds_keep hN13 (fun r h1 h2 => hk18 r (by omega) (by omega)) (fun r h1 h2 => rfl) rfl
      have hB20 := bxs_keep hB14 (hk18 2 (by omega) (by omega)) (hk18 3 (by omega) (by omega)) rfl
      have hB21 := bxs_keep hB15 (hk18 4 (by omega) (by omega)) (hk18 5 (by omega) (by omega)) rfl
      have e22 := (hk18 0 (by omega) (by omega)).trans e16
      refine lv_aload_n hx hb d_Doc_writeFresh_106 rfl (lv_at hl 5 rfl) ?_
      refine lv_iload hx hb d_Doc_writeFresh_107 (lv_at hl 1 rfl) ?_
      refine lv_iconst (v := iI (1)) hx hb d_Doc_writeFresh_109 rfl ?_
      refine ia_sub hx hb d_Doc_writeFresh_110 ?_
      refine lv_iconst (v := iI (0)) hx hb d_Doc_writeFresh_111 rfl ?_
      refine mw_callV (i := i) (As := [.int (iI (((((nLast T cnt x) + 1) + nl) + 1) - 1)), .int (iI 0)]) (rest := []) ⟨hx, hb, hml, hown, hts⟩ hK hM hS (hL6 i (by omega)) hB18.1 rfl (c_Bytes_put l D g lo L6 κ18 i j mo n6 (sz + ((2 + nl) + zF).toNat) (bCopy (bPut (bGap b sz (nLast T cnt x) ((2 + nl) + zF)) (sz + ((2 + nl) + zF).toNat) (nLast T cnt x) k0) bT ((nLast T cnt x) + 1) 0 nl) hB18 (((((nLast T cnt x) + 1) + nl) + 1) - 1) 0 (by omega)) (cwV 2 hts (gV m_503 m_122 m_123 m_52 m_124) rfl rfl rfl (by decide +kernel) ⟨Nat.le_of_ble_eq_true rfl, Nat.le_of_ble_eq_true rfl⟩) rfl hl.1 rfl (Nat.le_of_ble_eq_true rfl) d_Doc_writeFresh_112 ⟨Nat.le_of_ble_eq_true rfl, Nat.le_of_ble_eq_true rfl⟩ (fun v23 L23 κ23 H locs hp23 hM hS => ?_)
      obtain ⟨rfl, rfl, hB23, hk23⟩ := hp23
      have hN24 := nds_keep hN19 (fun r h1 h2 => hk23 r (by omega) (by omega)) (fun r h1 h2 => rfl) rfl
      have hB25 := bxs_keep hB20 (hk23 2 (by omega) (by omega)) (hk23 3 (by omega) (by omega)) rfl
      have hB26 := bxs_keep hB21 (hk23 4 (by omega) (by omega)) (hk23 5 (by omega) (by omega)) rfl
      have e27 := (hk23 0 (by omega) (by omega)).trans e22
      refine lv_aload_n hx hb d_Doc_writeFresh_115 rfl (lv_at hl 5 rfl) ?_
      refine lv_iload hx hb d_Doc_writeFresh_116 (lv_at hl 1 rfl) ?_
      refine lv_aload_n hx hb d_Doc_writeFresh_118 rfl (lv_at hl 4 rfl) ?_
      refine mw_get (ci := 3) (i := 0) (v := .ref (L 4)) (C := R_Doc) (T := T_Doc) (N := 7) hx hb hts in_Doc hown hK hM e27 (hL6 0 (by omega)) rfl 2 (by decide) (hts _ m_187) rfl d_Doc_writeFresh_119 ?_
      refine lv_iconst (v := iI (0)) hx hb d_Doc_writeFresh_122 rfl ?_
      refine lv_aload_n hx hb d_Doc_writeFresh_123 rfl (lv_at hl 4 rfl) ?_
      refine mw_get (ci := 3) (i := 0) (v := .ref (L 4)) (C := R_Doc) (T := T_Doc) (N := 7) hx hb hts in_Doc hown hK hM e27 (hL6 0 (by omega)) rfl 2 (by decide) (hts _ m_187) rfl d_Doc_writeFresh_124 ?_
      refine mw_rdV (i := 4) (As := []) (rest := [.int (iI 0), .ref (L 4), .int (iI ((((nLast T cnt x) + 1) + nl) + 1)), .ref (L i)]) ⟨hx, hb, hml, hown, hts⟩ hK hM hS (hL6 4 (by omega)) hB26.1 rfl (c_Bytes_size l D g lo L6 κ23 4 5 moF nF zF bF hB26 ) (cwV 0 hts (gV m_211 m_212 m_213 m_52 m_214) rfl rfl rfl (by decide +kernel) ⟨Nat.le_of_ble_eq_true rfl, Nat.le_of_ble_eq_true rfl⟩) rfl hl.1 rfl (Nat.le_of_ble_eq_true rfl) d_Doc_writeFresh_127 ⟨Nat.le_of_ble_eq_true rfl, Nat.le_of_ble_eq_true rfl⟩ (fun H locs hM hS => ?_)
      refine mw_callV (i := i) (As := [.int (iI ((((nLast T cnt x) + 1) + nl) + 1)), .ref (L6 4), .int (iI 0), .int (iI zF)]) (rest := []) ⟨hx, hb, hml, hown, hts⟩ hK hM hS (hL6 i (by omega)) hB23.1 rfl (c_Bytes_putFrom l D g lo L6 κ23 i j mo n6 (sz + ((2 + nl) + zF).toNat) (bPut (bCopy (bPut (bGap b sz (nLast T cnt x) ((2 + nl) + zF)) (sz + ((2 + nl) + zF).toNat) (nLast T cnt x) k0) bT ((nLast T cnt x) + 1) 0 nl) (sz + ((2 + nl) + zF).toNat) (((((nLast T cnt x) + 1) + nl) + 1) - 1) 0) hB23 4 5 moF nF zF bF hB26 ((((nLast T cnt x) + 1) + nl) + 1) 0 zF (by omega) (by omega)) (cwV 4 hts (gV m_508 m_367 m_368 m_52 m_369) rfl rfl rfl (by decide +kernel) ⟨Nat.le_of_ble_eq_true rfl, Nat.le_of_ble_eq_true rfl⟩) rfl hl.1 (by rw [show L6 4 = L 4 from (hL6 4 (by omega))]; rfl) (Nat.le_of_ble_eq_true rfl) d_Doc_writeFresh_130 ⟨Nat.le_of_ble_eq_true rfl, Nat.le_of_ble_eq_true rfl⟩ (fun v28 L28 κ28 H locs hp28 hM hS => ?_)
      obtain ⟨rfl, rfl, hB28, hk28⟩ := hp28
      have hN29 := nds_keep hN24 (fun r h1 h2 => hk28 r (by omega) (by omega)) (fun r h1 h2 => rfl) rfl
      have hB30 := bxs_keep hB25 (hk28 2 (by omega) (by omega)) (hk28 3 (by omega) (by omega)) rfl
      have hB31 := bxs_keep hB26 (hk28 4 (by omega) (by omega)) (hk28 5 (by omega) (by omega)) rfl
      have e32 := (hk28 0 (by omega) (by omega)).trans e27
      exact mw_vret hx hb hr hM hS hlocks d_Doc_writeFresh_133 ⟨_, rfl, fun r h1 => by rw [hL6 r h1], by unfold dWrite; dsimp only; rw [if_neg (by omega)]; exact hB28, fun r h1 h2 => by rw [hk28 r h1 h2, hk23 r h1 h2, hk18 r h1 h2, hk12 r h1 h2, hk6 r h1 h2]⟩
    · exact absurd (by decide) c17
  · refine lv_iconst (v := iI (1)) hx hb d_Doc_writeFresh_37 rfl ?_
    refine lv_goto (tgt := 42) hx hb d_Doc_writeFresh_38 (by decide) ?_
    refine lv_istore (lv' := [(8, .int (iI 1)), (7, .int (iI ((((nLast T cnt x) + 1) + nl) + 1))), (6, .int (iI ((nLast T cnt x) + 1))), (5, .int (iI (nLast T cnt x))), (0, .ref (L 0)), (1, .ref (L i)), (2, .int (iI x)), (3, .int (iI k0)), (4, .int (iI nl))]) hx hb d_Doc_writeFresh_42 hl (by decide) rfl (fun ls hl => ?_)
    refine lv_aload_n hx hb d_Doc_writeFresh_44 rfl (lv_at hl 5 rfl) ?_
    refine lv_iload hx hb d_Doc_writeFresh_45 (lv_at hl 3 rfl) ?_
    refine lv_iconst (v := iI (2)) hx hb d_Doc_writeFresh_47 rfl ?_
    refine lv_iload hx hb d_Doc_writeFresh_48 (lv_at hl 8 rfl) ?_
    refine ia_add hx hb d_Doc_writeFresh_50 ?_
    refine lv_aload_n hx hb d_Doc_writeFresh_51 rfl (lv_at hl 4 rfl) ?_
    refine mw_get (ci := 3) (i := 0) (v := .ref (L 4)) (C := R_Doc) (T := T_Doc) (N := 7) hx hb hts in_Doc hown hK hM hO rfl rfl 2 (by decide) (hts _ m_187) rfl d_Doc_writeFresh_52 ?_
    refine mw_rdV (i := 4) (As := []) (rest := [.int (iI (2 + nl)), .int (iI (nLast T cnt x)), .ref (L i)]) ⟨hx, hb, hml, hown, hts⟩ hK hM hS rfl hF.1 rfl (c_Bytes_size l D g lo L κ 4 5 moF nF zF bF hF ) (cwV 0 hts (gV m_211 m_212 m_213 m_52 m_214) rfl rfl rfl (by decide +kernel) ⟨Nat.le_of_ble_eq_true rfl, Nat.le_of_ble_eq_true rfl⟩) rfl hl.1 rfl (Nat.le_of_ble_eq_true rfl) d_Doc_writeFresh_55 ⟨Nat.le_of_ble_eq_true rfl, Nat.le_of_ble_eq_true rfl⟩ (fun H locs hM hS => ?_)
    refine ia_add hx hb d_Doc_writeFresh_58 ?_
    refine mw_callV (i := i) (As := [.int (iI (nLast T cnt x)), .int (iI ((2 + nl) + zF))]) (rest := []) ⟨hx, hb, hml, hown, hts⟩ hK hM hS rfl hB.1 rfl (c_Bytes_openGap l D g lo L κ i j mo n sz b hB (nLast T cnt x) ((2 + nl) + zF) (by omega) (by omega)) (cwV 2 hts (gV m_502 m_97 m_98 m_52 m_99) rfl rfl rfl (by decide +kernel) ⟨Nat.le_of_ble_eq_true rfl, Nat.le_of_ble_eq_true rfl⟩) rfl hl.1 rfl (Nat.le_of_ble_eq_true rfl) d_Doc_writeFresh_59 ⟨Nat.le_of_ble_eq_true rfl, Nat.le_of_ble_eq_true rfl⟩ (fun v33 L33 κ33 H locs hp33 hM hS => ?_)
    obtain ⟨n33, rfl, hL33, hB33, hk33⟩ := hp33
    have hB33 : bxs g L33 κ33 i j mo n33 (sz + ((2 + nl) + zF).toNat) (bGap b sz (nLast T cnt x) ((2 + nl) + zF)) := hB33
    have r34 := hB33.2.2.1
    have hN35 := nds_keep hN (fun r h1 h2 => hk33 r (by omega) (by omega)) (fun r h1 h2 => hL33 r (by omega)) (hL33 d (by omega))
    have hB36 := bxs_keep hT (hk33 2 (by omega) (by omega)) (hk33 3 (by omega) (by omega)) (hL33 3 (by omega))
    have hB37 := bxs_keep hF (hk33 4 (by omega) (by omega)) (hk33 5 (by omega) (by omega)) (hL33 5 (by omega))
    have e38 := (hk33 0 (by omega) (by omega)).trans hO
    refine lv_aload_n hx hb d_Doc_writeFresh_62 rfl (lv_at hl 5 rfl) ?_
    refine lv_iload hx hb d_Doc_writeFresh_63 (lv_at hl 3 rfl) ?_
    refine lv_iload_n hx hb d_Doc_writeFresh_65 rfl (lv_at hl 7 rfl) ?_
    refine mw_callV (i := i) (As := [.int (iI (nLast T cnt x)), .int (iI k0)]) (rest := []) ⟨hx, hb, hml, hown, hts⟩ hK hM hS (hL33 i (by omega)) hB33.1 rfl (c_Bytes_put l D g lo L33 κ33 i j mo n33 (sz + ((2 + nl) + zF).toNat) (bGap b sz (nLast T cnt x) ((2 + nl) + zF)) hB33 (nLast T cnt x) k0 (by omega)) (cwV 2 hts (gV m_503 m_122 m_123 m_52 m_124) rfl rfl rfl (by decide +kernel) ⟨Nat.le_of_ble_eq_true rfl, Nat.le_of_ble_eq_true rfl⟩) rfl hl.1 rfl (Nat.le_of_ble_eq_true rfl) d_Doc_writeFresh_66 ⟨Nat.le_of_ble_eq_true rfl, Nat.le_of_ble_eq_true rfl⟩ (fun v39 L39 κ39 H locs hp39 hM hS => ?_)
    obtain ⟨rfl, rfl, hB39, hk39⟩ := hp39
    have hN40 := nds_keep hN35 (fun r h1 h2 => hk39 r (by omega) (by omega)) (fun r h1 h2 => rfl) rfl
    have hB41 := bxs_keep hB36 (hk39 2 (by omega) (by omega)) (hk39 3 (by omega) (by omega)) rfl
    have hB42 := bxs_keep hB37 (hk39 4 (by omega) (by omega)) (hk39 5 (by omega) (by omega)) rfl
    have e43 := (hk39 0 (by omega) (by omega)).trans e38
    refine lv_iload hx hb d_Doc_writeFresh_69 (lv_at hl 0 rfl) ?_
    refine ia_if_eq (a := 1) (tgt := 93) hx hb d_Doc_writeFresh_71 (by decide) (by omega) (fun c44 => ?_) (fun c44 => ?_)
    · exact absurd c44 (by decide)
    · refine lv_aload_n hx hb d_Doc_writeFresh_74 rfl (lv_at hl 5 rfl) ?_
      refine lv_iload hx hb d_Doc_writeFresh_75 (lv_at hl 2 rfl) ?_
      refine lv_iload hx hb d_Doc_writeFresh_77 (lv_at hl 8 rfl) ?_
      refine lv_aload_n hx hb d_Doc_writeFresh_79 rfl (lv_at hl 4 rfl) ?_
      refine mw_get (ci := 3) (i := 0) (v := .ref (L 6)) (C := R_Doc) (T := T_Doc) (N := 7) hx hb hts in_Doc hown hK hM e43 (hL33 0 (by omega)) rfl 3 (by decide) (hts _ m_188) rfl d_Doc_writeFresh_80 ?_
      refine lv_iload_n hx hb d_Doc_writeFresh_83 rfl (lv_at hl 6 rfl) ?_
      refine mw_rdV (i := 6) (As := [.int (iI x)]) (rest := [.int (iI nl), .int (iI ((nLast T cnt x) + 1)), .ref (L i)]) ⟨hx, hb, hml, hown, hts⟩ hK hM hS (hL33 6 (by omega)) hN40.1 rfl (c_Nodes_elements l D g lo L33 κ39 T cnt d hN40 x (by omega)) (cwV 1 hts (gV m_423 m_317 m_318 m_56 m_319) rfl rfl rfl (by decide +kernel) ⟨Nat.le_of_ble_eq_true rfl, Nat.le_of_ble_eq_true rfl⟩) rfl hl.1 rfl (Nat.le_of_ble_eq_true rfl) d_Doc_writeFresh_84 ⟨Nat.le_of_ble_eq_true rfl, Nat.le_of_ble_eq_true rfl⟩ (fun H locs hM hS => ?_)
      have r45 := nCell_r (cnt := cnt) hN40.2.2.2.1 6 x
      refine mw_callV (i := i) (As := [.int (iI ((nLast T cnt x) + 1)), .int (iI nl), .int (iI (nCell T cnt 6 x))]) (rest := []) ⟨hx, hb, hml, hown, hts⟩ hK hM hS (hL33 i (by omega)) hB39.1 rfl (c_Bytes_putDecimal l D g lo L33 κ39 i j mo n33 (sz + ((2 + nl) + zF).toNat) (bPut (bGap b sz (nLast T cnt x) ((2 + nl) + zF)) (sz + ((2 + nl) + zF).toNat) (nLast T cnt x) k0) hB39 ((nLast T cnt x) + 1) nl (nCell T cnt 6 x) (by omega) (by omega) (by omega)) (cwV 3 hts (gV m_504 m_505 m_506 m_52 m_507) rfl rfl rfl (by decide +kernel) ⟨Nat.le_of_ble_eq_true rfl, Nat.le_of_ble_eq_true rfl⟩) rfl hl.1 rfl (Nat.le_of_ble_eq_true rfl) d_Doc_writeFresh_87 ⟨Nat.le_of_ble_eq_true rfl, Nat.le_of_ble_eq_true rfl⟩ (fun v46 L46 κ46 H locs hp46 hM hS => ?_)
      obtain ⟨rfl, rfl, hB46, hk46⟩ := hp46
      have hN47 := nds_keep hN40 (fun r h1 h2 => hk46 r (by omega) (by omega)) (fun r h1 h2 => rfl) rfl
      have hB48 := bxs_keep hB41 (hk46 2 (by omega) (by omega)) (hk46 3 (by omega) (by omega)) rfl
      have hB49 := bxs_keep hB42 (hk46 4 (by omega) (by omega)) (hk46 5 (by omega) (by omega)) rfl
      have e50 := (hk46 0 (by omega) (by omega)).trans e43
      refine lv_goto (tgt := 106) hx hb d_Doc_writeFresh_90 (by decide) ?_
      refine lv_aload_n hx hb d_Doc_writeFresh_106 rfl (lv_at hl 5 rfl) ?_
      refine lv_iload hx hb d_Doc_writeFresh_107 (lv_at hl 1 rfl) ?_
      refine lv_iconst (v := iI (1)) hx hb d_Doc_writeFresh_109 rfl ?_
      refine ia_sub hx hb d_Doc_writeFresh_110 ?_
      refine lv_iconst (v := iI (0)) hx hb d_Doc_writeFresh_111 rfl ?_
      refine mw_callV (i := i) (As := [.int (iI (((((nLast T cnt x) + 1) + nl) + 1) - 1)), .int (iI 0)]) (rest := []) ⟨hx, hb, hml, hown, hts⟩ hK hM hS (hL33 i (by omega)) hB46.1 rfl (c_Bytes_put l D g lo L33 κ46 i j mo n33 (sz + ((2 + nl) + zF).toNat) (bPd (sz + ((2 + nl) + zF).toNat) ((nLast T cnt x) + 1) (nl - 1) (nCell T cnt 6 x) (bPut (bGap b sz (nLast T cnt x) ((2 + nl) + zF)) (sz + ((2 + nl) + zF).toNat) (nLast T cnt x) k0)) hB46 (((((nLast T cnt x) + 1) + nl) + 1) - 1) 0 (by omega)) (cwV 2 hts (gV m_503 m_122 m_123 m_52 m_124) rfl rfl rfl (by decide +kernel) ⟨Nat.le_of_ble_eq_true rfl, Nat.le_of_ble_eq_true rfl⟩) rfl hl.1 rfl (Nat.le_of_ble_eq_true rfl) d_Doc_writeFresh_112 ⟨Nat.le_of_ble_eq_true rfl, Nat.le_of_ble_eq_true rfl⟩ (fun v51 L51 κ51 H locs hp51 hM hS => ?_)
      obtain ⟨rfl, rfl, hB51, hk51⟩ := hp51
      have hN52 := nds_keep hN47 (fun r h1 h2 => hk51 r (by omega) (by omega)) (fun r h1 h2 => rfl) rfl
      have hB53 := bxs_keep hB48 (hk51 2 (by omega) (by omega)) (hk51 3 (by omega) (by omega)) rfl
      have hB54 := bxs_keep hB49 (hk51 4 (by omega) (by omega)) (hk51 5 (by omega) (by omega)) rfl
      have e55 := (hk51 0 (by omega) (by omega)).trans e50
      refine lv_aload_n hx hb d_Doc_writeFresh_115 rfl (lv_at hl 5 rfl) ?_
      refine lv_iload hx hb d_Doc_writeFresh_116 (lv_at hl 1 rfl) ?_
      refine lv_aload_n hx hb d_Doc_writeFresh_118 rfl (lv_at hl 4 rfl) ?_
      refine mw_get (ci := 3) (i := 0) (v := .ref (L 4)) (C := R_Doc) (T := T_Doc) (N := 7) hx hb hts in_Doc hown hK hM e55 (hL33 0 (by omega)) rfl 2 (by decide) (hts _ m_187) rfl d_Doc_writeFresh_119 ?_
      refine lv_iconst (v := iI (0)) hx hb d_Doc_writeFresh_122 rfl ?_
      refine lv_aload_n hx hb d_Doc_writeFresh_123 rfl (lv_at hl 4 rfl) ?_
      refine mw_get (ci := 3) (i := 0) (v := .ref (L 4)) (C := R_Doc) (T := T_Doc) (N := 7) hx hb hts in_Doc hown hK hM e55 (hL33 0 (by omega)) rfl 2 (by decide) (hts _ m_187) rfl d_Doc_writeFresh_124 ?_
      refine mw_rdV (i := 4) (As := []) (rest := [.int (iI 0), .ref (L 4), .int (iI ((((nLast T cnt x) + 1) + nl) + 1)), .ref (L i)]) ⟨hx, hb, hml, hown, hts⟩ hK hM hS (hL33 4 (by omega)) hB54.1 rfl (c_Bytes_size l D g lo L33 κ51 4 5 moF nF zF bF hB54 ) (cwV 0 hts (gV m_211 m_212 m_213 m_52 m_214) rfl rfl rfl (by decide +kernel) ⟨Nat.le_of_ble_eq_true rfl, Nat.le_of_ble_eq_true rfl⟩) rfl hl.1 rfl (Nat.le_of_ble_eq_true rfl) d_Doc_writeFresh_127 ⟨Nat.le_of_ble_eq_true rfl, Nat.le_of_ble_eq_true rfl⟩ (fun H locs hM hS => ?_)
      refine mw_callV (i := i) (As := [.int (iI ((((nLast T cnt x) + 1) + nl) + 1)), .ref (L33 4), .int (iI 0), .int (iI zF)]) (rest := []) ⟨hx, hb, hml, hown, hts⟩ hK hM hS (hL33 i (by omega)) hB51.1 rfl (c_Bytes_putFrom l D g lo L33 κ51 i j mo n33 (sz + ((2 + nl) + zF).toNat) (bPut (bPd (sz + ((2 + nl) + zF).toNat) ((nLast T cnt x) + 1) (nl - 1) (nCell T cnt 6 x) (bPut (bGap b sz (nLast T cnt x) ((2 + nl) + zF)) (sz + ((2 + nl) + zF).toNat) (nLast T cnt x) k0)) (sz + ((2 + nl) + zF).toNat) (((((nLast T cnt x) + 1) + nl) + 1) - 1) 0) hB51 4 5 moF nF zF bF hB54 ((((nLast T cnt x) + 1) + nl) + 1) 0 zF (by omega) (by omega)) (cwV 4 hts (gV m_508 m_367 m_368 m_52 m_369) rfl rfl rfl (by decide +kernel) ⟨Nat.le_of_ble_eq_true rfl, Nat.le_of_ble_eq_true rfl⟩) rfl hl.1 (by rw [show L33 4 = L 4 from (hL33 4 (by omega))]; rfl) (Nat.le_of_ble_eq_true rfl) d_Doc_writeFresh_130 ⟨Nat.le_of_ble_eq_true rfl, Nat.le_of_ble_eq_true rfl⟩ (fun v56 L56 κ56 H locs hp56 hM hS => ?_)
      obtain ⟨rfl, rfl, hB56, hk56⟩ := hp56
      have hN57 := nds_keep hN52 (fun r h1 h2 => hk56 r (by omega) (by omega)) (fun r h1 h2 => rfl) rfl
      have hB58 := bxs_keep hB53 (hk56 2 (by omega) (by omega)) (hk56 3 (by omega) (by omega)) rfl
      have hB59 := bxs_keep hB54 (hk56 4 (by omega) (by omega)) (hk56 5 (by omega) (by omega)) rfl
      have e60 := (hk56 0 (by omega) (by omega)).trans e55
      exact mw_vret hx hb hr hM hS hlocks d_Doc_writeFresh_133 ⟨_, rfl, fun r h1 => by rw [hL33 r h1], by unfold dWrite; dsimp only; rw [if_pos (by omega)]; exact hB56, fun r h1 h2 => by rw [hk56 r h1 h2, hk51 r h1 h2, hk46 r h1 h2, hk39 r h1 h2, hk33 r h1 h2]⟩
