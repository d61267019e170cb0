set_option maxHeartbeats 4000000 in
set_option maxRecDepth 100000 in
theorem c_Doc_place (l : Launch) (D : va_G) (g : Nat → ClassId) (lo : Nat) (L : Nat → Nat) (κ : Nat → Option va_E) (scn fpl : Int) (zT : Nat) (bT : Nat → Int) (zF : Nat) (bF : Nat → Int) (T : Nat → Nat → Int) (cnt d : Nat) (zS : Nat → Nat) (bS : Nat → Nat → Int) (hW : dbs g L κ scn fpl zT bT zF bF T cnt d zS bS) (hsc : -1 ≤ scn ∧ scn < 8) : Met l y_Doc_place w_Doc_place ({ frames := 0, cells := 0, slots := 0, locals := 0 }) (mwP D vwCl (tyL g) lo L κ [.ref (L 0)]) (mwQ D vwCl lo (mwR (some (.int (iI fpl))) L κ)) 0 0 (fun q => lo ≤ q) := by
  obtain ⟨hO, ⟨fA, hA1, hA2⟩, ⟨nT, hT⟩, ⟨nF, hF⟩, hN, ⟨ra, ri, rf, rp, hR⟩, ⟨nS, hSl⟩, hd⟩ := hW
  have hct := hT.2.2.1
  have hcf := hF.2.2.1
  have hcn := hN.2.2.1
  refine Met.ofW (cc := b_Doc_place) (maxL := 1) (ret := (Option.some Jvm.ClassFile.FieldType.int)) (by decide) rfl ?_
  intro p e s m args below meth c s₁ B hml hpre
  obtain ⟨hargs, hM, hK⟩ := hpre
  have hx := B.exec
  have hb := B.bytes
  have hr := B.returns
  have hts : ∀ w ∈ wA, w.before args s = true := fun w h => atoms_spec (ws := w_Doc_place) B.pre w (List.mem_cons_of_mem _ h)
  have hown : s.vm.findClass R_Doc = some m.cls := findClass_of_methodNamed B.named
  have hlocks := B.notSynchronized
  have hS : va_S (fun q => lo ≤ q) s.heap s.heap [] := va_S.rf
  obtain ⟨ls, hls, hl⟩ := mw_entry (m := m) [.ref (L 0)] (n := 1) (Nat.le_of_ble_eq_true rfl) hargs
  refine W.eq hls ?_
  have hl : lv_has ls 1 [(0, .ref (L 0))] := hl
  refine lv_aload_n hx hb d_Doc_place_0 rfl (lv_at hl 0 rfl) ?_
  refine mw_get (ci := 3) (i := 0) (v := .int (iI fpl)) (C := R_Doc) (T := T_Doc) (N := 7) hx hb hts in_Doc hown hK hM hO rfl rfl 6 (by decide) (hts _ m_191) rfl d_Doc_place_1 ?_
  exact mw_iret hx hb hr hM hS hlocks d_Doc_place_4 (mwR_i (by rfl))
set_option maxHeartbeats 4000000 in
set_option maxRecDepth 100000 in
theorem c_Doc_many (l : Launch) (D : va_G) (g : Nat → ClassId) (lo : Nat) (L : Nat → Nat) (κ : Nat → Option va_E) (scn fpl : Int) (zT : Nat) (bT : Nat → Int) (zF : Nat) (bF : Nat → Int) (T : Nat → Nat → Int) (cnt d : Nat) (zS : Nat → Nat) (bS : Nat → Nat → Int) (hW : dbs g L κ scn fpl zT bT zF bF T cnt d zS bS) (hsc : -1 ≤ scn ∧ scn < 8) (s0 a : Int) (hs0 : -2147483648 ≤ s0 ∧ s0 < 2147483648) (ha : -2147483648 ≤ a ∧ a < 2147483648) (hOK : dOK scn s0 T zS bS) : Met l y_Doc_many w_Doc_many ({ frames := 5, cells := 0, slots := 0, locals := 119 }) (mwP D vwCl (tyL g) lo L κ [.ref (L 0), .int (iI s0), .int (iI a)]) (mwQ D vwCl lo (fun v L1 κ1 => v = some (.int (iI (dMany s0 a (dTab scn s0 T cnt d zS bS).2.1 (dTab scn s0 T cnt d zS bS).2.2.1 zS))) ∧ L = L1 ∧ dbs g L κ1 ((dTab scn s0 T cnt d zS bS).1) fpl zT bT zF bF ((dTab scn s0 T cnt d zS bS).2.1) ((dTab scn s0 T cnt d zS bS).2.2.1) ((dTab scn s0 T cnt d zS bS).2.2.2) zS bS ∧ ∀ r, 40 ≤ r → κ1 r = κ r)) 0 0 (fun q => lo ≤ q) := by
  obtain ⟨hO, ⟨fA, hA1, hA2⟩, ⟨nT, hT⟩, ⟨nF, hF⟩, hN, ⟨ra, ri, rf, rp, hR⟩, ⟨nS, hSl⟩, hd⟩ := hW
  have hct := hT.2.2.1
  have hcf := hF.2.2.1
  have hcn := hN.2.2.1
  refine Met.ofW (cc := b_Doc_many) (maxL := 3) (ret := (Option.some Jvm.ClassFile.FieldType.int)) (by decide) rfl ?_
  intro p e s m args below meth c s₁ B hml hpre
  obtain ⟨hargs, hM, hK⟩ := hpre
  have hx := B.exec
  have hb := B.bytes
  have hr := B.returns
  have hts : ∀ w ∈ wA, w.before args s = true := fun w h => atoms_spec (ws := w_Doc_many) B.pre w (List.mem_cons_of_mem _ h)
  have hown : s.vm.findClass R_Doc = some m.cls := findClass_of_methodNamed B.named
  have hlocks := B.notSynchronized
  have hS : va_S (fun q => lo ≤ q) s.heap s.heap [] := va_S.rf
  obtain ⟨ls, hls, hl⟩ := mw_entry (m := m) [.ref (L 0), .int (iI s0), .int (iI a)] (n := 3) (Nat.le_of_ble_eq_true rfl) hargs
  refine W.eq hls ?_
  have hl : lv_has ls 3 [(0, .ref (L 0)), (1, .int (iI s0)), (2, .int (iI a))] := hl
  refine lv_aload_n hx hb d_Doc_many_0 rfl (lv_at hl 0 rfl) ?_
  refine lv_iload_n hx hb d_Doc_many_1 rfl (lv_at hl 1 rfl) ?_
  refine lv_iconst (v := iI (0)) hx hb d_Doc_many_2 rfl ?_
  refine mw_callV (i := 0) (As := [.int (iI s0), .int (iI 0)]) (rest := []) ⟨hx, hb, hml, hown, hts⟩ hK hM hS rfl hO rfl (c_Doc_hasNode l D g lo L κ scn fpl zT bT zF bF T cnt d zS bS ⟨hO, ⟨fA, hA1, hA2⟩, ⟨_, hT⟩, ⟨_, hF⟩, hN, ⟨_, _, _, _, hR⟩, ⟨nS, hSl⟩, hd⟩ (by omega) s0 0 (by omega) (by omega) hOK) (cwV 2 hts (gV m_378 m_380 m_8 m_51 m_381) rfl rfl rfl (by decide +kernel) ⟨Nat.le_of_ble_eq_true rfl, Nat.le_of_ble_eq_true rfl⟩) rfl hl.1 rfl (Nat.le_of_ble_eq_true rfl) d_Doc_many_3 ⟨Nat.le_of_ble_eq_true rfl, Nat.le_of_ble_eq_true rfl⟩ (fun v1 L1 κ1 H locs hp1 hM hS => ?_)
  obtain ⟨sc1, T1, cn1, d1, hTb1⟩ : ∃ (za : Int) (zb : Nat → Nat → Int) (zc : Nat) (zd : Nat), dTab scn s0 T cnt d zS bS = (za, zb, zc, zd) := ⟨_, _, _, _, rfl⟩
  have hsc1 := dTab_r hTb1 (by omega)
  rw [hTb1] at hp1
  obtain ⟨rfl, rfl, hW1, hk1⟩ := hp1
  have hW1 : dbs g L κ1 sc1 fpl zT bT zF bF T1 cn1 d1 zS bS := hW1
  obtain ⟨hO_1, ⟨fA, hA1_1, hA2_1⟩, ⟨nT_1, hT_1⟩, ⟨nF_1, hF_1⟩, hN_1, ⟨ra_1, ri_1, rf_1, rp_1, hR_1⟩, ⟨nS_1, hSl_1⟩, hd_1⟩ := hW1
  have hct_1 := hT_1.2.2.1
  have hcf_1 := hF_1.2.2.1
  have hcn_1 := hN_1.2.2.1
  refine ia_ifz_ne (x := dHas s0 0 cn1) (tgt := 11) hx hb d_Doc_many_6 (by decide) (fun c2 => ?_) (fun c2 => ?_)
  · have hh1 := dHas_iff.mp (by assumption)
    obtain ⟨hs2, hd2⟩ := dTab_d hTb1 hh1.1 hd.1
    subst hd2
    have hs2 := hs2.symm
    subst hs2
    have hB3 := hSl_1 (s0 : Int).toNat (by omega)
    have r4 := hB3.2.2.1
    refine lv_iload_n hx hb d_Doc_many_11 rfl (lv_at hl 2 rfl) ?_
    rcases (show (a < 0 ∨ 2 < a) ∨ a = 0 ∨ a = 1 ∨ a = 2 by omega) with c5 | c5 | c5 | c5
    · refine lv_tableOut (tgt := 67) hx hb d_Doc_many_12 (by rw [iI_toInt (by omega)]; exact c5) (by decide) ?_
      refine lv_iconst (v := iI (-1)) hx hb d_Doc_many_67 rfl ?_
      exact mw_iret hx hb hr hM hS hlocks d_Doc_many_68 (by rw [hTb1]; exact ⟨congrArg (fun z => some (Value.int (iI z))) (show (-1 : Int) = dMany s0 a T1 cn1 zS by unfold dMany; rw [if_pos (by assumption), if_neg (by omega), if_neg (by omega), if_neg (by omega)]), rfl, ⟨hO_1, ⟨fA, hA1_1, hA2_1⟩, ⟨_, hT_1⟩, ⟨_, hF_1⟩, hN_1, ⟨_, _, _, _, hR_1⟩, ⟨nS_1, hSl_1⟩, hd_1⟩, fun r h => by rw [hk1 r (by omega)]⟩)
    · refine lv_tableIn (off := 28) (tgt := 40) hx hb d_Doc_many_12 (by rw [iI_toInt (by omega)]; omega) (by rw [iI_toInt (by omega)]; omega) (by rw [iI_toInt (by omega), c5]; rfl) (by decide) ?_
      refine lv_aload_n hx hb d_Doc_many_40 rfl (lv_at hl 0 rfl) ?_
      refine mw_get (ci := 3) (i := 0) (v := .ref (L 1)) (C := R_Doc) (T := T_Doc) (N := 7) hx hb hts in_Doc hown hK hM hO_1 rfl rfl 1 (by decide) (hts _ m_186) rfl d_Doc_many_41 ?_
      refine lv_iload_n hx hb d_Doc_many_44 rfl (lv_at hl 1 rfl) ?_
      refine mw_aldq (a := s0) (i := 1) hx hb hK hM 2 hA1_1 rfl rfl (by omega) (by omega) (hA2_1 (s0 : Int).toNat (by omega)) d_Doc_many_45 ?_
      refine mw_rdV (i := 16 + 2 * (s0 : Int).toNat) (As := []) (rest := []) ⟨hx, hb, hml, hown, hts⟩ hK hM hS rfl hB3.1 rfl (c_Bytes_size l D g lo L κ1 (16 + 2 * (s0 : Int).toNat) (17 + 2 * (s0 : Int).toNat) 2000 (nS_1 (s0 : Int).toNat) (zS (s0 : Int).toNat) (bS (s0 : Int).toNat) hB3 ) (cwV 0 hts (gV m_211 m_212 m_213 m_52 m_214) rfl rfl rfl (by decide +kernel) ⟨Nat.le_of_ble_eq_true rfl, Nat.le_of_ble_eq_true rfl⟩) rfl hl.1 rfl (Nat.le_of_ble_eq_true rfl) d_Doc_many_46 ⟨Nat.le_of_ble_eq_true rfl, Nat.le_of_ble_eq_true rfl⟩ (fun H locs hM hS => ?_)
      exact mw_iret hx hb hr hM hS hlocks d_Doc_many_49 (by rw [hTb1]; exact ⟨congrArg (fun z => some (Value.int (iI z))) (show (((zS (s0 : Int).toNat : Nat) : Int) : Int) = dMany s0 a T1 cn1 zS by unfold dMany; rw [if_pos (by assumption), if_pos (by omega)]), rfl, ⟨hO_1, ⟨fA, hA1_1, hA2_1⟩, ⟨_, hT_1⟩, ⟨_, hF_1⟩, hN_1, ⟨_, _, _, _, hR_1⟩, ⟨nS_1, hSl_1⟩, hd_1⟩, fun r h => by rw [hk1 r (by omega)]⟩)
    · refine lv_tableIn (off := 38) (tgt := 50) hx hb d_Doc_many_12 (by rw [iI_toInt (by omega)]; omega) (by rw [iI_toInt (by omega)]; omega) (by rw [iI_toInt (by omega), c5]; rfl) (by decide) ?_
      refine lv_aload_n hx hb d_Doc_many_50 rfl (lv_at hl 0 rfl) ?_
      refine mw_get (ci := 3) (i := 0) (v := .ref (L 6)) (C := R_Doc) (T := T_Doc) (N := 7) hx hb hts in_Doc hown hK hM hO_1 rfl rfl 3 (by decide) (hts _ m_188) rfl d_Doc_many_51 ?_
      refine mw_rdV (i := 6) (As := []) (rest := []) ⟨hx, hb, hml, hown, hts⟩ hK hM hS rfl hN_1.1 rfl (c_Nodes_count l D g lo L κ1 T1 cn1 (16 + 2 * (s0 : Int).toNat) hN_1 ) (cwV 0 hts (gV m_396 m_397 m_398 m_56 m_399) rfl rfl rfl (by decide +kernel) ⟨Nat.le_of_ble_eq_true rfl, Nat.le_of_ble_eq_true rfl⟩) rfl hl.1 rfl (Nat.le_of_ble_eq_true rfl) d_Doc_many_54 ⟨Nat.le_of_ble_eq_true rfl, Nat.le_of_ble_eq_true rfl⟩ (fun H locs hM hS => ?_)
      exact mw_iret hx hb hr hM hS hlocks d_Doc_many_57 (by rw [hTb1]; exact ⟨congrArg (fun z => some (Value.int (iI z))) (show (cn1 : Int) = dMany s0 a T1 cn1 zS by unfold dMany; rw [if_pos (by assumption), if_neg (by omega), if_pos (by omega)]), rfl, ⟨hO_1, ⟨fA, hA1_1, hA2_1⟩, ⟨_, hT_1⟩, ⟨_, hF_1⟩, hN_1, ⟨_, _, _, _, hR_1⟩, ⟨nS_1, hSl_1⟩, hd_1⟩, fun r h => by rw [hk1 r (by omega)]⟩)
    · refine lv_tableIn (off := 46) (tgt := 58) hx hb d_Doc_many_12 (by rw [iI_toInt (by omega)]; omega) (by rw [iI_toInt (by omega)]; omega) (by rw [iI_toInt (by omega), c5]; rfl) (by decide) ?_
      refine lv_aload_n hx hb d_Doc_many_58 rfl (lv_at hl 0 rfl) ?_
      refine mw_get (ci := 3) (i := 0) (v := .ref (L 6)) (C := R_Doc) (T := T_Doc) (N := 7) hx hb hts in_Doc hown hK hM hO_1 rfl rfl 3 (by decide) (hts _ m_188) rfl d_Doc_many_59 ?_
      refine lv_iconst (v := iI (0)) hx hb d_Doc_many_62 rfl ?_
      refine mw_rdV (i := 6) (As := [.int (iI 0)]) (rest := []) ⟨hx, hb, hml, hown, hts⟩ hK hM hS rfl hN_1.1 rfl (c_Nodes_deepestIn l D g lo L κ1 T1 cn1 (16 + 2 * (s0 : Int).toNat) hN_1 0 (by omega)) (cwV 1 hts (gV m_400 m_401 m_402 m_56 m_403) rfl rfl rfl (by decide +kernel) ⟨Nat.le_of_ble_eq_true rfl, Nat.le_of_ble_eq_true rfl⟩) rfl hl.1 rfl (Nat.le_of_ble_eq_true rfl) d_Doc_many_63 ⟨Nat.le_of_ble_eq_true rfl, Nat.le_of_ble_eq_true rfl⟩ (fun H locs hM hS => ?_)
      have r6 := nDeep_r (cnt := cn1) hN_1.2.2.2.1 0
      exact mw_iret hx hb hr hM hS hlocks d_Doc_many_66 (by rw [hTb1]; exact ⟨congrArg (fun z => some (Value.int (iI z))) (show (nDeep T1 cn1 0 : Int) = dMany s0 a T1 cn1 zS by unfold dMany; rw [if_pos (by assumption), if_neg (by omega), if_neg (by omega), if_pos (by omega)]), rfl, ⟨hO_1, ⟨fA, hA1_1, hA2_1⟩, ⟨_, hT_1⟩, ⟨_, hF_1⟩, hN_1, ⟨_, _, _, _, hR_1⟩, ⟨nS_1, hSl_1⟩, hd_1⟩, fun r h => by rw [hk1 r (by omega)]⟩)
  · refine lv_iconst (v := iI (-1)) hx hb d_Doc_many_9 rfl ?_
    exact mw_iret hx hb hr hM hS hlocks d_Doc_many_10 (by rw [hTb1]; exact ⟨congrArg (fun z => some (Value.int (iI z))) (show (-1 : Int) = dMany s0 a T1 cn1 zS by unfold dMany; rw [if_neg (zne (by assumption))]), rfl, ⟨hO_1, ⟨fA, hA1_1, hA2_1⟩, ⟨_, hT_1⟩, ⟨_, hF_1⟩, hN_1, ⟨_, _, _, _, hR_1⟩, ⟨nS_1, hSl_1⟩, hd_1⟩, fun r h => by rw [hk1 r (by omega)]⟩)
set_option maxHeartbeats 4000000 in
set_option maxRecDepth 100000 in
theorem c_Doc_byteAt (l : Launch) (D : va_G) (g : Nat → ClassId) (lo : Nat) (L : Nat → Nat) (κ : Nat → Option va_E) (scn fpl : Int) (zT : Nat) (bT : Nat → Int) (zF : Nat) (bF : Nat → Int) (T : Nat → Nat → Int) (cnt d : Nat) (zS : Nat → Nat) (bS : Nat → Nat → Int) (hW : dbs g L κ scn fpl zT bT zF bF T cnt d zS bS) (hsc : -1 ≤ scn ∧ scn < 8) (s0 a : Int) (hs0 : -2147483648 ≤ s0 ∧ s0 < 2147483648) (ha : -2147483648 ≤ a ∧ a < 2147483648) : Met l y_Doc_byteAt w_Doc_byteAt ({ frames := 1, cells := 0, slots := 0, locals := 21 }) (mwP D vwCl (tyL g) lo L κ [.ref (L 0), .int (iI s0), .int (iI a)]) (mwQ D vwCl lo (mwR (some (.int (iI (dByte s0 a zS bS)))) L κ)) 0 0 (fun q => lo ≤ q) := by
  obtain ⟨hO, ⟨fA, hA1, hA2⟩, ⟨nT, hT⟩, ⟨nF, hF⟩, hN, ⟨ra, ri, rf, rp, hR⟩, ⟨nS, hSl⟩, hd⟩ := hW
  have hct := hT.2.2.1
  have hcf := hF.2.2.1
  have hcn := hN.2.2.1
  refine Met.ofW (cc := b_Doc_byteAt) (maxL := 3) (ret := (Option.some Jvm.ClassFile.FieldType.int)) (by decide) rfl ?_
  intro p e s m args below meth c s₁ B hml hpre
  obtain ⟨hargs, hM, hK⟩ := hpre
  have hx := B.exec
  have hb := B.bytes
  have hr := B.returns
  have hts : ∀ w ∈ wA, w.before args s = true := fun w h => atoms_spec (ws := w_Doc_byteAt) B.pre w (List.mem_cons_of_mem _ h)
  have hown : s.vm.findClass R_Doc = some m.cls := findClass_of_methodNamed B.named
  have hlocks := B.notSynchronized
  have hS : va_S (fun q => lo ≤ q) s.heap s.heap [] := va_S.rf
  obtain ⟨ls, hls, hl⟩ := mw_entry (m := m) [.ref (L 0), .int (iI s0), .int (iI a)] (n := 3) (Nat.le_of_ble_eq_true rfl) hargs
  refine W.eq hls ?_
  have hl : lv_has ls 3 [(0, .ref (L 0)), (1, .int (iI s0)), (2, .int (iI a))] := hl
  refine lv_iload_n hx hb d_Doc_byteAt_0 rfl (lv_at hl 1 rfl) ?_
  refine mw_rdS (As := [.int (iI s0)]) (rest := []) ⟨hx, hb, hml, hown, hts⟩ hK hM hS (c_Doc_isSlot l D g lo L κ s0 (by omega)) (cwS 1 hts (gS m_223 m_224 m_51 m_225) rfl rfl rfl (by decide +kernel) ⟨Nat.le_of_ble_eq_true rfl, Nat.le_of_ble_eq_true rfl⟩) rfl hl.1 rfl (Nat.le_of_ble_eq_true rfl) d_Doc_byteAt_1 ⟨Nat.le_of_ble_eq_true rfl, Nat.le_of_ble_eq_true rfl⟩ (fun H locs hM hS => ?_)
  refine ia_ifz_eq (x := dSlot s0) (tgt := 20) hx hb d_Doc_byteAt_4 (by decide) (fun c1 => ?_) (fun c1 => ?_)
  · refine lv_iconst (v := iI (-1)) hx hb d_Doc_byteAt_20 rfl ?_
    exact mw_iret hx hb hr hM hS hlocks d_Doc_byteAt_21 (mwR_i (by unfold dByte; rw [if_neg (zne (by assumption))]))
  · have hs1 := dSlot_iff.mp (by assumption)
    refine lv_aload_n hx hb d_Doc_byteAt_7 rfl (lv_at hl 0 rfl) ?_
    refine mw_get (ci := 3) (i := 0) (v := .ref (L 1)) (C := R_Doc) (T := T_Doc) (N := 7) hx hb hts in_Doc hown hK hM hO rfl rfl 1 (by decide) (hts _ m_186) rfl d_Doc_byteAt_8 ?_
    refine lv_iload_n hx hb d_Doc_byteAt_11 rfl (lv_at hl 1 rfl) ?_
    refine mw_aldq (a := s0) (i := 1) hx hb hK hM 2 hA1 rfl rfl (by omega) (by omega) (hA2 (s0 : Int).toNat (by omega)) d_Doc_byteAt_12 ?_
    have hB2 := hSl (s0 : Int).toNat (by omega)
    have r3 := hB2.2.2.1
    refine lv_iload_n hx hb d_Doc_byteAt_13 rfl (lv_at hl 2 rfl) ?_
    refine mw_rdV (i := 16 + 2 * (s0 : Int).toNat) (As := [.int (iI a)]) (rest := []) ⟨hx, hb, hml, hown, hts⟩ hK hM hS rfl hB2.1 rfl (c_Bytes_get l D g lo L κ (16 + 2 * (s0 : Int).toNat) (17 + 2 * (s0 : Int).toNat) 2000 (nS (s0 : Int).toNat) (zS (s0 : Int).toNat) (bS (s0 : Int).toNat) hB2 a (by omega)) (cwV 1 hts (gV m_416 m_251 m_252 m_52 m_253) rfl rfl rfl (by decide +kernel) ⟨Nat.le_of_ble_eq_true rfl, Nat.le_of_ble_eq_true rfl⟩) rfl hl.1 rfl (Nat.le_of_ble_eq_true rfl) d_Doc_byteAt_14 ⟨Nat.le_of_ble_eq_true rfl, Nat.le_of_ble_eq_true rfl⟩ (fun H locs hM hS => ?_)
    have r4 := bGet_r (sz := zS (s0 : Int).toNat) hB2.2.2.2.1 a
    refine lv_goto (tgt := 21) hx hb d_Doc_byteAt_17 (by decide) ?_
    exact mw_iret hx hb hr hM hS hlocks d_Doc_byteAt_21 (mwR_i (by unfold dByte; rw [if_pos (by assumption)]))
set_option maxHeartbeats 4000000 in
set_option maxRecDepth 100000 in
theorem c_Doc_look (l : Launch) (D : va_G) (g : Nat → ClassId) (lo : Nat) (L : Nat → Nat) (κ : Nat → Option va_E) (scn fpl : Int) (zT : Nat) (bT : Nat → Int) (zF : Nat) (bF : Nat → Int) (T : Nat → Nat → Int) (cnt d : Nat) (zS : Nat → Nat) (bS : Nat → Nat → Int) (hW : dbs g L κ scn fpl zT bT zF bF T cnt d zS bS) (hsc : -1 ≤ scn ∧ scn < 8) (s0 x a : Int) (hs0 : -2147483648 ≤ s0 ∧ s0 < 2147483648) (hx : -2147483648 ≤ x ∧ x < 2147483648) (ha : -2147483648 ≤ a ∧ a < 2147483648) (hOK : dOK scn s0 T zS bS) : Met l y_Doc_look w_Doc_look ({ frames := 5, cells := 0, slots := 0, locals := 119 }) (mwP D vwCl (tyL g) lo L κ [.ref (L 0), .int (iI s0), .int (iI x), .int (iI a)]) (mwQ D vwCl lo (fun v L1 κ1 => v = some (.int (iI (dLook s0 x a (dTab scn s0 T cnt d zS bS).2.1 (dTab scn s0 T cnt d zS bS).2.2.1))) ∧ L = L1 ∧ dbs g L κ1 ((dTab scn s0 T cnt d zS bS).1) fpl zT bT zF bF ((dTab scn s0 T cnt d zS bS).2.1) ((dTab scn s0 T cnt d zS bS).2.2.1) ((dTab scn s0 T cnt d zS bS).2.2.2) zS bS ∧ ∀ r, 40 ≤ r → κ1 r = κ r)) 0 0 (fun q => lo ≤ q) := by
  obtain ⟨hO, ⟨fA, hA1, hA2⟩, ⟨nT, hT⟩, ⟨nF, hF⟩, hN, ⟨ra, ri, rf, rp, hR⟩, ⟨nS, hSl⟩, hd⟩ := hW
  have hct := hT.2.2.1
  have hcf := hF.2.2.1
  have hcn := hN.2.2.1
  refine Met.ofW (cc := b_Doc_look) (maxL := 4) (ret := (Option.some Jvm.ClassFile.FieldType.int)) (by decide) rfl ?_
  intro p e s m args below meth c s₁ B hml hpre
  obtain ⟨hargs, hM, hK⟩ := hpre
  have hx := B.exec
  have hb := B.bytes
  have hr := B.returns
  have hts : ∀ w ∈ wA, w.before args s = true := fun w h => atoms_spec (ws := w_Doc_look) B.pre w (List.mem_cons_of_mem _ h)
  have hown : s.vm.findClass R_Doc = some m.cls := findClass_of_methodNamed B.named
  have hlocks := B.notSynchronized
  have hS : va_S (fun q => lo ≤ q) s.heap s.heap [] := va_S.rf
  obtain ⟨ls, hls, hl⟩ := mw_entry (m := m) [.ref (L 0), .int (iI s0), .int (iI x), .int (iI a)] (n := 4) (Nat.le_of_ble_eq_true rfl) hargs
  refine W.eq hls ?_
  have hl : lv_has ls 4 [(0, .ref (L 0)), (1, .int (iI s0)), (2, .int (iI x)), (3, .int (iI a))] := hl
  refine lv_aload_n hx hb d_Doc_look_0 rfl (lv_at hl 0 rfl) ?_
  refine lv_iload_n hx hb d_Doc_look_1 rfl (lv_at hl 1 rfl) ?_
  refine lv_iload_n hx hb d_Doc_look_2 rfl (lv_at hl 2 rfl) ?_
  refine mw_callV (i := 0) (As := [.int (iI s0), .int (iI x)]) (rest := []) ⟨hx, hb, hml, hown, hts⟩ hK hM hS rfl hO rfl (c_Doc_hasNode l D g lo L κ scn fpl zT bT zF bF T cnt d zS bS ⟨hO, ⟨fA, hA1, hA2⟩, ⟨_, hT⟩, ⟨_, hF⟩, hN, ⟨_, _, _, _, hR⟩, ⟨nS, hSl⟩, hd⟩ (by omega) s0 x (by omega) (by omega) hOK) (cwV 2 hts (gV m_378 m_380 m_8 m_51 m_381) rfl rfl rfl (by decide +kernel) ⟨Nat.le_of_ble_eq_true rfl, Nat.le_of_ble_eq_true rfl⟩) rfl hl.1 rfl (Nat.le_of_ble_eq_true rfl) d_Doc_look_3 ⟨Nat.le_of_ble_eq_true rfl, Nat.le_of_ble_eq_true rfl⟩ (fun v1 L1 κ1 H locs hp1 hM hS => ?_)
  obtain ⟨sc1, T1, cn1, d1, hTb1⟩ : ∃ (za : Int) (zb : Nat → Nat → Int) (zc : Nat) (zd : Nat), dTab scn s0 T cnt d zS bS = (za, zb, zc, zd) := ⟨_, _, _, _, rfl⟩
  have hsc1 := dTab_r hTb1 (by omega)
  rw [hTb1] at hp1
  obtain ⟨rfl, rfl, hW1, hk1⟩ := hp1
  have hW1 : dbs g L κ1 sc1 fpl zT bT zF bF T1 cn1 d1 zS bS := hW1
  obtain ⟨hO_1, ⟨fA, hA1_1, hA2_1⟩, ⟨nT_1, hT_1⟩, ⟨nF_1, hF_1⟩, hN_1, ⟨ra_1, ri_1, rf_1, rp_1, hR_1⟩, ⟨nS_1, hSl_1⟩, hd_1⟩ := hW1
  have hct_1 := hT_1.2.2.1
  have hcf_1 := hF_1.2.2.1
  have hcn_1 := hN_1.2.2.1
  refine ia_ifz_ne (x := dHas s0 x cn1) (tgt := 11) hx hb d_Doc_look_6 (by decide) (fun c2 => ?_) (fun c2 => ?_)
  · have hh1 := dHas_iff.mp (by assumption)
    obtain ⟨hs2, hd2⟩ := dTab_d hTb1 hh1.1 hd.1
    subst hd2
    have hs2 := hs2.symm
    subst hs2
    have hB3 := hSl_1 (s0 : Int).toNat (by omega)
    have r4 := hB3.2.2.1
    refine lv_iload_n hx hb d_Doc_look_11 rfl (lv_at hl 3 rfl) ?_
    rcases (show (a < 0 ∨ 8 < a) ∨ a = 0 ∨ a = 1 ∨ a = 2 ∨ a = 3 ∨ a = 4 ∨ a = 5 ∨ a = 6 ∨ a = 7 ∨ a = 8 by omega) with c5 | c5 | c5 | c5 | c5 | c5 | c5 | c5 | c5 | c5
    · refine lv_tableOut (tgt := 155) hx hb d_Doc_look_12 (by rw [iI_toInt (by omega)]; exact c5) (by decide) ?_
      refine lv_iconst (v := iI (-1)) hx hb d_Doc_look_155 rfl ?_
      exact mw_iret hx hb hr hM hS hlocks d_Doc_look_156 (by rw [hTb1]; exact ⟨congrArg (fun z => some (Value.int (iI z))) (show (-1 : Int) = dLook s0 x a T1 cn1 by unfold dLook; rw [if_pos (by assumption), if_neg (by omega), if_neg (by omega), if_neg (by omega), if_neg (by omega), if_neg (by omega), if_neg (by omega), if_neg (by omega), if_neg (by omega), if_neg (by omega)]), rfl, ⟨hO_1, ⟨fA, hA1_1, hA2_1⟩, ⟨_, hT_1⟩, ⟨_, hF_1⟩, hN_1, ⟨_, _, _, _, hR_1⟩, ⟨nS_1, hSl_1⟩, hd_1⟩, fun r h => by rw [hk1 r (by omega)]⟩)
    · refine lv_tableIn (off := 52) (tgt := 64) hx hb d_Doc_look_12 (by rw [iI_toInt (by omega)]; omega) (by rw [iI_toInt (by omega)]; omega) (by rw [iI_toInt (by omega), c5]; rfl) (by decide) ?_
      refine lv_aload_n hx hb d_Doc_look_64 rfl (lv_at hl 0 rfl) ?_
      refine mw_get (ci := 3) (i := 0) (v := .ref (L 6)) (C := R_Doc) (T := T_Doc) (N := 7) hx hb hts in_Doc hown hK hM hO_1 rfl rfl 3 (by decide) (hts _ m_188) rfl d_Doc_look_65 ?_
      refine lv_iload_n hx hb d_Doc_look_68 rfl (lv_at hl 2 rfl) ?_
      refine mw_rdV (i := 6) (As := [.int (iI x)]) (rest := []) ⟨hx, hb, hml, hown, hts⟩ hK hM hS rfl hN_1.1 rfl (c_Nodes_kind l D g lo L κ1 T1 cn1 (16 + 2 * (s0 : Int).toNat) hN_1 x (by omega)) (cwV 1 hts (gV m_421 m_313 m_314 m_56 m_315) rfl rfl rfl (by decide +kernel) ⟨Nat.le_of_ble_eq_true rfl, Nat.le_of_ble_eq_true rfl⟩) rfl hl.1 rfl (Nat.le_of_ble_eq_true rfl) d_Doc_look_69 ⟨Nat.le_of_ble_eq_true rfl, Nat.le_of_ble_eq_true rfl⟩ (fun H locs hM hS => ?_)
      have r6 := nCell_r (cnt := cn1) hN_1.2.2.2.1 0 x
      exact mw_iret hx hb hr hM hS hlocks d_Doc_look_72 (by rw [hTb1]; exact ⟨congrArg (fun z => some (Value.int (iI z))) (show (nCell T1 cn1 0 x : Int) = dLook s0 x a T1 cn1 by unfold dLook; rw [if_pos (by assumption), if_pos (by omega)]), rfl, ⟨hO_1, ⟨fA, hA1_1, hA2_1⟩, ⟨_, hT_1⟩, ⟨_, hF_1⟩, hN_1, ⟨_, _, _, _, hR_1⟩, ⟨nS_1, hSl_1⟩, hd_1⟩, fun r h => by rw [hk1 r (by omega)]⟩)
    · refine lv_tableIn (off := 61) (tgt := 73) hx hb d_Doc_look_12 (by rw [iI_toInt (by omega)]; omega) (by rw [iI_toInt (by omega)]; omega) (by rw [iI_toInt (by omega), c5]; rfl) (by decide) ?_
      refine lv_aload_n hx hb d_Doc_look_73 rfl (lv_at hl 0 rfl) ?_
      refine mw_get (ci := 3) (i := 0) (v := .ref (L 6)) (C := R_Doc) (T := T_Doc) (N := 7) hx hb hts in_Doc hown hK hM hO_1 rfl rfl 3 (by decide) (hts _ m_188) rfl d_Doc_look_74 ?_
      refine lv_iload_n hx hb d_Doc_look_77 rfl (lv_at hl 2 rfl) ?_
      refine mw_rdV (i := 6) (As := [.int (iI x)]) (rest := []) ⟨hx, hb, hml, hown, hts⟩ hK hM hS rfl hN_1.1 rfl (c_Nodes_parent l D g lo L κ1 T1 cn1 (16 + 2 * (s0 : Int).toNat) hN_1 x (by omega)) (cwV 1 hts (gV m_422 m_280 m_281 m_56 m_282) rfl rfl rfl (by decide +kernel) ⟨Nat.le_of_ble_eq_true rfl, Nat.le_of_ble_eq_true rfl⟩) rfl hl.1 rfl (Nat.le_of_ble_eq_true rfl) d_Doc_look_78 ⟨Nat.le_of_ble_eq_true rfl, Nat.le_of_ble_eq_true rfl⟩ (fun H locs hM hS => ?_)
      have r7 := nCell_r (cnt := cn1) hN_1.2.2.2.1 1 x
      exact mw_iret hx hb hr hM hS hlocks d_Doc_look_81 (by rw [hTb1]; exact ⟨congrArg (fun z => some (Value.int (iI z))) (show (nCell T1 cn1 1 x : Int) = dLook s0 x a T1 cn1 by unfold dLook; rw [if_pos (by assumption), if_neg (by omega), if_pos (by omega)]), rfl, ⟨hO_1, ⟨fA, hA1_1, hA2_1⟩, ⟨_, hT_1⟩, ⟨_, hF_1⟩, hN_1, ⟨_, _, _, _, hR_1⟩, ⟨nS_1, hSl_1⟩, hd_1⟩, fun r h => by rw [hk1 r (by omega)]⟩)
    · refine lv_tableIn (off := 70) (tgt := 82) hx hb d_Doc_look_12 (by rw [iI_toInt (by omega)]; omega) (by rw [iI_toInt (by omega)]; omega) (by rw [iI_toInt (by omega), c5]; rfl) (by decide) ?_
      refine lv_aload_n hx hb d_Doc_look_82 rfl (lv_at hl 0 rfl) ?_
      refine mw_get (ci := 3) (i := 0) (v := .ref (L 6)) (C := R_Doc) (T := T_Doc) (N := 7) hx hb hts in_Doc hown hK hM hO_1 rfl rfl 3 (by decide) (hts _ m_188) rfl d_Doc_look_83 ?_
      refine lv_iload_n hx hb d_Doc_look_86 rfl (lv_at hl 2 rfl) ?_
      refine mw_rdV (i := 6) (As := [.int (iI x)]) (rest := []) ⟨hx, hb, hml, hown, hts⟩ hK hM hS rfl hN_1.1 rfl (c_Nodes_elements l D g lo L κ1 T1 cn1 (16 + 2 * (s0 : Int).toNat) hN_1 x (by omega)) (cwV 1 hts (gV m_423 m_317 m_318 m_56 m_319) rfl rfl rfl (by decide +kernel) ⟨Nat.le_of_ble_eq_true rfl, Nat.le_of_ble_eq_true rfl⟩) rfl hl.1 rfl (Nat.le_of_ble_eq_true rfl) d_Doc_look_87 ⟨Nat.le_of_ble_eq_true rfl, Nat.le_of_ble_eq_true rfl⟩ (fun H locs hM hS => ?_)
      have r8 := nCell_r (cnt := cn1) hN_1.2.2.2.1 6 x
      refine ia_if_le (a := nCell T1 cn1 6 x) (tgt := 99) hx hb d_Doc_look_90 (by decide) (by omega) (fun c9 => ?_) (fun c9 => ?_)
      · refine lv_iconst (v := iI (-1)) hx hb d_Doc_look_99 rfl ?_
        exact mw_iret hx hb hr hM hS hlocks d_Doc_look_100 (by rw [hTb1]; exact ⟨congrArg (fun z => some (Value.int (iI z))) (show (-1 : Int) = dLook s0 x a T1 cn1 by unfold dLook; rw [if_pos (by assumption), if_neg (by omega), if_neg (by omega), if_pos (by omega), if_neg (by omega)]), rfl, ⟨hO_1, ⟨fA, hA1_1, hA2_1⟩, ⟨_, hT_1⟩, ⟨_, hF_1⟩, hN_1, ⟨_, _, _, _, hR_1⟩, ⟨nS_1, hSl_1⟩, hd_1⟩, fun r h => by rw [hk1 r (by omega)]⟩)
      · refine lv_iload_n hx hb d_Doc_look_93 rfl (lv_at hl 2 rfl) ?_
        refine lv_iconst (v := iI (1)) hx hb d_Doc_look_94 rfl ?_
        refine ia_add hx hb d_Doc_look_95 ?_
        refine lv_goto (tgt := 100) hx hb d_Doc_look_96 (by decide) ?_
        exact mw_iret hx hb hr hM hS hlocks d_Doc_look_100 (by rw [hTb1]; exact ⟨congrArg (fun z => some (Value.int (iI z))) (show (x + 1 : Int) = dLook s0 x a T1 cn1 by unfold dLook; rw [if_pos (by assumption), if_neg (by omega), if_neg (by omega), if_pos (by omega), if_pos (by omega)]), rfl, ⟨hO_1, ⟨fA, hA1_1, hA2_1⟩, ⟨_, hT_1⟩, ⟨_, hF_1⟩, hN_1, ⟨_, _, _, _, hR_1⟩, ⟨nS_1, hSl_1⟩, hd_1⟩, fun r h => by rw [hk1 r (by omega)]⟩)
    · refine lv_tableIn (off := 89) (tgt := 101) hx hb d_Doc_look_12 (by rw [iI_toInt (by omega)]; omega) (by rw [iI_toInt (by omega)]; omega) (by rw [iI_toInt (by omega), c5]; rfl) (by decide) ?_
      refine lv_aload_n hx hb d_Doc_look_101 rfl (lv_at hl 0 rfl) ?_
      refine mw_get (ci := 3) (i := 0) (v := .ref (L 6)) (C := R_Doc) (T := T_Doc) (N := 7) hx hb hts in_Doc hown hK hM hO_1 rfl rfl 3 (by decide) (hts _ m_188) rfl d_Doc_look_102 ?_
      refine lv_iload_n hx hb d_Doc_look_105 rfl (lv_at hl 2 rfl) ?_
      refine mw_rdV (i := 6) (As := [.int (iI x)]) (rest := []) ⟨hx, hb, hml, hown, hts⟩ hK hM hS rfl hN_1.1 rfl (c_Nodes_nextBeside l D g lo L κ1 T1 cn1 (16 + 2 * (s0 : Int).toNat) hN_1 x (by omega)) (cwV 1 hts (gV m_424 m_425 m_426 m_56 m_427) rfl rfl rfl (by decide +kernel) ⟨Nat.le_of_ble_eq_true rfl, Nat.le_of_ble_eq_true rfl⟩) rfl hl.1 rfl (Nat.le_of_ble_eq_true rfl) d_Doc_look_106 ⟨Nat.le_of_ble_eq_true rfl, Nat.le_of_ble_eq_true rfl⟩ (fun H locs hM hS => ?_)
      exact mw_iret hx hb hr hM hS hlocks d_Doc_look_109 (by rw [hTb1]; exact ⟨congrArg (fun z => some (Value.int (iI z))) (show (nNext T1 cn1 x : Int) = dLook s0 x a T1 cn1 by unfold dLook; rw [if_pos (by assumption), if_neg (by omega), if_neg (by omega), if_neg (by omega), if_pos (by omega)]), rfl, ⟨hO_1, ⟨fA, hA1_1, hA2_1⟩, ⟨_, hT_1⟩, ⟨_, hF_1⟩, hN_1, ⟨_, _, _, _, hR_1⟩, ⟨nS_1, hSl_1⟩, hd_1⟩, fun r h => by rw [hk1 r (by omega)]⟩)
    · refine lv_tableIn (off := 98) (tgt := 110) hx hb d_Doc_look_12 (by rw [iI_toInt (by omega)]; omega) (by rw [iI_toInt (by omega)]; omega) (by rw [iI_toInt (by omega), c5]; rfl) (by decide) ?_
      refine lv_aload_n hx hb d_Doc_look_110 rfl (lv_at hl 0 rfl) ?_
      refine mw_get (ci := 3) (i := 0) (v := .ref (L 6)) (C := R_Doc) (T := T_Doc) (N := 7) hx hb hts in_Doc hown hK hM hO_1 rfl rfl 3 (by decide) (hts _ m_188) rfl d_Doc_look_111 ?_
      refine lv_iload_n hx hb d_Doc_look_114 rfl (lv_at hl 2 rfl) ?_
      refine mw_rdV (i := 6) (As := [.int (iI x)]) (rest := []) ⟨hx, hb, hml, hown, hts⟩ hK hM hS rfl hN_1.1 rfl (c_Nodes_nameLength l D g lo L κ1 T1 cn1 (16 + 2 * (s0 : Int).toNat) hN_1 x (by omega)) (cwV 1 hts (gV m_428 m_333 m_334 m_56 m_335) rfl rfl rfl (by decide +kernel) ⟨Nat.le_of_ble_eq_true rfl, Nat.le_of_ble_eq_true rfl⟩) rfl hl.1 rfl (Nat.le_of_ble_eq_true rfl) d_Doc_look_115 ⟨Nat.le_of_ble_eq_true rfl, Nat.le_of_ble_eq_true rfl⟩ (fun H locs hM hS => ?_)
      have r10 := nCell_r (cnt := cn1) hN_1.2.2.2.1 4 x
      have r11 := nCell_r (cnt := cn1) hN_1.2.2.2.1 3 x
      have r12 := (show nNameLen T1 cn1 x = nCell T1 cn1 4 x - 1 - nCell T1 cn1 3 x from rfl)
      exact mw_iret hx hb hr hM hS hlocks d_Doc_look_118 (by rw [hTb1]; exact ⟨congrArg (fun z => some (Value.int (iI z))) (show (nNameLen T1 cn1 x : Int) = dLook s0 x a T1 cn1 by unfold dLook; rw [if_pos (by assumption), if_neg (by omega), if_neg (by omega), if_neg (by omega), if_neg (by omega), if_pos (by omega)]), rfl, ⟨hO_1, ⟨fA, hA1_1, hA2_1⟩, ⟨_, hT_1⟩, ⟨_, hF_1⟩, hN_1, ⟨_, _, _, _, hR_1⟩, ⟨nS_1, hSl_1⟩, hd_1⟩, fun r h => by rw [hk1 r (by omega)]⟩)
    · refine lv_tableIn (off := 107) (tgt := 119) hx hb d_Doc_look_12 (by rw [iI_toInt (by omega)]; omega) (by rw [iI_toInt (by omega)]; omega) (by rw [iI_toInt (by omega), c5]; rfl) (by decide) ?_
      refine lv_aload_n hx hb d_Doc_look_119 rfl (lv_at hl 0 rfl) ?_
      refine mw_get (ci := 3) (i := 0) (v := .ref (L 6)) (C := R_Doc) (T := T_Doc) (N := 7) hx hb hts in_Doc hown hK hM hO_1 rfl rfl 3 (by decide) (hts _ m_188) rfl d_Doc_look_120 ?_
      refine lv_iload_n hx hb d_Doc_look_123 rfl (lv_at hl 2 rfl) ?_
      refine mw_rdV (i := 6) (As := [.int (iI x)]) (rest := []) ⟨hx, hb, hml, hown, hts⟩ hK hM hS rfl hN_1.1 rfl (c_Nodes_valueLength l D g lo L κ1 T1 cn1 (16 + 2 * (s0 : Int).toNat) hN_1 x (by omega)) (cwV 1 hts (gV m_429 m_430 m_431 m_56 m_432) rfl rfl rfl (by decide +kernel) ⟨Nat.le_of_ble_eq_true rfl, Nat.le_of_ble_eq_true rfl⟩) rfl hl.1 rfl (Nat.le_of_ble_eq_true rfl) d_Doc_look_124 ⟨Nat.le_of_ble_eq_true rfl, Nat.le_of_ble_eq_true rfl⟩ (fun H locs hM hS => ?_)
      have r13 := nCell_r (cnt := cn1) hN_1.2.2.2.1 5 x
      exact mw_iret hx hb hr hM hS hlocks d_Doc_look_127 (by rw [hTb1]; exact ⟨congrArg (fun z => some (Value.int (iI z))) (show (nCell T1 cn1 5 x : Int) = dLook s0 x a T1 cn1 by unfold dLook; rw [if_pos (by assumption), if_neg (by omega), if_neg (by omega), if_neg (by omega), if_neg (by omega), if_neg (by omega), if_pos (by omega)]), rfl, ⟨hO_1, ⟨fA, hA1_1, hA2_1⟩, ⟨_, hT_1⟩, ⟨_, hF_1⟩, hN_1, ⟨_, _, _, _, hR_1⟩, ⟨nS_1, hSl_1⟩, hd_1⟩, fun r h => by rw [hk1 r (by omega)]⟩)
    · refine lv_tableIn (off := 116) (tgt := 128) hx hb d_Doc_look_12 (by rw [iI_toInt (by omega)]; omega) (by rw [iI_toInt (by omega)]; omega) (by rw [iI_toInt (by omega), c5]; rfl) (by decide) ?_
      refine lv_aload_n hx hb d_Doc_look_128 rfl (lv_at hl 0 rfl) ?_
      refine mw_get (ci := 3) (i := 0) (v := .ref (L 6)) (C := R_Doc) (T := T_Doc) (N := 7) hx hb hts in_Doc hown hK hM hO_1 rfl rfl 3 (by decide) (hts _ m_188) rfl d_Doc_look_129 ?_
      refine lv_iload_n hx hb d_Doc_look_132 rfl (lv_at hl 2 rfl) ?_
      refine mw_rdV (i := 6) (As := [.int (iI x)]) (rest := []) ⟨hx, hb, hml, hown, hts⟩ hK hM hS rfl hN_1.1 rfl (c_Nodes_textLength l D g lo L κ1 T1 cn1 (16 + 2 * (s0 : Int).toNat) hN_1 x (by omega)) (cwV 1 hts (gV m_433 m_434 m_435 m_56 m_436) rfl rfl rfl (by decide +kernel) ⟨Nat.le_of_ble_eq_true rfl, Nat.le_of_ble_eq_true rfl⟩) rfl hl.1 rfl (Nat.le_of_ble_eq_true rfl) d_Doc_look_133 ⟨Nat.le_of_ble_eq_true rfl, Nat.le_of_ble_eq_true rfl⟩ (fun H locs hM hS => ?_)
      have r14 := nTextLen_r (cnt := cn1) hN_1.2.2.2.1 x
      exact mw_iret hx hb hr hM hS hlocks d_Doc_look_136 (by rw [hTb1]; exact ⟨congrArg (fun z => some (Value.int (iI z))) (show (nTextLen T1 cn1 x : Int) = dLook s0 x a T1 cn1 by unfold dLook; rw [if_pos (by assumption), if_neg (by omega), if_neg (by omega), if_neg (by omega), if_neg (by omega), if_neg (by omega), if_neg (by omega), if_pos (by omega)]), rfl, ⟨hO_1, ⟨fA, hA1_1, hA2_1⟩, ⟨_, hT_1⟩, ⟨_, hF_1⟩, hN_1, ⟨_, _, _, _, hR_1⟩, ⟨nS_1, hSl_1⟩, hd_1⟩, fun r h => by rw [hk1 r (by omega)]⟩)
    · refine lv_tableIn (off := 125) (tgt := 137) hx hb d_Doc_look_12 (by rw [iI_toInt (by omega)]; omega) (by rw [iI_toInt (by omega)]; omega) (by rw [iI_toInt (by omega), c5]; rfl) (by decide) ?_
      refine lv_aload_n hx hb d_Doc_look_137 rfl (lv_at hl 0 rfl) ?_
      refine mw_get (ci := 3) (i := 0) (v := .ref (L 6)) (C := R_Doc) (T := T_Doc) (N := 7) hx hb hts in_Doc hown hK hM hO_1 rfl rfl 3 (by decide) (hts _ m_188) rfl d_Doc_look_138 ?_
      refine lv_iload_n hx hb d_Doc_look_141 rfl (lv_at hl 2 rfl) ?_
      refine mw_rdV (i := 6) (As := [.int (iI x)]) (rest := []) ⟨hx, hb, hml, hown, hts⟩ hK hM hS rfl hN_1.1 rfl (c_Nodes_elements l D g lo L κ1 T1 cn1 (16 + 2 * (s0 : Int).toNat) hN_1 x (by omega)) (cwV 1 hts (gV m_423 m_317 m_318 m_56 m_319) rfl rfl rfl (by decide +kernel) ⟨Nat.le_of_ble_eq_true rfl, Nat.le_of_ble_eq_true rfl⟩) rfl hl.1 rfl (Nat.le_of_ble_eq_true rfl) d_Doc_look_142 ⟨Nat.le_of_ble_eq_true rfl, Nat.le_of_ble_eq_true rfl⟩ (fun H locs hM hS => ?_)
      have r15 := nCell_r (cnt := cn1) hN_1.2.2.2.1 6 x
      exact mw_iret hx hb hr hM hS hlocks d_Doc_look_145 (by rw [hTb1]; exact ⟨congrArg (fun z => some (Value.int (iI z))) (show (nCell T1 cn1 6 x : Int) = dLook s0 x a T1 cn1 by unfold dLook; rw [if_pos (by assumption), if_neg (by omega), if_neg (by omega), if_neg (by omega), if_neg (by omega), if_neg (by omega), if_neg (by omega), if_neg (by omega), if_pos (by omega)]), rfl, ⟨hO_1, ⟨fA, hA1_1, hA2_1⟩, ⟨_, hT_1⟩, ⟨_, hF_1⟩, hN_1, ⟨_, _, _, _, hR_1⟩, ⟨nS_1, hSl_1⟩, hd_1⟩, fun r h => by rw [hk1 r (by omega)]⟩)
    · refine lv_tableIn (off := 134) (tgt := 146) hx hb d_Doc_look_12 (by rw [iI_toInt (by omega)]; omega) (by rw [iI_toInt (by omega)]; omega) (by rw [iI_toInt (by omega), c5]; rfl) (by decide) ?_
      refine lv_aload_n hx hb d_Doc_look_146 rfl (lv_at hl 0 rfl) ?_
      refine mw_get (ci := 3) (i := 0) (v := .ref (L 6)) (C := R_Doc) (T := T_Doc) (N := 7) hx hb hts in_Doc hown hK hM hO_1 rfl rfl 3 (by decide) (hts _ m_188) rfl d_Doc_look_147 ?_
      refine lv_iload_n hx hb d_Doc_look_150 rfl (lv_at hl 2 rfl) ?_
      refine mw_rdV (i := 6) (As := [.int (iI x)]) (rest := []) ⟨hx, hb, hml, hown, hts⟩ hK hM hS rfl hN_1.1 rfl (c_Nodes_depth l D g lo L κ1 T1 cn1 (16 + 2 * (s0 : Int).toNat) hN_1 x (by omega)) (cwV 1 hts (gV m_437 m_256 m_257 m_56 m_258) rfl rfl rfl (by decide +kernel) ⟨Nat.le_of_ble_eq_true rfl, Nat.le_of_ble_eq_true rfl⟩) rfl hl.1 rfl (Nat.le_of_ble_eq_true rfl) d_Doc_look_151 ⟨Nat.le_of_ble_eq_true rfl, Nat.le_of_ble_eq_true rfl⟩ (fun H locs hM hS => ?_)
      have r16 := nCell_r (cnt := cn1) hN_1.2.2.2.1 2 x
      exact mw_iret hx hb hr hM hS hlocks d_Doc_look_154 (by rw [hTb1]; exact ⟨congrArg (fun z => some (Value.int (iI z))) (show (nCell T1 cn1 2 x : Int) = dLook s0 x a T1 cn1 by unfold dLook; rw [if_pos (by assumption), if_neg (by omega), if_neg (by omega), if_neg (by omega), if_neg (by omega), if_neg (by omega), if_neg (by omega), if_neg (by omega), if_neg (by omega), if_pos (by omega)]), rfl, ⟨hO_1, ⟨fA, hA1_1, hA2_1⟩, ⟨_, hT_1⟩, ⟨_, hF_1⟩, hN_1, ⟨_, _, _, _, hR_1⟩, ⟨nS_1, hSl_1⟩, hd_1⟩, fun r h => by rw [hk1 r (by omega)]⟩)
  · refine lv_iconst (v := iI (-1)) hx hb d_Doc_look_9 rfl ?_
    exact mw_iret hx hb hr hM hS hlocks d_Doc_look_10 (by rw [hTb1]; exact ⟨congrArg (fun z => some (Value.int (iI z))) (show (-1 : Int) = dLook s0 x a T1 cn1 by unfold dLook; rw [if_neg (zne (by assumption))]), rfl, ⟨hO_1, ⟨fA, hA1_1, hA2_1⟩, ⟨_, hT_1⟩, ⟨_, hF_1⟩, hN_1, ⟨_, _, _, _, hR_1⟩, ⟨nS_1, hSl_1⟩, hd_1⟩, fun r h => by rw [hk1 r (by omega)]⟩)
set_option maxHeartbeats 4000000 in
set_option maxRecDepth 100000 in
theorem c_Doc_number (l : Launch) (D : va_G) (g : Nat → ClassId) (lo : Nat) (L : Nat → Nat) (κ : Nat → Option va_E) (scn fpl : Int) (zT : Nat) (bT : Nat → Int) (zF : Nat) (bF : Nat → Int) (T : Nat → Nat → Int) (cnt d : Nat) (zS : Nat → Nat) (bS : Nat → Nat → Int) (hW : dbs g L κ scn fpl zT bT zF bF T cnt d zS bS) (hsc : -1 ≤ scn ∧ scn < 8) (s0 x : Int) (hs0 : -2147483648 ≤ s0 ∧ s0 < 2147483648) (hx : -2147483648 ≤ x ∧ x < 2147483648) (hOK : dOK scn s0 T zS bS) : Met l y_Doc_number w_Doc_number ({ frames := 5, cells := 0, slots := 0, locals := 119 }) (mwP D vwCl (tyL g) lo L κ [.ref (L 0), .int (iI s0), .int (iI x)]) (mwQ D vwCl lo (fun v L1 κ1 => v = some (.long (lI (dNumber s0 x (dTab scn s0 T cnt d zS bS).2.1 (dTab scn s0 T cnt d zS bS).2.2.1 zS bS))) ∧ L = L1 ∧ dbs g L κ1 ((dTab scn s0 T cnt d zS bS).1) fpl zT bT zF bF ((dTab scn s0 T cnt d zS bS).2.1) ((dTab scn s0 T cnt d zS bS).2.2.1) ((dTab scn s0 T cnt d zS bS).2.2.2) zS bS ∧ ∀ r, 40 ≤ r → κ1 r = κ r)) 0 0 (fun q => lo ≤ q) := by
  obtain ⟨hO, ⟨fA, hA1, hA2⟩, ⟨nT, hT⟩, ⟨nF, hF⟩, hN, ⟨ra, ri, rf, rp, hR⟩, ⟨nS, hSl⟩, hd⟩ := hW
  have hct := hT.2.2.1
  have hcf := hF.2.2.1
  have hcn := hN.2.2.1
  refine Met.ofW (cc := b_Doc_number) (maxL := 6) (ret := (Option.some Jvm.ClassFile.FieldType.long)) (by decide) rfl ?_
  intro p e s m args below meth c s₁ B hml hpre
  obtain ⟨hargs, hM, hK⟩ := hpre
  have hx := B.exec
  have hb := B.bytes
  have hr := B.returns
  have hts : ∀ w ∈ wA, w.before args s = true := fun w h => atoms_spec (ws := w_Doc_number) B.pre w (List.mem_cons_of_mem _ h)
  have hown : s.vm.findClass R_Doc = some m.cls := findClass_of_methodNamed B.named
  have hlocks := B.notSynchronized
  have hS : va_S (fun q => lo ≤ q) s.heap s.heap [] := va_S.rf
  obtain ⟨ls, hls, hl⟩ := mw_entry (m := m) [.ref (L 0), .int (iI s0), .int (iI x)] (n := 6) (Nat.le_of_ble_eq_true rfl) hargs
  refine W.eq hls ?_
  have hl : lv_has ls 6 [(0, .ref (L 0)), (1, .int (iI s0)), (2, .int (iI x))] := hl
  refine lv_aload_n hx hb d_Doc_number_0 rfl (lv_at hl 0 rfl) ?_
  refine lv_iload_n hx hb d_Doc_number_1 rfl (lv_at hl 1 rfl) ?_
  refine lv_iload_n hx hb d_Doc_number_2 rfl (lv_at hl 2 rfl) ?_
  refine mw_callV (i := 0) (As := [.int (iI s0), .int (iI x)]) (rest := []) ⟨hx, hb, hml, hown, hts⟩ hK hM hS rfl hO rfl (c_Doc_hasNode l D g lo L κ scn fpl zT bT zF bF T cnt d zS bS ⟨hO, ⟨fA, hA1, hA2⟩, ⟨_, hT⟩, ⟨_, hF⟩, hN, ⟨_, _, _, _, hR⟩, ⟨nS, hSl⟩, hd⟩ (by omega) s0 x (by omega) (by omega) hOK) (cwV 2 hts (gV m_378 m_380 m_8 m_51 m_381) rfl rfl rfl (by decide +kernel) ⟨Nat.le_of_ble_eq_true rfl, Nat.le_of_ble_eq_true rfl⟩) rfl hl.1 rfl (Nat.le_of_ble_eq_true rfl) d_Doc_number_3 ⟨Nat.le_of_ble_eq_true rfl, Nat.le_of_ble_eq_true rfl⟩ (fun v1 L1 κ1 H locs hp1 hM hS => ?_)
  obtain ⟨sc1, T1, cn1, d1, hTb1⟩ : ∃ (za : Int) (zb : Nat → Nat → Int) (zc : Nat) (zd : Nat), dTab scn s0 T cnt d zS bS = (za, zb, zc, zd) := ⟨_, _, _, _, rfl⟩
  have hsc1 := dTab_r hTb1 (by omega)
  rw [hTb1] at hp1
  obtain ⟨rfl, rfl, hW1, hk1⟩ := hp1
  have hW1 : dbs g L κ1 sc1 fpl zT bT zF bF T1 cn1 d1 zS bS := hW1
  obtain ⟨hO_1, ⟨fA, hA1_1, hA2_1⟩, ⟨nT_1, hT_1⟩, ⟨nF_1, hF_1⟩, hN_1, ⟨ra_1, ri_1, rf_1, rp_1, hR_1⟩, ⟨nS_1, hSl_1⟩, hd_1⟩ := hW1
  have hct_1 := hT_1.2.2.1
  have hcf_1 := hF_1.2.2.1
  have hcn_1 := hN_1.2.2.1
  refine ia_ifz_ne (x := dHas s0 x cn1) (tgt := 11) hx hb d_Doc_number_6 (by decide) (fun c2 => ?_) (fun c2 => ?_)
  · have hh1 := dHas_iff.mp (by assumption)
    obtain ⟨hs2, hd2⟩ := dTab_d hTb1 hh1.1 hd.1
    subst hd2
    have hs2 := hs2.symm
    subst hs2
    have hB3 := hSl_1 (s0 : Int).toNat (by omega)
    have r4 := hB3.2.2.1
    refine lv_aload_n hx hb d_Doc_number_11 rfl (lv_at hl 0 rfl) ?_
    refine mw_get (ci := 3) (i := 0) (v := .ref (L 6)) (C := R_Doc) (T := T_Doc) (N := 7) hx hb hts in_Doc hown hK hM hO_1 rfl rfl 3 (by decide) (hts _ m_188) rfl d_Doc_number_12 ?_
    refine lv_iload_n hx hb d_Doc_number_15 rfl (lv_at hl 2 rfl) ?_
    refine mw_rdV (i := 6) (As := [.int (iI x)]) (rest := []) ⟨hx, hb, hml, hown, hts⟩ hK hM hS rfl hN_1.1 rfl (c_Nodes_kind l D g lo L κ1 T1 cn1 (16 + 2 * (s0 : Int).toNat) hN_1 x (by omega)) (cwV 1 hts (gV m_421 m_313 m_314 m_56 m_315) rfl rfl rfl (by decide +kernel) ⟨Nat.le_of_ble_eq_true rfl, Nat.le_of_ble_eq_true rfl⟩) rfl hl.1 rfl (Nat.le_of_ble_eq_true rfl) d_Doc_number_16 ⟨Nat.le_of_ble_eq_true rfl, Nat.le_of_ble_eq_true rfl⟩ (fun H locs hM hS => ?_)
    have r5 := nCell_r (cnt := cn1) hN_1.2.2.2.1 0 x
    refine lv_istore_n (lv' := [(3, .int (iI (nCell T1 cn1 0 x))), (0, .ref (L 0)), (1, .int (iI s0)), (2, .int (iI x))]) hx hb d_Doc_number_19 rfl hl (by decide) rfl (fun ls hl => ?_)
    refine lv_aload_n hx hb d_Doc_number_20 rfl (lv_at hl 1 rfl) ?_
    refine mw_get (ci := 3) (i := 0) (v := .ref (L 1)) (C := R_Doc) (T := T_Doc) (N := 7) hx hb hts in_Doc hown hK hM hO_1 rfl rfl 1 (by decide) (hts _ m_186) rfl d_Doc_number_21 ?_
    refine lv_iload_n hx hb d_Doc_number_24 rfl (lv_at hl 2 rfl) ?_
    refine mw_aldq (a := s0) (i := 1) hx hb hK hM 2 hA1_1 rfl rfl (by omega) (by omega) (hA2_1 (s0 : Int).toNat (by omega)) d_Doc_number_25 ?_
    refine lv_aload_n hx hb d_Doc_number_26 rfl (lv_at hl 1 rfl) ?_
    refine mw_get (ci := 3) (i := 0) (v := .ref (L 6)) (C := R_Doc) (T := T_Doc) (N := 7) hx hb hts in_Doc hown hK hM hO_1 rfl rfl 3 (by decide) (hts _ m_188) rfl d_Doc_number_27 ?_
    refine lv_iload_n hx hb d_Doc_number_30 rfl (lv_at hl 3 rfl) ?_
    refine mw_rdV (i := 6) (As := [.int (iI x)]) (rest := [.ref (L (16 + 2 * (s0 : Int).toNat))]) ⟨hx, hb, hml, hown, hts⟩ hK hM hS rfl hN_1.1 rfl (c_Nodes_value l D g lo L κ1 T1 cn1 (16 + 2 * (s0 : Int).toNat) hN_1 x (by omega)) (cwV 1 hts (gV m_442 m_443 m_444 m_56 m_445) rfl rfl rfl (by decide +kernel) ⟨Nat.le_of_ble_eq_true rfl, Nat.le_of_ble_eq_true rfl⟩) rfl hl.1 rfl (Nat.le_of_ble_eq_true rfl) d_Doc_number_31 ⟨Nat.le_of_ble_eq_true rfl, Nat.le_of_ble_eq_true rfl⟩ (fun H locs hM hS => ?_)
    have r6 := nCell_r (cnt := cn1) hN_1.2.2.2.1 4 x
    refine lv_iload_n hx hb d_Doc_number_34 rfl (lv_at hl 0 rfl) ?_
    refine mw_rdS (As := [.int (iI (nCell T1 cn1 0 x))]) (rest := [.int (iI (nCell T1 cn1 4 x)), .ref (L (16 + 2 * (s0 : Int).toNat))]) ⟨hx, hb, hml, hown, hts⟩ hK hM hS (c_Kinds_width l D g lo L κ1 (nCell T1 cn1 0 x) (by omega)) (va_cwS 1 hts (gT m_446 m_292 m_59 m_293) rfl rfl rfl (by decide +kernel) ⟨Nat.le_of_ble_eq_true rfl, Nat.le_of_ble_eq_true rfl⟩) rfl hl.1 rfl (Nat.le_of_ble_eq_true rfl) d_Doc_number_35 ⟨Nat.le_of_ble_eq_true rfl, Nat.le_of_ble_eq_true rfl⟩ (fun H locs hM hS => ?_)
    have r7 := kWidth_r (nCell T1 cn1 0 x)
    refine mw_rdV (i := 16 + 2 * (s0 : Int).toNat) (As := [.int (iI (nCell T1 cn1 4 x)), .int (iI (kWidth (nCell T1 cn1 0 x)))]) (rest := []) ⟨hx, hb, hml, hown, hts⟩ hK hM hS rfl hB3.1 rfl (c_Bytes_numberAt l D g lo L κ1 (16 + 2 * (s0 : Int).toNat) (17 + 2 * (s0 : Int).toNat) 2000 (nS_1 (s0 : Int).toNat) (zS (s0 : Int).toNat) (bS (s0 : Int).toNat) hB3 (nCell T1 cn1 4 x) (kWidth (nCell T1 cn1 0 x)) (by omega) (by omega)) (cwV 2 hts (gV m_447 m_247 m_248 m_52 m_249) rfl rfl rfl (by decide +kernel) ⟨Nat.le_of_ble_eq_true rfl, Nat.le_of_ble_eq_true rfl⟩) rfl hl.1 rfl (Nat.le_of_ble_eq_true rfl) d_Doc_number_38 ⟨Nat.le_of_ble_eq_true rfl, Nat.le_of_ble_eq_true rfl⟩ (fun H locs hM hS => ?_)
    refine lv_lstore (lv' := [(4, .long (lI (bNum (bS (s0 : Int).toNat) (zS (s0 : Int).toNat) (nCell T1 cn1 4 x) (kWidth (nCell T1 cn1 0 x) - 1) 0))), (3, .int (iI (nCell T1 cn1 0 x))), (0, .ref (L 0)), (1, .int (iI s0)), (2, .int (iI x))]) hx hb d_Doc_number_41 hl (by decide) rfl (fun ls hl => ?_)
    refine lv_iload_n hx hb d_Doc_number_43 rfl (lv_at hl 1 rfl) ?_
    refine lv_bipush (v := iI (16)) hx hb d_Doc_number_44 (by decide) ?_
    refine ia_icmp_ne (a := nCell T1 cn1 0 x) (b := 16) (tgt := 56) hx hb d_Doc_number_46 (by decide) (by omega) (by omega) (fun c8 => ?_) (fun c8 => ?_)
    · refine lv_lload hx hb d_Doc_number_56 (lv_at hl 0 rfl) ?_
      exact mw_lret hx hb hr hM hS hlocks d_Doc_number_58 (by rw [hTb1]; exact ⟨congrArg (fun z => some (Value.long (lI z))) (show (bNum (bS (s0 : Int).toNat) (zS (s0 : Int).toNat) (nCell T1 cn1 4 x) (kWidth (nCell T1 cn1 0 x) - 1) 0 : Int) = dNumber s0 x T1 cn1 zS bS by unfold dNumber; rw [if_pos (by assumption), if_neg (by omega)]), rfl, ⟨hO_1, ⟨fA, hA1_1, hA2_1⟩, ⟨_, hT_1⟩, ⟨_, hF_1⟩, hN_1, ⟨_, _, _, _, hR_1⟩, ⟨nS_1, hSl_1⟩, hd_1⟩, fun r h => by rw [hk1 r (by omega)]⟩)
    · refine lv_lload hx hb d_Doc_number_49 (lv_at hl 0 rfl) ?_
      refine ia_l2i hx hb d_Doc_number_51 ?_
      refine W.eq (g2 := F0 m 52 ls [.int (iI ((bNum (bS (s0 : Int).toNat) (zS (s0 : Int).toNat) (nCell T1 cn1 4 x) (kWidth (nCell T1 cn1 0 x) - 1) 0 + 2147483648) % 4294967296 - 2147483648))]) (by rw [iI_ext (a := bNum (bS (s0 : Int).toNat) (zS (s0 : Int).toNat) (nCell T1 cn1 4 x) (kWidth (nCell T1 cn1 0 x) - 1) 0) (b := (bNum (bS (s0 : Int).toNat) (zS (s0 : Int).toNat) (nCell T1 cn1 4 x) (kWidth (nCell T1 cn1 0 x) - 1) 0 + 2147483648) % 4294967296 - 2147483648) (by omega)] <;> rfl) ?_
      refine ia_i2l hx hb (by omega) d_Doc_number_52 ?_
      refine lv_goto (tgt := 58) hx hb d_Doc_number_53 (by decide) ?_
      exact mw_lret hx hb hr hM hS hlocks d_Doc_number_58 (by rw [hTb1]; exact ⟨congrArg (fun z => some (Value.long (lI z))) (show ((bNum (bS (s0 : Int).toNat) (zS (s0 : Int).toNat) (nCell T1 cn1 4 x) (kWidth (nCell T1 cn1 0 x) - 1) 0 + 2147483648) % 4294967296 - 2147483648 : Int) = dNumber s0 x T1 cn1 zS bS by unfold dNumber; rw [if_pos (by assumption), if_pos (by omega)]), rfl, ⟨hO_1, ⟨fA, hA1_1, hA2_1⟩, ⟨_, hT_1⟩, ⟨_, hF_1⟩, hN_1, ⟨_, _, _, _, hR_1⟩, ⟨nS_1, hSl_1⟩, hd_1⟩, fun r h => by rw [hk1 r (by omega)]⟩)
  · refine lv_lconst (v := lI (0)) hx hb d_Doc_number_9 (by decide) ?_
    exact mw_lret hx hb hr hM hS hlocks d_Doc_number_10 (by rw [hTb1]; exact ⟨congrArg (fun z => some (Value.long (lI z))) (show (0 : Int) = dNumber s0 x T1 cn1 zS bS by unfold dNumber; rw [if_neg (zne (by assumption))]), rfl, ⟨hO_1, ⟨fA, hA1_1, hA2_1⟩, ⟨_, hT_1⟩, ⟨_, hF_1⟩, hN_1, ⟨_, _, _, _, hR_1⟩, ⟨nS_1, hSl_1⟩, hd_1⟩, fun r h => by rw [hk1 r (by omega)]⟩)
set_option maxHeartbeats 4000000 in
set_option maxRecDepth 100000 in
theorem c_Doc_letter (l : Launch) (D : va_G) (g : Nat → ClassId) (lo : Nat) (L : Nat → Nat) (κ : Nat → Option va_E) (scn fpl : Int) (zT : Nat) (bT : Nat → Int) (zF : Nat) (bF : Nat → Int) (T : Nat → Nat → Int) (cnt d : Nat) (zS : Nat → Nat) (bS : Nat → Nat → Int) (hW : dbs g L κ scn fpl zT bT zF bF T cnt d zS bS) (hsc : -1 ≤ scn ∧ scn < 8) (s0 x : Int) (tx : Bool) (a : Int) (hs0 : -2147483648 ≤ s0 ∧ s0 < 2147483648) (hx : -2147483648 ≤ x ∧ x < 2147483648) (ha : -2147483648 ≤ a ∧ a < 2147483648) (hOK : dOK scn s0 T zS bS) : Met l y_Doc_letter w_Doc_letter ({ frames := 5, cells := 0, slots := 0, locals := 119 }) (mwP D vwCl (tyL g) lo L κ [.ref (L 0), .int (iI s0), .int (iI x), .int (iI (bI tx)), .int (iI a)]) (mwQ D vwCl lo (fun v L1 κ1 => v = some (.int (iI (dLetter s0 x tx a (dTab scn s0 T cnt d zS bS).2.1 (dTab scn s0 T cnt d zS bS).2.2.1 zS bS))) ∧ L = L1 ∧ dbs g L κ1 ((dTab scn s0 T cnt d zS bS).1) fpl zT bT zF bF ((dTab scn s0 T cnt d zS bS).2.1) ((dTab scn s0 T cnt d zS bS).2.2.1) ((dTab scn s0 T cnt d zS bS).2.2.2) zS bS ∧ ∀ r, 40 ≤ r → κ1 r = κ r)) 0 0 (fun q => lo ≤ q) := by
  obtain ⟨hO, ⟨fA, hA1, hA2⟩, ⟨nT, hT⟩, ⟨nF, hF⟩, hN, ⟨ra, ri, rf, rp, hR⟩, ⟨nS, hSl⟩, hd⟩ := hW
  have hct := hT.2.2.1
  have hcf := hF.2.2.1
  have hcn := hN.2.2.1
  refine Met.ofW (cc := b_Doc_letter) (maxL := 7) (ret := (Option.some Jvm.ClassFile.FieldType.int)) (by decide) rfl ?_
  intro p e s m args below meth c s₁ B hml hpre
  obtain ⟨hargs, hM, hK⟩ := hpre
  have hx := B.exec
  have hb := B.bytes
  have hr := B.returns
  have hts : ∀ w ∈ wA, w.before args s = true := fun w h => atoms_spec (ws := w_Doc_letter) B.pre w (List.mem_cons_of_mem _ h)
  have hown : s.vm.findClass R_Doc = some m.cls := findClass_of_methodNamed B.named
  have hlocks := B.notSynchronized
  have hS : va_S (fun q => lo ≤ q) s.heap s.heap [] := va_S.rf
  obtain ⟨ls, hls, hl⟩ := mw_entry (m := m) [.ref (L 0), .int (iI s0), .int (iI x), .int (iI (bI tx)), .int (iI a)] (n := 7) (Nat.le_of_ble_eq_true rfl) hargs
  refine W.eq hls ?_
  have hl : lv_has ls 7 [(0, .ref (L 0)), (1, .int (iI s0)), (2, .int (iI x)), (3, .int (iI (bI tx))), (4, .int (iI a))] := hl
  refine lv_aload_n hx hb d_Doc_letter_0 rfl (lv_at hl 0 rfl) ?_
  refine lv_iload_n hx hb d_Doc_letter_1 rfl (lv_at hl 1 rfl) ?_
  refine lv_iload_n hx hb d_Doc_letter_2 rfl (lv_at hl 2 rfl) ?_
  refine mw_callV (i := 0) (As := [.int (iI s0), .int (iI x)]) (rest := []) ⟨hx, hb, hml, hown, hts⟩ hK hM hS rfl hO rfl (c_Doc_hasNode l D g lo L κ scn fpl zT bT zF bF T cnt d zS bS ⟨hO, ⟨fA, hA1, hA2⟩, ⟨_, hT⟩, ⟨_, hF⟩, hN, ⟨_, _, _, _, hR⟩, ⟨nS, hSl⟩, hd⟩ (by omega) s0 x (by omega) (by omega) hOK) (cwV 2 hts (gV m_378 m_380 m_8 m_51 m_381) rfl rfl rfl (by decide +kernel) ⟨Nat.le_of_ble_eq_true rfl, Nat.le_of_ble_eq_true rfl⟩) rfl hl.1 rfl (Nat.le_of_ble_eq_true rfl) d_Doc_letter_3 ⟨Nat.le_of_ble_eq_true rfl, Nat.le_of_ble_eq_true rfl⟩ (fun v1 L1 κ1 H locs hp1 hM hS => ?_)
  obtain ⟨sc1, T1, cn1, d1, hTb1⟩ : ∃ (za : Int) (zb : Nat → Nat → Int) (zc : Nat) (zd : Nat), dTab scn s0 T cnt d zS bS = (za, zb, zc, zd) := ⟨_, _, _, _, rfl⟩
  have hsc1 := dTab_r hTb1 (by omega)
  rw [hTb1] at hp1
  obtain ⟨rfl, rfl, hW1, hk1⟩ := hp1
  have hW1 : dbs g L κ1 sc1 fpl zT bT zF bF T1 cn1 d1 zS bS := hW1
  obtain ⟨hO_1, ⟨fA, hA1_1, hA2_1⟩, ⟨nT_1, hT_1⟩, ⟨nF_1, hF_1⟩, hN_1, ⟨ra_1, ri_1, rf_1, rp_1, hR_1⟩, ⟨nS_1, hSl_1⟩, hd_1⟩ := hW1
  have hct_1 := hT_1.2.2.1
  have hcf_1 := hF_1.2.2.1
  have hcn_1 := hN_1.2.2.1
  refine ia_ifz_eq (x := dHas s0 x cn1) (tgt := 14) hx hb d_Doc_letter_6 (by decide) (fun c2 => ?_) (fun c2 => ?_)
  · refine lv_iconst (v := iI (-1)) hx hb d_Doc_letter_14 rfl ?_
    exact mw_iret hx hb hr hM hS hlocks d_Doc_letter_15 (by rw [hTb1]; exact ⟨congrArg (fun z => some (Value.int (iI z))) (show (-1 : Int) = dLetter s0 x tx a T1 cn1 zS bS by unfold dLetter; rw [if_neg (fun q => by first | exact absurd q.1 (zne (by assumption)) | exact absurd q.2 (by omega))]), rfl, ⟨hO_1, ⟨fA, hA1_1, hA2_1⟩, ⟨_, hT_1⟩, ⟨_, hF_1⟩, hN_1, ⟨_, _, _, _, hR_1⟩, ⟨nS_1, hSl_1⟩, hd_1⟩, fun r h => by rw [hk1 r (by omega)]⟩)
  · have hh1 := dHas_iff.mp (by assumption)
    obtain ⟨hs2, hd2⟩ := dTab_d hTb1 hh1.1 hd.1
    subst hd2
    have hs2 := hs2.symm
    subst hs2
    have hB3 := hSl_1 (s0 : Int).toNat (by omega)
    have r4 := hB3.2.2.1
    refine lv_iload hx hb d_Doc_letter_9 (lv_at hl 4 rfl) ?_
    refine ia_if_ge (a := a) (tgt := 16) hx hb d_Doc_letter_11 (by decide) (by omega) (fun c5 => ?_) (fun c5 => ?_)
    · refine lv_iload_n hx hb d_Doc_letter_16 rfl (lv_at hl 3 rfl) ?_
      refine ia_ifz_eq (x := tx) (tgt := 31) hx hb d_Doc_letter_17 (by decide) (fun c6 => ?_) (fun c6 => ?_)
      · refine lv_aload_n hx hb d_Doc_letter_31 rfl (lv_at hl 0 rfl) ?_
        refine mw_get (ci := 3) (i := 0) (v := .ref (L 6)) (C := R_Doc) (T := T_Doc) (N := 7) hx hb hts in_Doc hown hK hM hO_1 rfl rfl 3 (by decide) (hts _ m_188) rfl d_Doc_letter_32 ?_
        refine lv_iload_n hx hb d_Doc_letter_35 rfl (lv_at hl 2 rfl) ?_
        refine mw_rdV (i := 6) (As := [.int (iI x)]) (rest := []) ⟨hx, hb, hml, hown, hts⟩ hK hM hS rfl hN_1.1 rfl (c_Nodes_nameLength l D g lo L κ1 T1 cn1 (16 + 2 * (s0 : Int).toNat) hN_1 x (by omega)) (cwV 1 hts (gV m_428 m_333 m_334 m_56 m_335) rfl rfl rfl (by decide +kernel) ⟨Nat.le_of_ble_eq_true rfl, Nat.le_of_ble_eq_true rfl⟩) rfl hl.1 rfl (Nat.le_of_ble_eq_true rfl) d_Doc_letter_36 ⟨Nat.le_of_ble_eq_true rfl, Nat.le_of_ble_eq_true rfl⟩ (fun H locs hM hS => ?_)
        have r7 := nCell_r (cnt := cn1) hN_1.2.2.2.1 4 x
        have r8 := nCell_r (cnt := cn1) hN_1.2.2.2.1 3 x
        have r9 := (show nNameLen T1 cn1 x = nCell T1 cn1 4 x - 1 - nCell T1 cn1 3 x from rfl)
        refine lv_istore (lv' := [(5, .int (iI (nNameLen T1 cn1 x))), (0, .ref (L 0)), (1, .int (iI s0)), (2, .int (iI x)), (3, .int (iI (bI tx))), (4, .int (iI a))]) hx hb d_Doc_letter_39 hl (by decide) rfl (fun ls hl => ?_)
        refine lv_iload_n hx hb d_Doc_letter_41 rfl (lv_at hl 4 rfl) ?_
        refine ia_ifz_eq (x := tx) (tgt := 58) hx hb d_Doc_letter_42 (by decide) (fun c10 => ?_) (fun c10 => ?_)
        · refine lv_aload_n hx hb d_Doc_letter_58 rfl (lv_at hl 1 rfl) ?_
          refine mw_get (ci := 3) (i := 0) (v := .ref (L 6)) (C := R_Doc) (T := T_Doc) (N := 7) hx hb hts in_Doc hown hK hM hO_1 rfl rfl 3 (by decide) (hts _ m_188) rfl d_Doc_letter_59 ?_
          refine lv_iload_n hx hb d_Doc_letter_62 rfl (lv_at hl 3 rfl) ?_
          refine mw_rdV (i := 6) (As := [.int (iI x)]) (rest := []) ⟨hx, hb, hml, hown, hts⟩ hK hM hS rfl hN_1.1 rfl (c_Nodes_name l D g lo L κ1 T1 cn1 (16 + 2 * (s0 : Int).toNat) hN_1 x (by omega)) (cwV 1 hts (gV m_452 m_337 m_338 m_56 m_339) rfl rfl rfl (by decide +kernel) ⟨Nat.le_of_ble_eq_true rfl, Nat.le_of_ble_eq_true rfl⟩) rfl hl.1 rfl (Nat.le_of_ble_eq_true rfl) d_Doc_letter_63 ⟨Nat.le_of_ble_eq_true rfl, Nat.le_of_ble_eq_true rfl⟩ (fun H locs hM hS => ?_)
          have r11 := nCell_r (cnt := cn1) hN_1.2.2.2.1 3 x
          refine lv_istore (lv' := [(6, .int (iI (nCell T1 cn1 3 x))), (5, .int (iI (nNameLen T1 cn1 x))), (0, .ref (L 0)), (1, .int (iI s0)), (2, .int (iI x)), (3, .int (iI (bI tx))), (4, .int (iI a))]) hx hb d_Doc_letter_66 hl (by decide) rfl (fun ls hl => ?_)
          refine lv_iload hx hb d_Doc_letter_68 (lv_at hl 6 rfl) ?_
          refine lv_iload hx hb d_Doc_letter_70 (lv_at hl 1 rfl) ?_
          refine ia_icmp_ge (a := a) (b := nNameLen T1 cn1 x) (tgt := 92) hx hb d_Doc_letter_72 (by decide) (by omega) (by omega) (fun c12 => ?_) (fun c12 => ?_)
          · refine lv_iconst (v := iI (-1)) hx hb d_Doc_letter_92 rfl ?_
            exact mw_iret hx hb hr hM hS hlocks d_Doc_letter_93 (by rw [hTb1]; exact ⟨congrArg (fun z => some (Value.int (iI z))) (show (-1 : Int) = dLetter s0 x tx a T1 cn1 zS bS by unfold dLetter; rw [if_pos ⟨by assumption, by omega⟩, if_neg (zne (by assumption)), if_neg (by omega)]), rfl, ⟨hO_1, ⟨fA, hA1_1, hA2_1⟩, ⟨_, hT_1⟩, ⟨_, hF_1⟩, hN_1, ⟨_, _, _, _, hR_1⟩, ⟨nS_1, hSl_1⟩, hd_1⟩, fun r h => by rw [hk1 r (by omega)]⟩)
          · refine lv_aload_n hx hb d_Doc_letter_75 rfl (lv_at hl 2 rfl) ?_
            refine mw_get (ci := 3) (i := 0) (v := .ref (L 1)) (C := R_Doc) (T := T_Doc) (N := 7) hx hb hts in_Doc hown hK hM hO_1 rfl rfl 1 (by decide) (hts _ m_186) rfl d_Doc_letter_76 ?_
            refine lv_iload_n hx hb d_Doc_letter_79 rfl (lv_at hl 3 rfl) ?_
            refine mw_aldq (a := s0) (i := 1) hx hb hK hM 2 hA1_1 rfl rfl (by omega) (by omega) (hA2_1 (s0 : Int).toNat (by omega)) d_Doc_letter_80 ?_
            refine lv_iload hx hb d_Doc_letter_81 (lv_at hl 0 rfl) ?_
            refine lv_iload hx hb d_Doc_letter_83 (lv_at hl 6 rfl) ?_
            refine ia_add hx hb d_Doc_letter_85 ?_
            refine mw_rdV (i := 16 + 2 * (s0 : Int).toNat) (As := [.int (iI ((nCell T1 cn1 3 x) + a))]) (rest := []) ⟨hx, hb, hml, hown, hts⟩ hK hM hS rfl hB3.1 rfl (c_Bytes_get l D g lo L κ1 (16 + 2 * (s0 : Int).toNat) (17 + 2 * (s0 : Int).toNat) 2000 (nS_1 (s0 : Int).toNat) (zS (s0 : Int).toNat) (bS (s0 : Int).toNat) hB3 ((nCell T1 cn1 3 x) + a) (by omega)) (cwV 1 hts (gV m_416 m_251 m_252 m_52 m_253) rfl rfl rfl (by decide +kernel) ⟨Nat.le_of_ble_eq_true rfl, Nat.le_of_ble_eq_true rfl⟩) rfl hl.1 rfl (Nat.le_of_ble_eq_true rfl) d_Doc_letter_86 ⟨Nat.le_of_ble_eq_true rfl, Nat.le_of_ble_eq_true rfl⟩ (fun H locs hM hS => ?_)
            have r13 := bGet_r (sz := zS (s0 : Int).toNat) hB3.2.2.2.1 ((nCell T1 cn1 3 x) + a)
            refine lv_goto (tgt := 93) hx hb d_Doc_letter_89 (by decide) ?_
            exact mw_iret hx hb hr hM hS hlocks d_Doc_letter_93 (by rw [hTb1]; exact ⟨congrArg (fun z => some (Value.int (iI z))) (show (bGet (bS (s0 : Int).toNat) (zS (s0 : Int).toNat) ((nCell T1 cn1 3 x) + a) : Int) = dLetter s0 x tx a T1 cn1 zS bS by unfold dLetter; rw [if_pos ⟨by assumption, by omega⟩, if_neg (zne (by assumption)), if_pos (by omega)]), rfl, ⟨hO_1, ⟨fA, hA1_1, hA2_1⟩, ⟨_, hT_1⟩, ⟨_, hF_1⟩, hN_1, ⟨_, _, _, _, hR_1⟩, ⟨nS_1, hSl_1⟩, hd_1⟩, fun r h => by rw [hk1 r (by omega)]⟩)
        · exact absurd (c6.symm.trans c10) (by decide)
      · refine lv_aload_n hx hb d_Doc_letter_20 rfl (lv_at hl 0 rfl) ?_
        refine mw_get (ci := 3) (i := 0) (v := .ref (L 6)) (C := R_Doc) (T := T_Doc) (N := 7) hx hb hts in_Doc hown hK hM hO_1 rfl rfl 3 (by decide) (hts _ m_188) rfl d_Doc_letter_21 ?_
        refine lv_iload_n hx hb d_Doc_letter_24 rfl (lv_at hl 2 rfl) ?_
        refine mw_rdV (i := 6) (As := [.int (iI x)]) (rest := []) ⟨hx, hb, hml, hown, hts⟩ hK hM hS rfl hN_1.1 rfl (c_Nodes_textLength l D g lo L κ1 T1 cn1 (16 + 2 * (s0 : Int).toNat) hN_1 x (by omega)) (cwV 1 hts (gV m_433 m_434 m_435 m_56 m_436) rfl rfl rfl (by decide +kernel) ⟨Nat.le_of_ble_eq_true rfl, Nat.le_of_ble_eq_true rfl⟩) rfl hl.1 rfl (Nat.le_of_ble_eq_true rfl) d_Doc_letter_25 ⟨Nat.le_of_ble_eq_true rfl, Nat.le_of_ble_eq_true rfl⟩ (fun H locs hM hS => ?_)
        have r14 := nTextLen_r (cnt := cn1) hN_1.2.2.2.1 x
        refine lv_goto (tgt := 39) hx hb d_Doc_letter_28 (by decide) ?_
        refine lv_istore (lv' := [(5, .int (iI (nTextLen T1 cn1 x))), (0, .ref (L 0)), (1, .int (iI s0)), (2, .int (iI x)), (3, .int (iI (bI tx))), (4, .int (iI a))]) hx hb d_Doc_letter_39 hl (by decide) rfl (fun ls hl => ?_)
        refine lv_iload_n hx hb d_Doc_letter_41 rfl (lv_at hl 4 rfl) ?_
        refine ia_ifz_eq (x := tx) (tgt := 58) hx hb d_Doc_letter_42 (by decide) (fun c15 => ?_) (fun c15 => ?_)
        · exact absurd (c6.symm.trans c15) (by decide)
        · refine lv_aload_n hx hb d_Doc_letter_45 rfl (lv_at hl 1 rfl) ?_
          refine mw_get (ci := 3) (i := 0) (v := .ref (L 6)) (C := R_Doc) (T := T_Doc) (N := 7) hx hb hts in_Doc hown hK hM hO_1 rfl rfl 3 (by decide) (hts _ m_188) rfl d_Doc_letter_46 ?_
          refine lv_iload_n hx hb d_Doc_letter_49 rfl (lv_at hl 3 rfl) ?_
          refine mw_rdV (i := 6) (As := [.int (iI x)]) (rest := []) ⟨hx, hb, hml, hown, hts⟩ hK hM hS rfl hN_1.1 rfl (c_Nodes_value l D g lo L κ1 T1 cn1 (16 + 2 * (s0 : Int).toNat) hN_1 x (by omega)) (cwV 1 hts (gV m_442 m_443 m_444 m_56 m_445) rfl rfl rfl (by decide +kernel) ⟨Nat.le_of_ble_eq_true rfl, Nat.le_of_ble_eq_true rfl⟩) rfl hl.1 rfl (Nat.le_of_ble_eq_true rfl) d_Doc_letter_50 ⟨Nat.le_of_ble_eq_true rfl, Nat.le_of_ble_eq_true rfl⟩ (fun H locs hM hS => ?_)
          have r16 := nCell_r (cnt := cn1) hN_1.2.2.2.1 4 x
          refine lv_iconst (v := iI (4)) hx hb d_Doc_letter_53 rfl ?_
          refine ia_add hx hb d_Doc_letter_54 ?_
          refine lv_goto (tgt := 66) hx hb d_Doc_letter_55 (by decide) ?_
          refine lv_istore (lv' := [(6, .int (iI ((nCell T1 cn1 4 x) + 4))), (5, .int (iI (nTextLen T1 cn1 x))), (0, .ref (L 0)), (1, .int (iI s0)), (2, .int (iI x)), (3, .int (iI (bI tx))), (4, .int (iI a))]) hx hb d_Doc_letter_66 hl (by decide) rfl (fun ls hl => ?_)
          refine lv_iload hx hb d_Doc_letter_68 (lv_at hl 6 rfl) ?_
          refine lv_iload hx hb d_Doc_letter_70 (lv_at hl 1 rfl) ?_
          refine ia_icmp_ge (a := a) (b := nTextLen T1 cn1 x) (tgt := 92) hx hb d_Doc_letter_72 (by decide) (by omega) (by omega) (fun c17 => ?_) (fun c17 => ?_)
          · refine lv_iconst (v := iI (-1)) hx hb d_Doc_letter_92 rfl ?_
            exact mw_iret hx hb hr hM hS hlocks d_Doc_letter_93 (by rw [hTb1]; exact ⟨congrArg (fun z => some (Value.int (iI z))) (show (-1 : Int) = dLetter s0 x tx a T1 cn1 zS bS by unfold dLetter; rw [if_pos ⟨by assumption, by omega⟩, if_pos (by assumption), if_neg (by omega)]), rfl, ⟨hO_1, ⟨fA, hA1_1, hA2_1⟩, ⟨_, hT_1⟩, ⟨_, hF_1⟩, hN_1, ⟨_, _, _, _, hR_1⟩, ⟨nS_1, hSl_1⟩, hd_1⟩, fun r h => by rw [hk1 r (by omega)]⟩)
          · refine lv_aload_n hx hb d_Doc_letter_75 rfl (lv_at hl 2 rfl) ?_
            refine mw_get (ci := 3) (i := 0) (v := .ref (L 1)) (C := R_Doc) (T := T_Doc) (N := 7) hx hb hts in_Doc hown hK hM hO_1 rfl rfl 1 (by decide) (hts _ m_186) rfl d_Doc_letter_76 ?_
            refine lv_iload_n hx hb d_Doc_letter_79 rfl (lv_at hl 3 rfl) ?_
            refine mw_aldq (a := s0) (i := 1) hx hb hK hM 2 hA1_1 rfl rfl (by omega) (by omega) (hA2_1 (s0 : Int).toNat (by omega)) d_Doc_letter_80 ?_
            refine lv_iload hx hb d_Doc_letter_81 (lv_at hl 0 rfl) ?_
            refine lv_iload hx hb d_Doc_letter_83 (lv_at hl 6 rfl) ?_
            refine ia_add hx hb d_Doc_letter_85 ?_
            refine mw_rdV (i := 16 + 2 * (s0 : Int).toNat) (As := [.int (iI (((nCell T1 cn1 4 x) + 4) + a))]) (rest := []) ⟨hx, hb, hml, hown, hts⟩ hK hM hS rfl hB3.1 rfl (c_Bytes_get l D g lo L κ1 (16 + 2 * (s0 : Int).toNat) (17 + 2 * (s0 : Int).toNat) 2000 (nS_1 (s0 : Int).toNat) (zS (s0 : Int).toNat) (bS (s0 : Int).toNat) hB3 (((nCell T1 cn1 4 x) + 4) + a) (by omega)) (cwV 1 hts (gV m_416 m_251 m_252 m_52 m_253) rfl rfl rfl (by decide +kernel) ⟨Nat.le_of_ble_eq_true rfl, Nat.le_of_ble_eq_true rfl⟩) rfl hl.1 rfl (Nat.le_of_ble_eq_true rfl) d_Doc_letter_86 ⟨Nat.le_of_ble_eq_true rfl, Nat.le_of_ble_eq_true rfl⟩ (fun H locs hM hS => ?_)
            have r18 := bGet_r (sz := zS (s0 : Int).toNat) hB3.2.2.2.1 (((nCell T1 cn1 4 x) + 4) + a)
            refine lv_goto (tgt := 93) hx hb d_Doc_letter_89 (by decide) ?_
            exact mw_iret hx hb hr hM hS hlocks d_Doc_letter_93 (by rw [hTb1]; exact ⟨congrArg (fun z => some (Value.int (iI z))) (show (bGet (bS (s0 : Int).toNat) (zS (s0 : Int).toNat) (((nCell T1 cn1 4 x) + 4) + a) : Int) = dLetter s0 x tx a T1 cn1 zS bS by unfold dLetter; rw [if_pos ⟨by assumption, by omega⟩, if_pos (by assumption), if_pos (by omega)]), rfl, ⟨hO_1, ⟨fA, hA1_1, hA2_1⟩, ⟨_, hT_1⟩, ⟨_, hF_1⟩, hN_1, ⟨_, _, _, _, hR_1⟩, ⟨nS_1, hSl_1⟩, hd_1⟩, fun r h => by rw [hk1 r (by omega)]⟩)
    · refine lv_iconst (v := iI (-1)) hx hb d_Doc_letter_14 rfl ?_
      exact mw_iret hx hb hr hM hS hlocks d_Doc_letter_15 (by rw [hTb1]; exact ⟨congrArg (fun z => some (Value.int (iI z))) (show (-1 : Int) = dLetter s0 x tx a T1 cn1 zS bS by unfold dLetter; rw [if_neg (fun q => by first | exact absurd q.1 (zne (by assumption)) | exact absurd q.2 (by omega))]), rfl, ⟨hO_1, ⟨fA, hA1_1, hA2_1⟩, ⟨_, hT_1⟩, ⟨_, hF_1⟩, hN_1, ⟨_, _, _, _, hR_1⟩, ⟨nS_1, hSl_1⟩, hd_1⟩, fun r h => by rw [hk1 r (by omega)]⟩)
