set_option maxHeartbeats 4000000 in
set_option maxRecDepth 100000 in
theorem c_Reader_faultPlace2 (l : Launch) (D : va_G) (g : Nat → ClassId) (lo : Nat) (L : Nat → Nat) (κ : Nat → Option va_E) (ra ri rf rp : Int) (hR : rds L κ ra ri rf rp) : Met l y_Reader_faultPlace w_Reader_faultPlace ({ frames := 0, cells := 0, slots := 0, locals := 0 }) (mwP D vwCl (tyL g) lo L κ [.ref (L 14)]) (mwQ D vwCl lo (mwR (some (.int (iI rp))) L κ)) 0 0 (fun q => lo ≤ q) := by
  refine Met.ofW (cc := b_Reader_faultPlace) (maxL := 1) (ret := (Option.some Jvm.ClassFile.FieldType.int)) (by decide) rfl ?_
  intro p e s m args below meth c s₁ B hml hpre
  obtain ⟨hargs, hM, hK⟩ := hpre
  have hx := B.exec
  have hb := B.bytes
  have hr := B.returns
  have hts : ∀ w ∈ wA, w.before args s = true := fun w h => atoms_spec (ws := w_Reader_faultPlace) B.pre w (List.mem_cons_of_mem _ h)
  have hown : s.vm.findClass R_Reader = some m.cls := findClass_of_methodNamed B.named
  have hlocks := B.notSynchronized
  have hS : va_S (fun q => lo ≤ q) s.heap s.heap [] := va_S.rf
  obtain ⟨ls, hls, hl⟩ := mw_entry (m := m) [.ref (L 14)] (n := 1) (Nat.le_of_ble_eq_true rfl) hargs
  refine W.eq hls ?_
  have hl : lv_has ls 1 [(0, .ref (L 14))] := hl
  refine lv_aload_n hx hb d_Reader_faultPlace_0 rfl (lv_at hl 0 rfl) ?_
  refine mw_get (ci := 2) (i := 14) (v := .int (iI rp)) (C := R_Reader) (T := T_Reader) (N := 6) hx hb hts in_Reader hown hK hM hR rfl rfl 5 (by decide) (hts _ m_171) rfl d_Reader_faultPlace_1 ?_
  exact mw_iret hx hb hr hM hS hlocks d_Reader_faultPlace_4 (mwR_i (by rfl))
set_option maxHeartbeats 4000000 in
set_option maxRecDepth 100000 in
theorem c_Doc_read (l : Launch) (D : va_G) (g : Nat → ClassId) (lo : Nat) (L : Nat → Nat) (κ : Nat → Option va_E) (scn fpl : Int) (zT : Nat) (bT : Nat → Int) (zF : Nat) (bF : Nat → Int) (T : Nat → Nat → Int) (cnt d : Nat) (zS : Nat → Nat) (bS : Nat → Nat → Int) (hW : dbs g L κ scn fpl zT bT zF bF T cnt d zS bS) (hsc : -1 ≤ scn ∧ scn < 8) (s0 n0 : Int) (hs0 : -2147483648 ≤ s0 ∧ s0 < 2147483648) (hn0 : -2147483648 ≤ n0 ∧ n0 < 2147483648) (hOKr : bHas zT n0 0 = true → rGood bT zT 2000 (rStart bT zT n0 T)) : Met l y_Doc_read w_Doc_read ({ frames := 6, cells := 1, slots := 2005, locals := 146 }) (mwP D vwCl (tyL g) lo L κ [.ref (L 0), .int (iI s0), .int (iI n0)]) (mwQ D vwCl lo (fun v L1 κ1 => dFr L L1 κ κ1 ∧ (((dSlot s0 = false ∨ bHas zT n0 0 = false) ∧ v = some (.int (iI (-1))) ∧ dbs g L1 κ1 scn fpl zT bT zF bF T cnt d zS bS) ∨ ((dSlot s0 = true ∧ bHas zT n0 0 = true ∧ ¬ (rGo bT zT 2000 (rStart bT zT n0 T)).2.2.1 = 0) ∧ v = some (.int (iI ((rGo bT zT 2000 (rStart bT zT n0 T)).2.2.1))) ∧ dbs g L1 κ1 (-1) ((rGo bT zT 2000 (rStart bT zT n0 T)).2.2.2.1) 0 bT zF bF ((rGo bT zT 2000 (rStart bT zT n0 T)).2.2.2.2.1) ((rGo bT zT 2000 (rStart bT zT n0 T)).2.2.2.2.2) 2 zS bS) ∨ ((dSlot s0 = true ∧ bHas zT n0 0 = true ∧ (rGo bT zT 2000 (rStart bT zT n0 T)).2.2.1 = 0) ∧ v = some (.int (iI ((rGo bT zT 2000 (rStart bT zT n0 T)).2.2.1))) ∧ dbs g L1 κ1 (-1) ((rGo bT zT 2000 (rStart bT zT n0 T)).2.2.2.1) 0 bT zF bF ((rGo bT zT 2000 (rStart bT zT n0 T)).2.2.2.2.1) ((rGo bT zT 2000 (rStart bT zT n0 T)).2.2.2.2.2) 2 (va_up zS s0.toNat (0 + n0.toNat)) (va_up bS s0.toNat (bApp (bS s0.toNat) 0 bT 0 n0)))))) 1 2005 (fun q => lo ≤ q) := by
  obtain ⟨hO, ⟨fA, hA1, hA2⟩, ⟨nT, hT⟩, ⟨nF, hF⟩, hN, ⟨ra, ri, rf, rp, hR⟩, ⟨nS, hSl⟩, hd⟩ := hW
  have hct := hT.2.2.1
  have hcf := hF.2.2.1
  have hcn := hN.2.2.1
  refine Met.ofW (cc := b_Doc_read) (maxL := 4) (ret := (Option.some Jvm.ClassFile.FieldType.int)) (by decide) rfl ?_
  intro p e s m args below meth c s₁ B hml hpre
  obtain ⟨hargs, hM, hK⟩ := hpre
  have hx := B.exec
  have hb := B.bytes
  have hr := B.returns
  have hts : ∀ w ∈ wA, w.before args s = true := fun w h => atoms_spec (ws := w_Doc_read) B.pre w (List.mem_cons_of_mem _ h)
  have hown : s.vm.findClass R_Doc = some m.cls := findClass_of_methodNamed B.named
  have hlocks := B.notSynchronized
  have hS : va_S (fun q => lo ≤ q) s.heap s.heap [] := va_S.rf
  obtain ⟨ls, hls, hl⟩ := mw_entry (m := m) [.ref (L 0), .int (iI s0), .int (iI n0)] (n := 4) (Nat.le_of_ble_eq_true rfl) hargs
  refine W.eq hls ?_
  have hl : lv_has ls 4 [(0, .ref (L 0)), (1, .int (iI s0)), (2, .int (iI n0))] := hl
  refine lv_iload_n hx hb d_Doc_read_0 rfl (lv_at hl 1 rfl) ?_
  refine mw_rdS (As := [.int (iI s0)]) (rest := []) ⟨hx, hb, hml, hown, hts⟩ hK hM hS (c_Doc_isSlot l D g lo L κ s0 (by omega)) (cwS 1 hts (gS m_223 m_224 m_51 m_225) rfl rfl rfl (by decide +kernel) ⟨Nat.le_of_ble_eq_true rfl, Nat.le_of_ble_eq_true rfl⟩) rfl hl.1 rfl (Nat.le_of_ble_eq_true rfl) d_Doc_read_1 ⟨Nat.le_of_ble_eq_true rfl, Nat.le_of_ble_eq_true rfl⟩ (fun H locs hM hS => ?_)
  refine ia_ifz_eq (x := dSlot s0) (tgt := 19) hx hb d_Doc_read_4 (by decide) (fun c1 => ?_) (fun c1 => ?_)
  · refine lv_iconst (v := iI (-1)) hx hb d_Doc_read_19 rfl ?_
    refine W.widen (k := 1) (n := 2005) (Nat.le_of_ble_eq_true rfl) (Nat.le_of_ble_eq_true rfl) ?_
    exact mw_iret hx hb hr hM hS hlocks d_Doc_read_20 ⟨⟨rfl, fun r h => rfl, fun r h => rfl⟩, Or.inl ⟨by first | exact Or.inl (by assumption) | exact Or.inr (by assumption), rfl, ⟨hO, ⟨fA, hA1, hA2⟩, ⟨_, hT⟩, ⟨_, hF⟩, hN, ⟨_, _, _, _, hR⟩, ⟨nS, hSl⟩, hd⟩⟩⟩
  · have hs1 := dSlot_iff.mp (by assumption)
    refine lv_aload_n hx hb d_Doc_read_7 rfl (lv_at hl 0 rfl) ?_
    refine mw_get (ci := 3) (i := 0) (v := .ref (L 2)) (C := R_Doc) (T := T_Doc) (N := 7) hx hb hts in_Doc hown hK hM hO rfl rfl 0 (by decide) (hts _ m_185) rfl d_Doc_read_8 ?_
    refine lv_iload_n hx hb d_Doc_read_11 rfl (lv_at hl 2 rfl) ?_
    refine lv_iconst (v := iI (0)) hx hb d_Doc_read_12 rfl ?_
    refine mw_rdV (i := 2) (As := [.int (iI n0), .int (iI 0)]) (rest := []) ⟨hx, hb, hml, hown, hts⟩ hK hM hS rfl hT.1 rfl (c_Bytes_has l D g lo L κ 2 3 2000 nT zT bT hT n0 0 (by omega) (by omega)) (cwV 2 hts (gV m_226 m_227 m_228 m_52 m_229) rfl rfl rfl (by decide +kernel) ⟨Nat.le_of_ble_eq_true rfl, Nat.le_of_ble_eq_true rfl⟩) rfl hl.1 rfl (Nat.le_of_ble_eq_true rfl) d_Doc_read_13 ⟨Nat.le_of_ble_eq_true rfl, Nat.le_of_ble_eq_true rfl⟩ (fun H locs hM hS => ?_)
    refine ia_ifz_ne (x := bHas zT n0 0) (tgt := 21) hx hb d_Doc_read_16 (by decide) (fun c2 => ?_) (fun c2 => ?_)
    · have hb1 := bHas_iff.mp (by assumption)
      have hgood := hOKr (by assumption)
      refine lv_aload_n hx hb d_Doc_read_21 rfl (lv_at hl 0 rfl) ?_
      refine lv_iconst (v := iI (-1)) hx hb d_Doc_read_22 rfl ?_
      refine mw_put (ci := 3) (i := 0) (v := .int (iI (-1))) (C := R_Doc) (T := T_Doc) (N := 7) hx hb hts in_Doc ty_Doc ty_Doc_ok nm_Doc hown hK hM hS hO rfl rfl 5 (by decide) (hts _ m_190) rfl (ty_Doc_ok 5 (by decide)) rfl rfl (Nat.le_of_ble_eq_true rfl) d_Doc_read_23 (fun κ3 H locs e3 hk3 hM hS => ?_)
      have e3 : κ3 0 = some (.inr (3, [.ref (L 2), .ref (L 1), .ref (L 4), .ref (L 6), .ref (L 14), .int (iI (-1)), .int (iI fpl)])) := e3
      have hB4 := bxs_keep hT (hk3 2 (by omega)) (hk3 3 (by omega)) rfl
      have hB5 := bxs_keep hF (hk3 4 (by omega)) (hk3 5 (by omega)) rfl
      have hN6 := nds_keep hN (fun r h1 h2 => hk3 r (by omega)) (fun r h1 h2 => rfl) rfl
      have hR7 := rds_keep hR (hk3 14 (by omega)) rfl rfl
      have hF8 : ∀ k, k < 8 → bxs g L κ3 (16 + 2 * k) (17 + 2 * k) 2000 (nS k) (zS k) (bS k) := fun k h1 => bxs_keep (hSl k h1) (hk3 ((16 + 2 * k)) (by omega)) (hk3 ((17 + 2 * k)) (by omega)) rfl
      have e9 := (hk3 1 (by omega)).trans hA1
      refine lv_aload_n hx hb d_Doc_read_26 rfl (lv_at hl 0 rfl) ?_
      refine mw_get (ci := 3) (i := 0) (v := .ref (L 14)) (C := R_Doc) (T := T_Doc) (N := 7) hx hb hts in_Doc hown hK hM e3 rfl rfl 4 (by decide) (hts _ m_189) rfl d_Doc_read_27 ?_
      refine lv_iload_n hx hb d_Doc_read_30 rfl (lv_at hl 2 rfl) ?_
      refine mw_callV (i := 14) (As := [.int (iI n0)]) (rest := []) ⟨hx, hb, hml, hown, hts⟩ hK hM hS rfl hR7 rfl (c_Reader_readAll l D g lo L κ3 T cnt d hN6 2000 nT zT bT hB4 ra ri rf rp hR7 n0 (by omega) hgood) (cwV 1 hts (gV m_230 m_231 m_232 m_57 m_233) rfl rfl rfl (by decide +kernel) ⟨Nat.le_of_ble_eq_true rfl, Nat.le_of_ble_eq_true rfl⟩) rfl hl.1 rfl (Nat.le_of_ble_eq_true rfl) d_Doc_read_31 ⟨Nat.le_of_ble_eq_true rfl, Nat.le_of_ble_eq_true rfl⟩ (fun v10 L10 κ10 H locs hp10 hM hS => ?_)
      obtain ⟨rfl, hq10⟩ := hp10
      obtain ⟨-, rfl, hR10, hN10, hk10⟩ := hq10
      have hri : (-1000 ≤ (rGo bT zT 2000 (rStart bT zT n0 T)).2.2.1 ∧ (rGo bT zT 2000 (rStart bT zT n0 T)).2.2.1 ≤ 1000) ∧ (-1000000 ≤ (rGo bT zT 2000 (rStart bT zT n0 T)).2.1 ∧ (rGo bT zT 2000 (rStart bT zT n0 T)).2.1 ≤ 1000000) := rGo_in _ _ hgood
      have hB11 := bxs_keep hB4 (hk10 2 (by omega)) (hk10 3 (by omega)) rfl
      have hB12 := bxs_keep hB5 (hk10 4 (by omega)) (hk10 5 (by omega)) rfl
      have hO13 := dob_keep e3 (hk10 0 (by omega)) rfl rfl rfl rfl rfl
      have hF14 : ∀ k, k < 8 → bxs g L κ10 (16 + 2 * k) (17 + 2 * k) 2000 (nS k) (zS k) (bS k) := fun k h1 => bxs_keep (hF8 k h1) (hk10 ((16 + 2 * k)) (by omega)) (hk10 ((17 + 2 * k)) (by omega)) rfl
      have e15 := (hk10 1 (by omega)).trans e9
      refine lv_istore_n (lv' := [(3, .int (iI ((rGo bT zT 2000 (rStart bT zT n0 T)).2.2.1))), (0, .ref (L 0)), (1, .int (iI s0)), (2, .int (iI n0))]) hx hb d_Doc_read_34 rfl hl (by decide) rfl (fun ls hl => ?_)
      refine lv_aload_n hx hb d_Doc_read_35 rfl (lv_at hl 1 rfl) ?_
      refine lv_aload_n hx hb d_Doc_read_36 rfl (lv_at hl 1 rfl) ?_
      refine mw_get (ci := 3) (i := 0) (v := .ref (L 14)) (C := R_Doc) (T := T_Doc) (N := 7) hx hb hts in_Doc hown hK hM hO13 rfl rfl 4 (by decide) (hts _ m_189) rfl d_Doc_read_37 ?_
      refine mw_rdV (i := 14) (As := []) (rest := [.ref (L 0)]) ⟨hx, hb, hml, hown, hts⟩ hK hM hS rfl hR10 rfl (c_Reader_faultPlace2 l D g lo L κ10 ((rGo bT zT 2000 (rStart bT zT n0 T)).1) ((rGo bT zT 2000 (rStart bT zT n0 T)).2.1) ((rGo bT zT 2000 (rStart bT zT n0 T)).2.2.1) ((rGo bT zT 2000 (rStart bT zT n0 T)).2.2.2.1) hR10) (cwV 0 hts (gV m_354 m_355 m_356 m_57 m_357) rfl rfl rfl (by decide +kernel) ⟨Nat.le_of_ble_eq_true rfl, Nat.le_of_ble_eq_true rfl⟩) rfl hl.1 rfl (Nat.le_of_ble_eq_true rfl) d_Doc_read_40 ⟨Nat.le_of_ble_eq_true rfl, Nat.le_of_ble_eq_true rfl⟩ (fun H locs hM hS => ?_)
      refine mw_put (ci := 3) (i := 0) (v := .int (iI ((rGo bT zT 2000 (rStart bT zT n0 T)).2.2.2.1))) (C := R_Doc) (T := T_Doc) (N := 7) hx hb hts in_Doc ty_Doc ty_Doc_ok nm_Doc hown hK hM hS hO13 rfl rfl 6 (by decide) (hts _ m_191) rfl (ty_Doc_ok 6 (by decide)) rfl rfl (Nat.le_of_ble_eq_true rfl) d_Doc_read_43 (fun κ16 H locs e16 hk16 hM hS => ?_)
      have e16 : κ16 0 = some (.inr (3, [.ref (L 2), .ref (L 1), .ref (L 4), .ref (L 6), .ref (L 14), .int (iI (-1)), .int (iI ((rGo bT zT 2000 (rStart bT zT n0 T)).2.2.2.1))])) := e16
      have hB17 := bxs_keep hB11 (hk16 2 (by omega)) (hk16 3 (by omega)) rfl
      have hB18 := bxs_keep hB12 (hk16 4 (by omega)) (hk16 5 (by omega)) rfl
      have hN19 := nds_keep hN10 (fun r h1 h2 => hk16 r (by omega)) (fun r h1 h2 => rfl) rfl
      have hR20 := rds_keep hR10 (hk16 14 (by omega)) rfl rfl
      have hF21 : ∀ k, k < 8 → bxs g L κ16 (16 + 2 * k) (17 + 2 * k) 2000 (nS k) (zS k) (bS k) := fun k h1 => bxs_keep (hF14 k h1) (hk16 ((16 + 2 * k)) (by omega)) (hk16 ((17 + 2 * k)) (by omega)) rfl
      have e22 := (hk16 1 (by omega)).trans e15
      refine lv_iload_n hx hb d_Doc_read_46 rfl (lv_at hl 0 rfl) ?_
      refine ia_if_ne (a := (rGo bT zT 2000 (rStart bT zT n0 T)).2.2.1) (tgt := 74) hx hb d_Doc_read_47 (by decide) (by omega) (fun c23 => ?_) (fun c23 => ?_)
      · refine lv_aload_n hx hb d_Doc_read_74 rfl (lv_at hl 1 rfl) ?_
        refine mw_get (ci := 3) (i := 0) (v := .ref (L 2)) (C := R_Doc) (T := T_Doc) (N := 7) hx hb hts in_Doc hown hK hM e16 rfl rfl 0 (by decide) (hts _ m_185) rfl d_Doc_read_75 ?_
        refine mw_callV (i := 2) (As := []) (rest := []) ⟨hx, hb, hml, hown, hts⟩ hK hM hS rfl hB17.1 rfl (c_Bytes_clear l D g lo L κ16 2 3 2000 nT zT bT hB17 ) (cwV 0 hts (gV m_358 m_359 m_360 m_52 m_361) rfl rfl rfl (by decide +kernel) ⟨Nat.le_of_ble_eq_true rfl, Nat.le_of_ble_eq_true rfl⟩) rfl hl.1 rfl (Nat.le_of_ble_eq_true rfl) d_Doc_read_78 ⟨Nat.le_of_ble_eq_true rfl, Nat.le_of_ble_eq_true rfl⟩ (fun v24 L24 κ24 H locs hp24 hM hS => ?_)
        obtain ⟨rfl, rfl, hB24, hk24⟩ := hp24
        have hB25 := bxs_keep hB18 (hk24 4 (by omega) (by omega)) (hk24 5 (by omega) (by omega)) rfl
        have hN26 := nds_keep hN19 (fun r h1 h2 => hk24 r (by omega) (by omega)) (fun r h1 h2 => rfl) rfl
        have hO27 := dob_keep e16 (hk24 0 (by omega) (by omega)) rfl rfl rfl rfl rfl
        have hR28 := rds_keep hR20 (hk24 14 (by omega) (by omega)) rfl rfl
        have hF29 : ∀ k, k < 8 → bxs g L κ24 (16 + 2 * k) (17 + 2 * k) 2000 (nS k) (zS k) (bS k) := fun k h1 => bxs_keep (hF21 k h1) (hk24 ((16 + 2 * k)) (by omega) (by omega)) (hk24 ((17 + 2 * k)) (by omega) (by omega)) rfl
        have e30 := (hk24 1 (by omega) (by omega)).trans e22
        refine lv_iload_n hx hb d_Doc_read_81 rfl (lv_at hl 0 rfl) ?_
        refine W.widen (k := 1) (n := 2005) (Nat.le_of_ble_eq_true rfl) (Nat.le_of_ble_eq_true rfl) ?_
        exact mw_iret hx hb hr hM hS hlocks d_Doc_read_82 ⟨⟨rfl, fun r h => rfl, fun r h => by rw [hk24 r (by omega) (by omega), hk16 r (by omega), hk10 r (by omega), hk3 r (by omega)]⟩, Or.inr (Or.inl ⟨⟨by assumption, by assumption, by omega⟩, rfl, ⟨hO27, ⟨fA, e30, hA2⟩, ⟨_, hB24⟩, ⟨_, hB25⟩, hN26, ⟨_, _, _, _, hR28⟩, ⟨nS, hF29⟩, ⟨fun h => absurd h (by decide), Or.inl rfl⟩⟩⟩)⟩
      · refine lv_aload_n hx hb d_Doc_read_50 rfl (lv_at hl 1 rfl) ?_
        refine mw_get (ci := 3) (i := 0) (v := .ref (L 1)) (C := R_Doc) (T := T_Doc) (N := 7) hx hb hts in_Doc hown hK hM e16 rfl rfl 1 (by decide) (hts _ m_186) rfl d_Doc_read_51 ?_
        refine lv_iload_n hx hb d_Doc_read_54 rfl (lv_at hl 2 rfl) ?_
        refine mw_aldq (a := s0) (i := 1) hx hb hK hM 2 e22 rfl rfl (by omega) (by omega) (hA2 (s0 : Int).toNat (by omega)) d_Doc_read_55 ?_
        have hB31 := hF21 (s0 : Int).toNat (by omega)
        have r32 := hB31.2.2.1
        have hF33 : ∀ k, k < 8 → k ≠ (s0 : Int).toNat → bxs g L κ16 (16 + 2 * k) (17 + 2 * k) 2000 (nS k) (zS k) (bS k) := fun k h1 _ => hF21 k h1
        refine mw_callV (i := 16 + 2 * (s0 : Int).toNat) (As := []) (rest := []) ⟨hx, hb, hml, hown, hts⟩ hK hM hS rfl hB31.1 rfl (c_Bytes_clear l D g lo L κ16 (16 + 2 * (s0 : Int).toNat) (17 + 2 * (s0 : Int).toNat) 2000 (nS (s0 : Int).toNat) (zS (s0 : Int).toNat) (bS (s0 : Int).toNat) hB31 ) (cwV 0 hts (gV m_358 m_359 m_360 m_52 m_361) rfl rfl rfl (by decide +kernel) ⟨Nat.le_of_ble_eq_true rfl, Nat.le_of_ble_eq_true rfl⟩) rfl hl.1 rfl (Nat.le_of_ble_eq_true rfl) d_Doc_read_56 ⟨Nat.le_of_ble_eq_true rfl, Nat.le_of_ble_eq_true rfl⟩ (fun v34 L34 κ34 H locs hp34 hM hS => ?_)
        obtain ⟨rfl, rfl, hB34, hk34⟩ := hp34
        have hB35 := bxs_keep hB17 (hk34 2 (by omega) (by omega)) (hk34 3 (by omega) (by omega)) rfl
        have hB36 := bxs_keep hB18 (hk34 4 (by omega) (by omega)) (hk34 5 (by omega) (by omega)) rfl
        have hN37 := nds_keep hN19 (fun r h1 h2 => hk34 r (by omega) (by omega)) (fun r h1 h2 => rfl) rfl
        have hO38 := dob_keep e16 (hk34 0 (by omega) (by omega)) rfl rfl rfl rfl rfl
        have hR39 := rds_keep hR20 (hk34 14 (by omega) (by omega)) rfl rfl
        have hF40 : ∀ k, k < 8 → k ≠ (s0 : Int).toNat → bxs g L κ34 (16 + 2 * k) (17 + 2 * k) 2000 (nS k) (zS k) (bS k) := fun k h1 h2 => bxs_keep (hF33 k h1 h2) (hk34 ((16 + 2 * k)) (by omega) (by omega)) (hk34 ((17 + 2 * k)) (by omega) (by omega)) rfl
        have e41 := (hk34 1 (by omega) (by omega)).trans e22
        refine lv_aload_n hx hb d_Doc_read_59 rfl (lv_at hl 1 rfl) ?_
        refine mw_get (ci := 3) (i := 0) (v := .ref (L 1)) (C := R_Doc) (T := T_Doc) (N := 7) hx hb hts in_Doc hown hK hM hO38 rfl rfl 1 (by decide) (hts _ m_186) rfl d_Doc_read_60 ?_
        refine lv_iload_n hx hb d_Doc_read_63 rfl (lv_at hl 2 rfl) ?_
        refine mw_aldq (a := s0) (i := 1) hx hb hK hM 2 e41 rfl rfl (by omega) (by omega) (hA2 (s0 : Int).toNat (by omega)) d_Doc_read_64 ?_
        refine lv_aload_n hx hb d_Doc_read_65 rfl (lv_at hl 1 rfl) ?_
        refine mw_get (ci := 3) (i := 0) (v := .ref (L 2)) (C := R_Doc) (T := T_Doc) (N := 7) hx hb hts in_Doc hown hK hM hO38 rfl rfl 0 (by decide) (hts _ m_185) rfl d_Doc_read_66 ?_
        refine lv_iconst (v := iI (0)) hx hb d_Doc_read_69 rfl ?_
        refine lv_iload_n hx hb d_Doc_read_70 rfl (lv_at hl 3 rfl) ?_
        refine mw_callV (i := 16 + 2 * (s0 : Int).toNat) (As := [.ref (L 2), .int (iI 0), .int (iI n0)]) (rest := []) ⟨hx, hb, hml, hown, hts⟩ hK hM hS rfl hB34.1 rfl (c_Bytes_appendFrom l D g lo L κ34 (16 + 2 * (s0 : Int).toNat) (17 + 2 * (s0 : Int).toNat) 2000 (nS (s0 : Int).toNat) 0 (bS (s0 : Int).toNat) hB34 2 3 2000 nT zT bT hB35 0 n0 (by omega) (by omega)) (cwV 3 hts (gV m_362 m_363 m_364 m_52 m_365) rfl rfl rfl (by decide +kernel) ⟨Nat.le_of_ble_eq_true rfl, Nat.le_of_ble_eq_true rfl⟩) rfl hl.1 rfl (Nat.le_of_ble_eq_true rfl) d_Doc_read_71 ⟨Nat.le_of_ble_eq_true rfl, Nat.le_of_ble_eq_true rfl⟩ (fun v42 L42 κ42 H locs hp42 hM hS => ?_)
        obtain ⟨n42, rfl, hL42, hB42, hk42⟩ := hp42
        have hB42 : bxs g L42 κ42 (16 + 2 * (s0 : Int).toNat) (17 + 2 * (s0 : Int).toNat) 2000 n42 (0 + n0.toNat) (bApp (bS (s0 : Int).toNat) 0 bT 0 n0) := hB42
        have r43 := hB42.2.2.1
        have hB44 := bxs_keep hB35 (hk42 2 (by omega) (by omega)) (hk42 3 (by omega) (by omega)) (hL42 3 (by omega))
        have hB45 := bxs_keep hB36 (hk42 4 (by omega) (by omega)) (hk42 5 (by omega) (by omega)) (hL42 5 (by omega))
        have hN46 := nds_keep hN37 (fun r h1 h2 => hk42 r (by omega) (by omega)) (fun r h1 h2 => hL42 r (by omega)) (hL42 2 (by omega))
        have hO47 := dob_keep hO38 (hk42 0 (by omega) (by omega)) (hL42 2 (by omega)) (hL42 1 (by omega)) (hL42 4 (by omega)) (hL42 6 (by omega)) (hL42 14 (by omega))
        have hR48 := rds_keep hR39 (hk42 14 (by omega) (by omega)) (hL42 6 (by omega)) (hL42 2 (by omega))
        have hF49 : ∀ k, k < 8 → k ≠ (s0 : Int).toNat → bxs g L42 κ42 (16 + 2 * k) (17 + 2 * k) 2000 (nS k) (zS k) (bS k) := fun k h1 h2 => bxs_keep (hF40 k h1 h2) (hk42 ((16 + 2 * k)) (by omega) (by omega)) (hk42 ((17 + 2 * k)) (by omega) (by omega)) (hL42 ((17 + 2 * k)) (by omega))
        have hA50 : ∀ k, k < 8 → fA k = some (L42 (16 + 2 * k)) := fun k h1 => by rw [hL42 ((16 + 2 * k)) (by omega)]; exact hA2 k h1
        have e51 := (hk42 1 (by omega) (by omega)).trans e41
        refine lv_aload_n hx hb d_Doc_read_74 rfl (lv_at hl 1 rfl) ?_
        refine mw_get (ci := 3) (i := 0) (v := .ref (L42 2)) (C := R_Doc) (T := T_Doc) (N := 7) hx hb hts in_Doc hown hK hM hO47 (hL42 0 (by omega)) rfl 0 (by decide) (hts _ m_185) rfl d_Doc_read_75 ?_
        refine mw_callV (i := 2) (As := []) (rest := []) ⟨hx, hb, hml, hown, hts⟩ hK hM hS rfl hB44.1 rfl (c_Bytes_clear l D g lo L42 κ42 2 3 2000 nT zT bT hB44 ) (cwV 0 hts (gV m_358 m_359 m_360 m_52 m_361) rfl rfl rfl (by decide +kernel) ⟨Nat.le_of_ble_eq_true rfl, Nat.le_of_ble_eq_true rfl⟩) rfl hl.1 rfl (Nat.le_of_ble_eq_true rfl) d_Doc_read_78 ⟨Nat.le_of_ble_eq_true rfl, Nat.le_of_ble_eq_true rfl⟩ (fun v52 L52 κ52 H locs hp52 hM hS => ?_)
        obtain ⟨rfl, rfl, hB52, hk52⟩ := hp52
        have hB53 := bxs_keep hB45 (hk52 4 (by omega) (by omega)) (hk52 5 (by omega) (by omega)) rfl
        have hN54 := nds_keep hN46 (fun r h1 h2 => hk52 r (by omega) (by omega)) (fun r h1 h2 => rfl) rfl
        have hB55 := bxs_keep hB42 (hk52 (16 + 2 * (s0 : Int).toNat) (by omega) (by omega)) (hk52 (17 + 2 * (s0 : Int).toNat) (by omega) (by omega)) rfl
        have hO56 := dob_keep hO47 (hk52 0 (by omega) (by omega)) rfl rfl rfl rfl rfl
        have hR57 := rds_keep hR48 (hk52 14 (by omega) (by omega)) rfl rfl
        have hF58 : ∀ k, k < 8 → k ≠ (s0 : Int).toNat → bxs g L42 κ52 (16 + 2 * k) (17 + 2 * k) 2000 (nS k) (zS k) (bS k) := fun k h1 h2 => bxs_keep (hF49 k h1 h2) (hk52 ((16 + 2 * k)) (by omega) (by omega)) (hk52 ((17 + 2 * k)) (by omega) (by omega)) rfl
        have e59 := (hk52 1 (by omega) (by omega)).trans e51
        refine lv_iload_n hx hb d_Doc_read_81 rfl (lv_at hl 0 rfl) ?_
        refine W.widen (k := 1) (n := 2005) (Nat.le_of_ble_eq_true rfl) (Nat.le_of_ble_eq_true rfl) ?_
        exact mw_iret hx hb hr hM hS hlocks d_Doc_read_82 ⟨⟨by rw [hL42 0 (by omega)], fun r h => by rw [hL42 r (by omega)], fun r h => by rw [hk52 r (by omega) (by omega), hk42 r (by omega) (by omega), hk34 r (by omega) (by omega), hk16 r (by omega), hk10 r (by omega), hk3 r (by omega)]⟩, Or.inr (Or.inr ⟨⟨by assumption, by assumption, by omega⟩, rfl, ⟨hO56, ⟨fA, e59, hA50⟩, ⟨_, hB52⟩, ⟨_, hB53⟩, hN54, ⟨_, _, _, _, hR57⟩, ⟨va_up nS (s0 : Int).toNat (n42), fun k h1 => by
    by_cases q : k = (s0 : Int).toNat
    · rw [q, va_up_self, va_up_self, va_up_self]; exact hB55
    · rw [va_up_ne _ _ q, va_up_ne _ _ q, va_up_ne _ _ q]; exact hF58 k h1 q⟩, ⟨fun h => absurd h (by decide), Or.inl rfl⟩⟩⟩)⟩
    · refine lv_iconst (v := iI (-1)) hx hb d_Doc_read_19 rfl ?_
      refine W.widen (k := 1) (n := 2005) (Nat.le_of_ble_eq_true rfl) (Nat.le_of_ble_eq_true rfl) ?_
      exact mw_iret hx hb hr hM hS hlocks d_Doc_read_20 ⟨⟨rfl, fun r h => rfl, fun r h => rfl⟩, Or.inl ⟨by first | exact Or.inl (by assumption) | exact Or.inr (by assumption), rfl, ⟨hO, ⟨fA, hA1, hA2⟩, ⟨_, hT⟩, ⟨_, hF⟩, hN, ⟨_, _, _, _, hR⟩, ⟨nS, hSl⟩, hd⟩⟩⟩
