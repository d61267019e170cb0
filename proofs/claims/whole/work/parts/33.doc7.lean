set_option maxHeartbeats 4000000 in
set_option maxRecDepth 100000 in
theorem c_Doc_add (l : Launch) (D : va_G) (g : Nat → ClassId) (lo : Nat) (L : Nat → Nat) (κ : Nat → Option va_E) (scn fpl : Int) (zT : Nat) (bT : Nat → Int) (zF : Nat) (bF : Nat → Int) (T : Nat → Nat → Int) (cnt d : Nat) (zS : Nat → Nat) (bS : Nat → Nat → Int) (hW : dbs g L κ scn fpl zT bT zF bF T cnt d zS bS) (hsc : -1 ≤ scn ∧ scn < 8) (s0 x k0 v0 n0 m0 : Int) (hs0 : -2147483648 ≤ s0 ∧ s0 < 2147483648) (hx : -2147483648 ≤ x ∧ x < 2147483648) (hk0 : -2147483648 ≤ k0 ∧ k0 < 2147483648) (hn0 : -2147483648 ≤ n0 ∧ n0 < 2147483648) (hm0 : -2147483648 ≤ m0 ∧ m0 < 2147483648) (hv0 : -9223372036854775808 ≤ v0 ∧ v0 < 9223372036854775808) (hOK : dOK scn s0 T zS bS) (hOKa : dLa s0 x (dTab scn s0 T cnt d zS bS).2.1 (dTab scn s0 T cnt d zS bS).2.2.1 (zS s0.toNat)) : Met l y_Doc_add w_Doc_add ({ frames := 6, cells := 4, slots := 8020, locals := 169 }) (mwP D vwCl (tyL g) lo L κ [.ref (L 0), .int (iI s0), .int (iI x), .int (iI k0), .long (lI v0), .int (iI n0), .int (iI m0)]) (mwQ D vwCl lo (fun v L1 κ1 => dFr L L1 κ κ1 ∧ (((dMay s0 x (dTab scn s0 T cnt d zS bS).2.1 (dTab scn s0 T cnt d zS bS).2.2.1 = false ∨ bHas zT n0 m0 = false) ∧ v = some (.int (iI (-1))) ∧ dbs g L1 κ1 ((dTab scn s0 T cnt d zS bS).1) fpl zT bT zF bF ((dTab scn s0 T cnt d zS bS).2.1) ((dTab scn s0 T cnt d zS bS).2.2.1) ((dTab scn s0 T cnt d zS bS).2.2.2) zS bS) ∨ ((dMay s0 x (dTab scn s0 T cnt d zS bS).2.1 (dTab scn s0 T cnt d zS bS).2.2.1 = true ∧ bHas zT n0 m0 = true ∧ dAddA (dTab scn s0 T cnt d zS bS).2.1 (dTab scn s0 T cnt d zS bS).2.2.1 (bS s0.toNat) (zS s0.toNat) bT zT bF x k0 v0 n0 m0 < 0) ∧ v = some (.int (iI (dAddA (dTab scn s0 T cnt d zS bS).2.1 (dTab scn s0 T cnt d zS bS).2.2.1 (bS s0.toNat) (zS s0.toNat) bT zT bF x k0 v0 n0 m0))) ∧ ∃ (zF1 : Nat) (bF1 : Nat → Int), dbs g L1 κ1 ((dTab scn s0 T cnt d zS bS).1) fpl 0 bT zF1 bF1 ((dTab scn s0 T cnt d zS bS).2.1) ((dTab scn s0 T cnt d zS bS).2.2.1) ((dTab scn s0 T cnt d zS bS).2.2.2) zS bS) ∨ ((dMay s0 x (dTab scn s0 T cnt d zS bS).2.1 (dTab scn s0 T cnt d zS bS).2.2.1 = true ∧ bHas zT n0 m0 = true ∧ 0 ≤ dAddA (dTab scn s0 T cnt d zS bS).2.1 (dTab scn s0 T cnt d zS bS).2.2.1 (bS s0.toNat) (zS s0.toNat) bT zT bF x k0 v0 n0 m0) ∧ v = some (.int (iI (dAddA (dTab scn s0 T cnt d zS bS).2.1 (dTab scn s0 T cnt d zS bS).2.2.1 (bS s0.toNat) (zS s0.toNat) bT zT bF x k0 v0 n0 m0))) ∧ ∃ (zF1 : Nat) (bF1 : Nat → Int), dbs g L1 κ1 (-1) fpl 0 bT zF1 bF1 ((dTab scn s0 T cnt d zS bS).2.1) ((dTab scn s0 T cnt d zS bS).2.2.1) ((dTab scn s0 T cnt d zS bS).2.2.2) (va_up zS s0.toNat (dInsZ (dTab scn s0 T cnt d zS bS).2.1 (dTab scn s0 T cnt d zS bS).2.2.1 (zS s0.toNat) (dFresh k0 v0 n0 m0 bF bT).1 x n0)) (va_up bS s0.toNat (dInsB (dTab scn s0 T cnt d zS bS).2.1 (dTab scn s0 T cnt d zS bS).2.2.1 (bS s0.toNat) (zS s0.toNat) bT (dFresh k0 v0 n0 m0 bF bT).2 (dFresh k0 v0 n0 m0 bF bT).1 x k0 n0)))))) 4 8020 (fun q => lo ≤ q) := by
  obtain ⟨hO, ⟨fA, hA1, hA2⟩, ⟨nT, hT⟩, ⟨nF, hF⟩, hN, ⟨ra, ri, rf, rp, hR⟩, ⟨nS, hSl⟩, hd⟩ := hW
  have hct := hT.2.2.1
  have hcf := hF.2.2.1
  have hcn := hN.2.2.1
  refine Met.ofW (cc := b_Doc_add) (maxL := 9) (ret := (Option.some Jvm.ClassFile.FieldType.int)) (by decide) rfl ?_
  intro p e s m args below meth c s₁ B hml hpre
  obtain ⟨hargs, hM, hK⟩ := hpre
  have hx := B.exec
  have hb := B.bytes
  have hr := B.returns
  have hts : ∀ w ∈ wA, w.before args s = true := fun w h => atoms_spec (ws := w_Doc_add) B.pre w (List.mem_cons_of_mem _ h)
  have hown : s.vm.findClass R_Doc = some m.cls := findClass_of_methodNamed B.named
  have hlocks := B.notSynchronized
  have hS : va_S (fun q => lo ≤ q) s.heap s.heap [] := va_S.rf
  obtain ⟨ls, hls, hl⟩ := mw_entry (m := m) [.ref (L 0), .int (iI s0), .int (iI x), .int (iI k0), .long (lI v0), .int (iI n0), .int (iI m0)] (n := 9) (Nat.le_of_ble_eq_true rfl) hargs
  refine W.eq hls ?_
  have hl : lv_has ls 9 [(0, .ref (L 0)), (1, .int (iI s0)), (2, .int (iI x)), (3, .int (iI k0)), (4, .long (lI v0)), (6, .int (iI n0)), (7, .int (iI m0))] := hl
  refine lv_aload_n hx hb d_Doc_add_0 rfl (lv_at hl 0 rfl) ?_
  refine lv_iload_n hx hb d_Doc_add_1 rfl (lv_at hl 1 rfl) ?_
  refine lv_iload_n hx hb d_Doc_add_2 rfl (lv_at hl 2 rfl) ?_
  refine mw_callV (i := 0) (As := [.int (iI s0), .int (iI x)]) (rest := []) ⟨hx, hb, hml, hown, hts⟩ hK hM hS rfl hO rfl (c_Doc_mayHold l D g lo L κ scn fpl zT bT zF bF T cnt d zS bS ⟨hO, ⟨fA, hA1, hA2⟩, ⟨_, hT⟩, ⟨_, hF⟩, hN, ⟨_, _, _, _, hR⟩, ⟨nS, hSl⟩, hd⟩ (by omega) s0 x (by omega) (by omega) hOK) (cwV 2 hts (gV m_462 m_464 m_9 m_51 m_465) rfl rfl rfl (by decide +kernel) ⟨Nat.le_of_ble_eq_true rfl, Nat.le_of_ble_eq_true rfl⟩) rfl hl.1 rfl (Nat.le_of_ble_eq_true rfl) d_Doc_add_3 ⟨Nat.le_of_ble_eq_true rfl, Nat.le_of_ble_eq_true rfl⟩ (fun v1 L1 κ1 H locs hp1 hM hS => ?_)
  obtain ⟨sc1, T1, cn1, d1, hTb1⟩ : ∃ (za : Int) (zb : Nat → Nat → Int) (zc : Nat) (zd : Nat), dTab scn s0 T cnt d zS bS = (za, zb, zc, zd) := ⟨_, _, _, _, rfl⟩
  have hsc1 := dTab_r hTb1 (by omega)
  rw [hTb1] at hp1
  obtain ⟨rfl, rfl, hW1, hk1⟩ := hp1
  have hW1 : dbs g L κ1 sc1 fpl zT bT zF bF T1 cn1 d1 zS bS := hW1
  obtain ⟨hO_1, ⟨fA, hA1_1, hA2_1⟩, ⟨nT_1, hT_1⟩, ⟨nF_1, hF_1⟩, hN_1, ⟨ra_1, ri_1, rf_1, rp_1, hR_1⟩, ⟨nS_1, hSl_1⟩, hd_1⟩ := hW1
  have hct_1 := hT_1.2.2.1
  have hcf_1 := hF_1.2.2.1
  have hcn_1 := hN_1.2.2.1
  refine ia_ifz_eq (x := dMay s0 x T1 cn1) (tgt := 23) hx hb d_Doc_add_6 (by decide) (fun c2 => ?_) (fun c2 => ?_)
  · refine lv_iconst (v := iI (-1)) hx hb d_Doc_add_23 rfl ?_
    refine W.widen (k := 4) (n := 8020) (Nat.le_of_ble_eq_true rfl) (Nat.le_of_ble_eq_true rfl) ?_
    exact mw_iret hx hb hr hM hS hlocks d_Doc_add_24 (by rw [hTb1]; exact ⟨⟨rfl, fun r h => rfl, fun r h => by rw [hk1 r (by omega)]⟩, Or.inl ⟨(by first | exact Or.inl (by assumption) | exact Or.inr (by assumption)), rfl, ⟨hO_1, ⟨fA, hA1_1, hA2_1⟩, ⟨_, hT_1⟩, ⟨_, hF_1⟩, hN_1, ⟨_, _, _, _, hR_1⟩, ⟨nS_1, hSl_1⟩, hd_1⟩⟩⟩)
  · have hhas := dMay_has (by assumption)
    rw [hTb1] at hOKa
    have hOKe : dLa s0 x T1 cn1 (zS s0.toNat) := hOKa
    have hla := hOKe hhas
    have hh1 := dHas_iff.mp (by assumption)
    obtain ⟨hs2, hd2⟩ := dTab_d hTb1 hh1.1 hd.1
    subst hd2
    have hs2 := hs2.symm
    subst hs2
    have hB3 := hSl_1 (s0 : Int).toNat (by omega)
    have r4 := hB3.2.2.1
    refine lv_aload_n hx hb d_Doc_add_9 rfl (lv_at hl 0 rfl) ?_
    refine mw_get (ci := 3) (i := 0) (v := .ref (L 2)) (C := R_Doc) (T := T_Doc) (N := 7) hx hb hts in_Doc hown hK hM hO_1 rfl rfl 0 (by decide) (hts _ m_185) rfl d_Doc_add_10 ?_
    refine lv_iload hx hb d_Doc_add_13 (lv_at hl 5 rfl) ?_
    refine lv_iload hx hb d_Doc_add_15 (lv_at hl 6 rfl) ?_
    refine mw_rdV (i := 2) (As := [.int (iI n0), .int (iI m0)]) (rest := []) ⟨hx, hb, hml, hown, hts⟩ hK hM hS rfl hT_1.1 rfl (c_Bytes_has l D g lo L κ1 2 3 2000 nT_1 zT bT hT_1 n0 m0 (by omega) (by omega)) (cwV 2 hts (gV m_226 m_227 m_228 m_52 m_229) rfl rfl rfl (by decide +kernel) ⟨Nat.le_of_ble_eq_true rfl, Nat.le_of_ble_eq_true rfl⟩) rfl hl.1 rfl (Nat.le_of_ble_eq_true rfl) d_Doc_add_17 ⟨Nat.le_of_ble_eq_true rfl, Nat.le_of_ble_eq_true rfl⟩ (fun H locs hM hS => ?_)
    refine ia_ifz_ne (x := bHas zT n0 m0) (tgt := 25) hx hb d_Doc_add_20 (by decide) (fun c5 => ?_) (fun c5 => ?_)
    · have hb1 := bHas_iff.mp (by assumption)
      refine lv_aload_n hx hb d_Doc_add_25 rfl (lv_at hl 0 rfl) ?_
      refine lv_iload_n hx hb d_Doc_add_26 rfl (lv_at hl 1 rfl) ?_
      refine lv_iload_n hx hb d_Doc_add_27 rfl (lv_at hl 2 rfl) ?_
      refine lv_iload_n hx hb d_Doc_add_28 rfl (lv_at hl 3 rfl) ?_
      refine lv_lload hx hb d_Doc_add_29 (lv_at hl 4 rfl) ?_
      refine lv_iload hx hb d_Doc_add_31 (lv_at hl 5 rfl) ?_
      refine lv_iload hx hb d_Doc_add_33 (lv_at hl 6 rfl) ?_
      refine mw_callV (i := 0) (As := [.int (iI s0), .int (iI x), .int (iI k0), .long (lI v0), .int (iI n0), .int (iI m0)]) (rest := []) ⟨hx, hb, hml, hown, hts⟩ hK hM hS rfl hO_1 rfl (c_Doc_addFromTape l D g lo L κ1 s0 fpl zT bT zF bF T1 cn1 (16 + 2 * (s0 : Int).toNat) zS bS ⟨hO_1, ⟨fA, hA1_1, hA2_1⟩, ⟨_, hT_1⟩, ⟨_, hF_1⟩, hN_1, ⟨_, _, _, _, hR_1⟩, ⟨nS_1, hSl_1⟩, hd_1⟩ (by omega) s0 x k0 v0 n0 m0 (by omega) rfl (by omega) (by omega) hla (by omega) (by omega)) (cwV 6 hts (gV m_467 m_469 m_10 m_51 m_470) rfl rfl rfl (by decide +kernel) ⟨Nat.le_of_ble_eq_true rfl, Nat.le_of_ble_eq_true rfl⟩) rfl hl.1 rfl (Nat.le_of_ble_eq_true rfl) d_Doc_add_35 ⟨Nat.le_of_ble_eq_true rfl, Nat.le_of_ble_eq_true rfl⟩ (fun v6 L6 κ6 H locs hp6 hM hS => ?_)
      obtain ⟨hfr6, hcs6⟩ := hp6
      rcases hcs6 with ⟨hA6, rfl, hW6⟩ | ⟨hA6, rfl, hW6⟩
      · obtain ⟨zF6, bF6, hW6⟩ := hW6
        have hW6 : dbs g L6 κ6 s0 fpl zT bT zF6 bF6 T1 cn1 (16 + 2 * (s0 : Int).toNat) zS bS := hW6
        obtain ⟨hO_6, ⟨fA, hA1_6, hA2_6⟩, ⟨nT_6, hT_6⟩, ⟨nF_6, hF_6⟩, hN_6, ⟨ra_6, ri_6, rf_6, rp_6, hR_6⟩, ⟨nS_6, hSl_6⟩, hd_6⟩ := hW6
        have hct_6 := hT_6.2.2.1
        have hcf_6 := hF_6.2.2.1
        have hcn_6 := hN_6.2.2.1
        refine lv_istore (lv' := [(8, .int (iI (dAddA T1 cn1 (bS (s0 : Int).toNat) (zS (s0 : Int).toNat) bT zT bF x k0 v0 n0 m0))), (0, .ref (L 0)), (1, .int (iI s0)), (2, .int (iI x)), (3, .int (iI k0)), (4, .long (lI v0)), (6, .int (iI n0)), (7, .int (iI m0))]) hx hb d_Doc_add_38 hl (by decide) rfl (fun ls hl => ?_)
        refine lv_aload_n hx hb d_Doc_add_40 rfl (lv_at hl 1 rfl) ?_
        refine mw_get (ci := 3) (i := 0) (v := .ref (L6 2)) (C := R_Doc) (T := T_Doc) (N := 7) hx hb hts in_Doc hown hK hM hO_6 hfr6.1 rfl 0 (by decide) (hts _ m_185) rfl d_Doc_add_41 ?_
        refine mw_callV (i := 2) (As := []) (rest := []) ⟨hx, hb, hml, hown, hts⟩ hK hM hS rfl hT_6.1 rfl (c_Bytes_clear l D g lo L6 κ6 2 3 2000 nT_6 zT bT hT_6 ) (cwV 0 hts (gV m_358 m_359 m_360 m_52 m_361) rfl rfl rfl (by decide +kernel) ⟨Nat.le_of_ble_eq_true rfl, Nat.le_of_ble_eq_true rfl⟩) rfl hl.1 rfl (Nat.le_of_ble_eq_true rfl) d_Doc_add_44 ⟨Nat.le_of_ble_eq_true rfl, Nat.le_of_ble_eq_true rfl⟩ (fun v7 L7 κ7 H locs hp7 hM hS => ?_)
        obtain ⟨rfl, rfl, hB7, hk7⟩ := hp7
        have hB8 := bxs_keep hF_6 (hk7 4 (by omega) (by omega)) (hk7 5 (by omega) (by omega)) rfl
        have hN9 := nds_keep hN_6 (fun r h1 h2 => hk7 r (by omega) (by omega)) (fun r h1 h2 => rfl) rfl
        have hO10 := dob_keep hO_6 (hk7 0 (by omega) (by omega)) rfl rfl rfl rfl rfl
        have hR11 := rds_keep hR_6 (hk7 14 (by omega) (by omega)) rfl rfl
        have hF12 : ∀ k, k < 8 → bxs g L6 κ7 (16 + 2 * k) (17 + 2 * k) 2000 (nS_6 k) (zS k) (bS k) := fun k h1 => bxs_keep (hSl_6 k h1) (hk7 ((16 + 2 * k)) (by omega) (by omega)) (hk7 ((17 + 2 * k)) (by omega) (by omega)) rfl
        have e13 := (hk7 1 (by omega) (by omega)).trans hA1_6
        refine lv_iload hx hb d_Doc_add_47 (lv_at hl 0 rfl) ?_
        refine W.widen (k := 4) (n := 8020) (Nat.le_of_ble_eq_true rfl) (Nat.le_of_ble_eq_true rfl) ?_
        exact mw_iret hx hb hr hM hS hlocks d_Doc_add_49 (by rw [hTb1]; exact ⟨⟨by rw [hfr6.1], fun r h => by rw [hfr6.2.1 r (by omega)], fun r h => by rw [hk7 r (by omega) (by omega), hfr6.2.2 r (by omega), hk1 r (by omega)]⟩, Or.inr (Or.inl ⟨⟨by assumption, by assumption, hA6⟩, rfl, _, _, ⟨hO10, ⟨fA, e13, hA2_6⟩, ⟨_, hB7⟩, ⟨_, hB8⟩, hN9, ⟨_, _, _, _, hR11⟩, ⟨nS_6, hF12⟩, hd_6⟩⟩)⟩)
      · obtain ⟨zF6, bF6, hW6⟩ := hW6
        have hW6 : dbs g L6 κ6 (-1) fpl zT bT zF6 bF6 T1 cn1 (16 + 2 * (s0 : Int).toNat) (va_up zS (s0 : Int).toNat (dInsZ T1 cn1 (zS (s0 : Int).toNat) (dFresh k0 v0 n0 m0 bF bT).1 x n0)) (va_up bS (s0 : Int).toNat (dInsB T1 cn1 (bS (s0 : Int).toNat) (zS (s0 : Int).toNat) bT (dFresh k0 v0 n0 m0 bF bT).2 (dFresh k0 v0 n0 m0 bF bT).1 x k0 n0)) := hW6
        obtain ⟨hO_6, ⟨fA, hA1_6, hA2_6⟩, ⟨nT_6, hT_6⟩, ⟨nF_6, hF_6⟩, hN_6, ⟨ra_6, ri_6, rf_6, rp_6, hR_6⟩, ⟨nS_6, hSl_6⟩, hd_6⟩ := hW6
        have hct_6 := hT_6.2.2.1
        have hcf_6 := hF_6.2.2.1
        have hcn_6 := hN_6.2.2.1
        refine lv_istore (lv' := [(8, .int (iI (dAddA T1 cn1 (bS (s0 : Int).toNat) (zS (s0 : Int).toNat) bT zT bF x k0 v0 n0 m0))), (0, .ref (L 0)), (1, .int (iI s0)), (2, .int (iI x)), (3, .int (iI k0)), (4, .long (lI v0)), (6, .int (iI n0)), (7, .int (iI m0))]) hx hb d_Doc_add_38 hl (by decide) rfl (fun ls hl => ?_)
        refine lv_aload_n hx hb d_Doc_add_40 rfl (lv_at hl 1 rfl) ?_
        refine mw_get (ci := 3) (i := 0) (v := .ref (L6 2)) (C := R_Doc) (T := T_Doc) (N := 7) hx hb hts in_Doc hown hK hM hO_6 hfr6.1 rfl 0 (by decide) (hts _ m_185) rfl d_Doc_add_41 ?_
        refine mw_callV (i := 2) (As := []) (rest := []) ⟨hx, hb, hml, hown, hts⟩ hK hM hS rfl hT_6.1 rfl (c_Bytes_clear l D g lo L6 κ6 2 3 2000 nT_6 zT bT hT_6 ) (cwV 0 hts (gV m_358 m_359 m_360 m_52 m_361) rfl rfl rfl (by decide +kernel) ⟨Nat.le_of_ble_eq_true rfl, Nat.le_of_ble_eq_true rfl⟩) rfl hl.1 rfl (Nat.le_of_ble_eq_true rfl) d_Doc_add_44 ⟨Nat.le_of_ble_eq_true rfl, Nat.le_of_ble_eq_true rfl⟩ (fun v14 L14 κ14 H locs hp14 hM hS => ?_)
        obtain ⟨rfl, rfl, hB14, hk14⟩ := hp14
        have hB15 := bxs_keep hF_6 (hk14 4 (by omega) (by omega)) (hk14 5 (by omega) (by omega)) rfl
        have hN16 := nds_keep hN_6 (fun r h1 h2 => hk14 r (by omega) (by omega)) (fun r h1 h2 => rfl) rfl
        have hO17 := dob_keep hO_6 (hk14 0 (by omega) (by omega)) rfl rfl rfl rfl rfl
        have hR18 := rds_keep hR_6 (hk14 14 (by omega) (by omega)) rfl rfl
        have hF19 : ∀ k, k < 8 → bxs g L6 κ14 (16 + 2 * k) (17 + 2 * k) 2000 (nS_6 k) (va_up zS (s0 : Int).toNat (dInsZ T1 cn1 (zS (s0 : Int).toNat) (dFresh k0 v0 n0 m0 bF bT).1 x n0) k) (va_up bS (s0 : Int).toNat (dInsB T1 cn1 (bS (s0 : Int).toNat) (zS (s0 : Int).toNat) bT (dFresh k0 v0 n0 m0 bF bT).2 (dFresh k0 v0 n0 m0 bF bT).1 x k0 n0) k) := fun k h1 => bxs_keep (hSl_6 k h1) (hk14 ((16 + 2 * k)) (by omega) (by omega)) (hk14 ((17 + 2 * k)) (by omega) (by omega)) rfl
        have e20 := (hk14 1 (by omega) (by omega)).trans hA1_6
        refine lv_iload hx hb d_Doc_add_47 (lv_at hl 0 rfl) ?_
        refine W.widen (k := 4) (n := 8020) (Nat.le_of_ble_eq_true rfl) (Nat.le_of_ble_eq_true rfl) ?_
        exact mw_iret hx hb hr hM hS hlocks d_Doc_add_49 (by rw [hTb1]; exact ⟨⟨by rw [hfr6.1], fun r h => by rw [hfr6.2.1 r (by omega)], fun r h => by rw [hk14 r (by omega) (by omega), hfr6.2.2 r (by omega), hk1 r (by omega)]⟩, Or.inr (Or.inr (⟨⟨by assumption, by assumption, hA6⟩, rfl, _, _, ⟨hO17, ⟨fA, e20, hA2_6⟩, ⟨_, hB14⟩, ⟨_, hB15⟩, hN16, ⟨_, _, _, _, hR18⟩, ⟨nS_6, hF19⟩, hd_6⟩⟩))⟩)
    · refine lv_iconst (v := iI (-1)) hx hb d_Doc_add_23 rfl ?_
      refine W.widen (k := 4) (n := 8020) (Nat.le_of_ble_eq_true rfl) (Nat.le_of_ble_eq_true rfl) ?_
      exact mw_iret hx hb hr hM hS hlocks d_Doc_add_24 (by rw [hTb1]; exact ⟨⟨rfl, fun r h => rfl, fun r h => by rw [hk1 r (by omega)]⟩, Or.inl ⟨(by first | exact Or.inl (by assumption) | exact Or.inr (by assumption)), rfl, ⟨hO_1, ⟨fA, hA1_1, hA2_1⟩, ⟨_, hT_1⟩, ⟨_, hF_1⟩, hN_1, ⟨_, _, _, _, hR_1⟩, ⟨nS_1, hSl_1⟩, hd_1⟩⟩⟩)
set_option maxHeartbeats 4000000 in
set_option maxRecDepth 100000 in
theorem c_Doc_graft (l : Launch) (D : va_G) (g : Nat → ClassId) (lo : Nat) (L : Nat → Nat) (κ : Nat → Option va_E) (scn fpl : Int) (zT : Nat) (bT : Nat → Int) (zF : Nat) (bF : Nat → Int) (T : Nat → Nat → Int) (cnt d : Nat) (zS : Nat → Nat) (bS : Nat → Nat → Int) (hW : dbs g L κ scn fpl zT bT zF bF T cnt d zS bS) (hsc : -1 ≤ scn ∧ scn < 8) (s0 x t0 y0 n0 : Int) (hs0 : -2147483648 ≤ s0 ∧ s0 < 2147483648) (hx : -2147483648 ≤ x ∧ x < 2147483648) (ht0 : -2147483648 ≤ t0 ∧ t0 < 2147483648) (hy0 : -2147483648 ≤ y0 ∧ y0 < 2147483648) (hn0 : -2147483648 ≤ n0 ∧ n0 < 2147483648) (hOK : dOK scn t0 T zS bS) (hOKg : dGrOK t0 y0 ((dTab scn t0 T cnt d zS bS).2.1) ((dTab scn t0 T cnt d zS bS).2.2.1) (zS t0.toNat)) (hOK2 : dOK (dTab scn t0 T cnt d zS bS).1 s0 ((dTab scn t0 T cnt d zS bS).2.1) zS bS) (hOKa : dLa s0 x ((dTab (dTab scn t0 T cnt d zS bS).1 s0 ((dTab scn t0 T cnt d zS bS).2.1) ((dTab scn t0 T cnt d zS bS).2.2.1) (dTab scn t0 T cnt d zS bS).2.2.2 zS bS).2.1) ((dTab (dTab scn t0 T cnt d zS bS).1 s0 ((dTab scn t0 T cnt d zS bS).2.1) ((dTab scn t0 T cnt d zS bS).2.2.1) (dTab scn t0 T cnt d zS bS).2.2.2 zS bS).2.2.1) (zS s0.toNat)) : Met l y_Doc_graft w_Doc_graft ({ frames := 6, cells := 2, slots := 4010, locals := 141 }) (mwP D vwCl (tyL g) lo L κ [.ref (L 0), .int (iI s0), .int (iI x), .int (iI t0), .int (iI y0), .int (iI n0)]) (mwQ D vwCl lo (fun v L1 κ1 => dFr L L1 κ κ1 ∧ ((bHas zT n0 0 = false ∧ v = some (.int (iI (-1))) ∧ dbs g L1 κ1 scn fpl zT bT zF bF T cnt d zS bS) ∨ ((bHas zT n0 0 = true ∧ dHas t0 y0 ((dTab scn t0 T cnt d zS bS).2.2.1) = false) ∧ v = some (.int (iI (-1))) ∧ dbs g L1 κ1 ((dTab scn t0 T cnt d zS bS).1) fpl zT bT zF bF ((dTab scn t0 T cnt d zS bS).2.1) ((dTab scn t0 T cnt d zS bS).2.2.1) ((dTab scn t0 T cnt d zS bS).2.2.2) zS bS) ∨ ((bHas zT n0 0 = true ∧ dHas t0 y0 ((dTab scn t0 T cnt d zS bS).2.2.1) = true ∧ dMay s0 x ((dTab (dTab scn t0 T cnt d zS bS).1 s0 ((dTab scn t0 T cnt d zS bS).2.1) ((dTab scn t0 T cnt d zS bS).2.2.1) (dTab scn t0 T cnt d zS bS).2.2.2 zS bS).2.1) ((dTab (dTab scn t0 T cnt d zS bS).1 s0 ((dTab scn t0 T cnt d zS bS).2.1) ((dTab scn t0 T cnt d zS bS).2.2.1) (dTab scn t0 T cnt d zS bS).2.2.2 zS bS).2.2.1) = false) ∧ v = some (.int (iI (-1))) ∧ ∃ (zF1 : Nat) (bF1 : Nat → Int), dbs g L1 κ1 ((dTab (dTab scn t0 T cnt d zS bS).1 s0 ((dTab scn t0 T cnt d zS bS).2.1) ((dTab scn t0 T cnt d zS bS).2.2.1) (dTab scn t0 T cnt d zS bS).2.2.2 zS bS).1) fpl zT bT zF1 bF1 ((dTab (dTab scn t0 T cnt d zS bS).1 s0 ((dTab scn t0 T cnt d zS bS).2.1) ((dTab scn t0 T cnt d zS bS).2.2.1) (dTab scn t0 T cnt d zS bS).2.2.2 zS bS).2.1) ((dTab (dTab scn t0 T cnt d zS bS).1 s0 ((dTab scn t0 T cnt d zS bS).2.1) ((dTab scn t0 T cnt d zS bS).2.2.1) (dTab scn t0 T cnt d zS bS).2.2.2 zS bS).2.2.1) ((dTab (dTab scn t0 T cnt d zS bS).1 s0 ((dTab scn t0 T cnt d zS bS).2.1) ((dTab scn t0 T cnt d zS bS).2.2.1) (dTab scn t0 T cnt d zS bS).2.2.2 zS bS).2.2.2) zS bS) ∨ ((bHas zT n0 0 = true ∧ dHas t0 y0 ((dTab scn t0 T cnt d zS bS).2.2.1) = true ∧ dMay s0 x ((dTab (dTab scn t0 T cnt d zS bS).1 s0 ((dTab scn t0 T cnt d zS bS).2.1) ((dTab scn t0 T cnt d zS bS).2.2.1) (dTab scn t0 T cnt d zS bS).2.2.2 zS bS).2.1) ((dTab (dTab scn t0 T cnt d zS bS).1 s0 ((dTab scn t0 T cnt d zS bS).2.1) ((dTab scn t0 T cnt d zS bS).2.2.1) (dTab scn t0 T cnt d zS bS).2.2.2 zS bS).2.2.1) = true ∧ dGrA ((dTab (dTab scn t0 T cnt d zS bS).1 s0 ((dTab scn t0 T cnt d zS bS).2.1) ((dTab scn t0 T cnt d zS bS).2.2.1) (dTab scn t0 T cnt d zS bS).2.2.2 zS bS).2.1) ((dTab (dTab scn t0 T cnt d zS bS).1 s0 ((dTab scn t0 T cnt d zS bS).2.1) ((dTab scn t0 T cnt d zS bS).2.2.1) (dTab scn t0 T cnt d zS bS).2.2.2 zS bS).2.2.1) (bS s0.toNat) (zS s0.toNat) bT zT (0 + (nCell ((dTab scn t0 T cnt d zS bS).2.1) ((dTab scn t0 T cnt d zS bS).2.2.1) 5 y0).toNat) x n0 (nLevels ((dTab scn t0 T cnt d zS bS).2.1) ((dTab scn t0 T cnt d zS bS).2.2.1) y0) < 0) ∧ v = some (.int (iI (dGrA ((dTab (dTab scn t0 T cnt d zS bS).1 s0 ((dTab scn t0 T cnt d zS bS).2.1) ((dTab scn t0 T cnt d zS bS).2.2.1) (dTab scn t0 T cnt d zS bS).2.2.2 zS bS).2.1) ((dTab (dTab scn t0 T cnt d zS bS).1 s0 ((dTab scn t0 T cnt d zS bS).2.1) ((dTab scn t0 T cnt d zS bS).2.2.1) (dTab scn t0 T cnt d zS bS).2.2.2 zS bS).2.2.1) (bS s0.toNat) (zS s0.toNat) bT zT (0 + (nCell ((dTab scn t0 T cnt d zS bS).2.1) ((dTab scn t0 T cnt d zS bS).2.2.1) 5 y0).toNat) x n0 (nLevels ((dTab scn t0 T cnt d zS bS).2.1) ((dTab scn t0 T cnt d zS bS).2.2.1) y0)))) ∧ ∃ (zF1 : Nat) (bF1 : Nat → Int), dbs g L1 κ1 ((dTab (dTab scn t0 T cnt d zS bS).1 s0 ((dTab scn t0 T cnt d zS bS).2.1) ((dTab scn t0 T cnt d zS bS).2.2.1) (dTab scn t0 T cnt d zS bS).2.2.2 zS bS).1) fpl 0 bT zF1 bF1 ((dTab (dTab scn t0 T cnt d zS bS).1 s0 ((dTab scn t0 T cnt d zS bS).2.1) ((dTab scn t0 T cnt d zS bS).2.2.1) (dTab scn t0 T cnt d zS bS).2.2.2 zS bS).2.1) ((dTab (dTab scn t0 T cnt d zS bS).1 s0 ((dTab scn t0 T cnt d zS bS).2.1) ((dTab scn t0 T cnt d zS bS).2.2.1) (dTab scn t0 T cnt d zS bS).2.2.2 zS bS).2.2.1) ((dTab (dTab scn t0 T cnt d zS bS).1 s0 ((dTab scn t0 T cnt d zS bS).2.1) ((dTab scn t0 T cnt d zS bS).2.2.1) (dTab scn t0 T cnt d zS bS).2.2.2 zS bS).2.2.2) zS bS) ∨ ((bHas zT n0 0 = true ∧ dHas t0 y0 ((dTab scn t0 T cnt d zS bS).2.2.1) = true ∧ dMay s0 x ((dTab (dTab scn t0 T cnt d zS bS).1 s0 ((dTab scn t0 T cnt d zS bS).2.1) ((dTab scn t0 T cnt d zS bS).2.2.1) (dTab scn t0 T cnt d zS bS).2.2.2 zS bS).2.1) ((dTab (dTab scn t0 T cnt d zS bS).1 s0 ((dTab scn t0 T cnt d zS bS).2.1) ((dTab scn t0 T cnt d zS bS).2.2.1) (dTab scn t0 T cnt d zS bS).2.2.2 zS bS).2.2.1) = true ∧ 0 ≤ dGrA ((dTab (dTab scn t0 T cnt d zS bS).1 s0 ((dTab scn t0 T cnt d zS bS).2.1) ((dTab scn t0 T cnt d zS bS).2.2.1) (dTab scn t0 T cnt d zS bS).2.2.2 zS bS).2.1) ((dTab (dTab scn t0 T cnt d zS bS).1 s0 ((dTab scn t0 T cnt d zS bS).2.1) ((dTab scn t0 T cnt d zS bS).2.2.1) (dTab scn t0 T cnt d zS bS).2.2.2 zS bS).2.2.1) (bS s0.toNat) (zS s0.toNat) bT zT (0 + (nCell ((dTab scn t0 T cnt d zS bS).2.1) ((dTab scn t0 T cnt d zS bS).2.2.1) 5 y0).toNat) x n0 (nLevels ((dTab scn t0 T cnt d zS bS).2.1) ((dTab scn t0 T cnt d zS bS).2.2.1) y0)) ∧ v = some (.int (iI (dGrA ((dTab (dTab scn t0 T cnt d zS bS).1 s0 ((dTab scn t0 T cnt d zS bS).2.1) ((dTab scn t0 T cnt d zS bS).2.2.1) (dTab scn t0 T cnt d zS bS).2.2.2 zS bS).2.1) ((dTab (dTab scn t0 T cnt d zS bS).1 s0 ((dTab scn t0 T cnt d zS bS).2.1) ((dTab scn t0 T cnt d zS bS).2.2.1) (dTab scn t0 T cnt d zS bS).2.2.2 zS bS).2.2.1) (bS s0.toNat) (zS s0.toNat) bT zT (0 + (nCell ((dTab scn t0 T cnt d zS bS).2.1) ((dTab scn t0 T cnt d zS bS).2.2.1) 5 y0).toNat) x n0 (nLevels ((dTab scn t0 T cnt d zS bS).2.1) ((dTab scn t0 T cnt d zS bS).2.2.1) y0)))) ∧ ∃ (zF1 : Nat) (bF1 : Nat → Int), dbs g L1 κ1 (-1) fpl 0 bT zF1 bF1 ((dTab (dTab scn t0 T cnt d zS bS).1 s0 ((dTab scn t0 T cnt d zS bS).2.1) ((dTab scn t0 T cnt d zS bS).2.2.1) (dTab scn t0 T cnt d zS bS).2.2.2 zS bS).2.1) ((dTab (dTab scn t0 T cnt d zS bS).1 s0 ((dTab scn t0 T cnt d zS bS).2.1) ((dTab scn t0 T cnt d zS bS).2.2.1) (dTab scn t0 T cnt d zS bS).2.2.2 zS bS).2.2.1) ((dTab (dTab scn t0 T cnt d zS bS).1 s0 ((dTab scn t0 T cnt d zS bS).2.1) ((dTab scn t0 T cnt d zS bS).2.2.1) (dTab scn t0 T cnt d zS bS).2.2.2 zS bS).2.2.2) (va_up zS s0.toNat (dInsZ ((dTab (dTab scn t0 T cnt d zS bS).1 s0 ((dTab scn t0 T cnt d zS bS).2.1) ((dTab scn t0 T cnt d zS bS).2.2.1) (dTab scn t0 T cnt d zS bS).2.2.2 zS bS).2.1) ((dTab (dTab scn t0 T cnt d zS bS).1 s0 ((dTab scn t0 T cnt d zS bS).2.1) ((dTab scn t0 T cnt d zS bS).2.2.1) (dTab scn t0 T cnt d zS bS).2.2.2 zS bS).2.2.1) (zS s0.toNat) (0 + (nCell ((dTab scn t0 T cnt d zS bS).2.1) ((dTab scn t0 T cnt d zS bS).2.2.1) 5 y0).toNat) x n0)) (va_up bS s0.toNat (dInsB ((dTab (dTab scn t0 T cnt d zS bS).1 s0 ((dTab scn t0 T cnt d zS bS).2.1) ((dTab scn t0 T cnt d zS bS).2.2.1) (dTab scn t0 T cnt d zS bS).2.2.2 zS bS).2.1) ((dTab (dTab scn t0 T cnt d zS bS).1 s0 ((dTab scn t0 T cnt d zS bS).2.1) ((dTab scn t0 T cnt d zS bS).2.2.1) (dTab scn t0 T cnt d zS bS).2.2.2 zS bS).2.2.1) (bS s0.toNat) (zS s0.toNat) bT (bApp bF 0 (bS t0.toNat) (nCell ((dTab scn t0 T cnt d zS bS).2.1) ((dTab scn t0 T cnt d zS bS).2.2.1) 4 y0) (nCell ((dTab scn t0 T cnt d zS bS).2.1) ((dTab scn t0 T cnt d zS bS).2.2.1) 5 y0)) (0 + (nCell ((dTab scn t0 T cnt d zS bS).2.1) ((dTab scn t0 T cnt d zS bS).2.2.1) 5 y0).toNat) x (nCell ((dTab scn t0 T cnt d zS bS).2.1) ((dTab scn t0 T cnt d zS bS).2.2.1) 0 y0) n0)))))) 2 4010 (fun q => lo ≤ q) := by
  obtain ⟨hO, ⟨fA, hA1, hA2⟩, ⟨nT, hT⟩, ⟨nF, hF⟩, hN, ⟨ra, ri, rf, rp, hR⟩, ⟨nS, hSl⟩, hd⟩ := hW
  have hct := hT.2.2.1
  have hcf := hF.2.2.1
  have hcn := hN.2.2.1
  refine Met.ofW (cc := b_Doc_graft) (maxL := 9) (ret := (Option.some Jvm.ClassFile.FieldType.int)) (by decide) rfl ?_
  intro p e s m args below meth c s₁ B hml hpre
  obtain ⟨hargs, hM, hK⟩ := hpre
  have hx := B.exec
  have hb := B.bytes
  have hr := B.returns
  have hts : ∀ w ∈ wA, w.before args s = true := fun w h => atoms_spec (ws := w_Doc_graft) B.pre w (List.mem_cons_of_mem _ h)
  have hown : s.vm.findClass R_Doc = some m.cls := findClass_of_methodNamed B.named
  have hlocks := B.notSynchronized
  have hS : va_S (fun q => lo ≤ q) s.heap s.heap [] := va_S.rf
  obtain ⟨ls, hls, hl⟩ := mw_entry (m := m) [.ref (L 0), .int (iI s0), .int (iI x), .int (iI t0), .int (iI y0), .int (iI n0)] (n := 9) (Nat.le_of_ble_eq_true rfl) hargs
  refine W.eq hls ?_
  have hl : lv_has ls 9 [(0, .ref (L 0)), (1, .int (iI s0)), (2, .int (iI x)), (3, .int (iI t0)), (4, .int (iI y0)), (5, .int (iI n0))] := hl
  refine lv_aload_n hx hb d_Doc_graft_0 rfl (lv_at hl 0 rfl) ?_
  refine mw_get (ci := 3) (i := 0) (v := .ref (L 2)) (C := R_Doc) (T := T_Doc) (N := 7) hx hb hts in_Doc hown hK hM hO rfl rfl 0 (by decide) (hts _ m_185) rfl d_Doc_graft_1 ?_
  refine lv_iload hx hb d_Doc_graft_4 (lv_at hl 5 rfl) ?_
  refine lv_iconst (v := iI (0)) hx hb d_Doc_graft_6 rfl ?_
  refine mw_rdV (i := 2) (As := [.int (iI n0), .int (iI 0)]) (rest := []) ⟨hx, hb, hml, hown, hts⟩ hK hM hS rfl hT.1 rfl (c_Bytes_has l D g lo L κ 2 3 2000 nT zT bT hT n0 0 (by omega) (by omega)) (cwV 2 hts (gV m_226 m_227 m_228 m_52 m_229) rfl rfl rfl (by decide +kernel) ⟨Nat.le_of_ble_eq_true rfl, Nat.le_of_ble_eq_true rfl⟩) rfl hl.1 rfl (Nat.le_of_ble_eq_true rfl) d_Doc_graft_7 ⟨Nat.le_of_ble_eq_true rfl, Nat.le_of_ble_eq_true rfl⟩ (fun H locs hM hS => ?_)
  refine ia_ifz_eq (x := bHas zT n0 0) (tgt := 23) hx hb d_Doc_graft_10 (by decide) (fun c1 => ?_) (fun c1 => ?_)
  · refine lv_iconst (v := iI (-1)) hx hb d_Doc_graft_23 rfl ?_
    refine W.widen (k := 2) (n := 4010) (Nat.le_of_ble_eq_true rfl) (Nat.le_of_ble_eq_true rfl) ?_
    exact mw_iret hx hb hr hM hS hlocks d_Doc_graft_24 ⟨⟨rfl, fun r h => rfl, fun r h => rfl⟩, Or.inl ⟨by assumption, rfl, ⟨hO, ⟨fA, hA1, hA2⟩, ⟨_, hT⟩, ⟨_, hF⟩, hN, ⟨_, _, _, _, hR⟩, ⟨nS, hSl⟩, hd⟩⟩⟩
  · have hb1 := bHas_iff.mp (by assumption)
    refine lv_aload_n hx hb d_Doc_graft_13 rfl (lv_at hl 0 rfl) ?_
    refine lv_iload_n hx hb d_Doc_graft_14 rfl (lv_at hl 3 rfl) ?_
    refine lv_iload hx hb d_Doc_graft_15 (lv_at hl 4 rfl) ?_
    refine mw_callV (i := 0) (As := [.int (iI t0), .int (iI y0)]) (rest := []) ⟨hx, hb, hml, hown, hts⟩ hK hM hS rfl hO rfl (c_Doc_hasNode l D g lo L κ scn fpl zT bT zF bF T cnt d zS bS ⟨hO, ⟨fA, hA1, hA2⟩, ⟨_, hT⟩, ⟨_, hF⟩, hN, ⟨_, _, _, _, hR⟩, ⟨nS, hSl⟩, hd⟩ (by omega) t0 y0 (by omega) (by omega) hOK) (cwV 2 hts (gV m_378 m_380 m_8 m_51 m_381) rfl rfl rfl (by decide +kernel) ⟨Nat.le_of_ble_eq_true rfl, Nat.le_of_ble_eq_true rfl⟩) rfl hl.1 rfl (Nat.le_of_ble_eq_true rfl) d_Doc_graft_17 ⟨Nat.le_of_ble_eq_true rfl, Nat.le_of_ble_eq_true rfl⟩ (fun v2 L2 κ2 H locs hp2 hM hS => ?_)
    obtain ⟨sc2, T2, cn2, d2, hTb2⟩ : ∃ (za : Int) (zb : Nat → Nat → Int) (zc : Nat) (zd : Nat), dTab scn t0 T cnt d zS bS = (za, zb, zc, zd) := ⟨_, _, _, _, rfl⟩
    have hsc2 := dTab_r hTb2 (by omega)
    rw [hTb2] at hp2
    obtain ⟨rfl, rfl, hW2, hk2⟩ := hp2
    have hW2 : dbs g L κ2 sc2 fpl zT bT zF bF T2 cn2 d2 zS bS := hW2
    obtain ⟨hO_2, ⟨fA, hA1_2, hA2_2⟩, ⟨nT_2, hT_2⟩, ⟨nF_2, hF_2⟩, hN_2, ⟨ra_2, ri_2, rf_2, rp_2, hR_2⟩, ⟨nS_2, hSl_2⟩, hd_2⟩ := hW2
    have hct_2 := hT_2.2.2.1
    have hcf_2 := hF_2.2.2.1
    have hcn_2 := hN_2.2.2.1
    refine ia_ifz_ne (x := dHas t0 y0 cn2) (tgt := 25) hx hb d_Doc_graft_20 (by decide) (fun c3 => ?_) (fun c3 => ?_)
    · rw [hTb2] at hOKg
      rw [hTb2] at hOK2
      rw [hTb2] at hOKa
      have hOKh : dGrOK t0 y0 T2 cn2 (zS t0.toNat) := hOKg
      have hgr := hOKh (by assumption)
      have hOK3 : dOK sc2 s0 T2 zS bS := hOK2
      have hOKb : dLa s0 x (dTab sc2 s0 T2 cn2 d2 zS bS).2.1 (dTab sc2 s0 T2 cn2 d2 zS bS).2.2.1 (zS s0.toNat) := hOKa
      clear hOKg hOK2 hOKa
      have r4 := nCell_r (cnt := cn2) hN_2.2.2.2.1 4 y0
      have hh1 := dHas_iff.mp (by assumption)
      obtain ⟨hs2, hd2⟩ := dTab_d hTb2 hh1.1 hd.1
      subst hd2
      have hs2 := hs2.symm
      subst hs2
      have hB5 := hSl_2 (t0 : Int).toNat (by omega)
      have r6 := hB5.2.2.1
      refine lv_aload_n hx hb d_Doc_graft_25 rfl (lv_at hl 0 rfl) ?_
      refine mw_get (ci := 3) (i := 0) (v := .ref (L 6)) (C := R_Doc) (T := T_Doc) (N := 7) hx hb hts in_Doc hown hK hM hO_2 rfl rfl 3 (by decide) (hts _ m_188) rfl d_Doc_graft_26 ?_
      refine lv_iload hx hb d_Doc_graft_29 (lv_at hl 4 rfl) ?_
      refine mw_rdV (i := 6) (As := [.int (iI y0)]) (rest := []) ⟨hx, hb, hml, hown, hts⟩ hK hM hS rfl hN_2.1 rfl (c_Nodes_kind l D g lo L κ2 T2 cn2 (16 + 2 * (t0 : Int).toNat) hN_2 y0 (by omega)) (cwV 1 hts (gV m_421 m_313 m_314 m_56 m_315) rfl rfl rfl (by decide +kernel) ⟨Nat.le_of_ble_eq_true rfl, Nat.le_of_ble_eq_true rfl⟩) rfl hl.1 rfl (Nat.le_of_ble_eq_true rfl) d_Doc_graft_31 ⟨Nat.le_of_ble_eq_true rfl, Nat.le_of_ble_eq_true rfl⟩ (fun H locs hM hS => ?_)
      have r7 := nCell_r (cnt := cn2) hN_2.2.2.2.1 0 y0
      refine lv_istore (lv' := [(6, .int (iI (nCell T2 cn2 0 y0))), (0, .ref (L 0)), (1, .int (iI s0)), (2, .int (iI x)), (3, .int (iI t0)), (4, .int (iI y0)), (5, .int (iI n0))]) hx hb d_Doc_graft_34 hl (by decide) rfl (fun ls hl => ?_)
      refine lv_aload_n hx hb d_Doc_graft_36 rfl (lv_at hl 1 rfl) ?_
      refine mw_get (ci := 3) (i := 0) (v := .ref (L 6)) (C := R_Doc) (T := T_Doc) (N := 7) hx hb hts in_Doc hown hK hM hO_2 rfl rfl 3 (by decide) (hts _ m_188) rfl d_Doc_graft_37 ?_
      refine lv_iload hx hb d_Doc_graft_40 (lv_at hl 5 rfl) ?_
      refine mw_rdV (i := 6) (As := [.int (iI y0)]) (rest := []) ⟨hx, hb, hml, hown, hts⟩ hK hM hS rfl hN_2.1 rfl (c_Nodes_levels l D g lo L κ2 T2 cn2 (16 + 2 * (t0 : Int).toNat) hN_2 y0 (by omega)) (cwV 1 hts (gV m_518 m_519 m_520 m_56 m_521) rfl rfl rfl (by decide +kernel) ⟨Nat.le_of_ble_eq_true rfl, Nat.le_of_ble_eq_true rfl⟩) rfl hl.1 rfl (Nat.le_of_ble_eq_true rfl) d_Doc_graft_42 ⟨Nat.le_of_ble_eq_true rfl, Nat.le_of_ble_eq_true rfl⟩ (fun H locs hM hS => ?_)
      refine lv_istore (lv' := [(7, .int (iI (nLevels T2 cn2 y0))), (6, .int (iI (nCell T2 cn2 0 y0))), (0, .ref (L 0)), (1, .int (iI s0)), (2, .int (iI x)), (3, .int (iI t0)), (4, .int (iI y0)), (5, .int (iI n0))]) hx hb d_Doc_graft_45 hl (by decide) rfl (fun ls hl => ?_)
      refine lv_aload_n hx hb d_Doc_graft_47 rfl (lv_at hl 2 rfl) ?_
      refine mw_get (ci := 3) (i := 0) (v := .ref (L 4)) (C := R_Doc) (T := T_Doc) (N := 7) hx hb hts in_Doc hown hK hM hO_2 rfl rfl 2 (by decide) (hts _ m_187) rfl d_Doc_graft_48 ?_
      refine mw_callV (i := 4) (As := []) (rest := []) ⟨hx, hb, hml, hown, hts⟩ hK hM hS rfl hF_2.1 rfl (c_Bytes_clear l D g lo L κ2 4 5 2005 nF_2 zF bF hF_2 ) (cwV 0 hts (gV m_358 m_359 m_360 m_52 m_361) rfl rfl rfl (by decide +kernel) ⟨Nat.le_of_ble_eq_true rfl, Nat.le_of_ble_eq_true rfl⟩) rfl hl.1 rfl (Nat.le_of_ble_eq_true rfl) d_Doc_graft_51 ⟨Nat.le_of_ble_eq_true rfl, Nat.le_of_ble_eq_true rfl⟩ (fun v8 L8 κ8 H locs hp8 hM hS => ?_)
      obtain ⟨rfl, rfl, hB8, hk8⟩ := hp8
      have hB9 := bxs_keep hT_2 (hk8 2 (by omega) (by omega)) (hk8 3 (by omega) (by omega)) rfl
      have hN10 := nds_keep hN_2 (fun r h1 h2 => hk8 r (by omega) (by omega)) (fun r h1 h2 => rfl) rfl
      have hB11 := bxs_keep hB5 (hk8 (16 + 2 * (t0 : Int).toNat) (by omega) (by omega)) (hk8 (17 + 2 * (t0 : Int).toNat) (by omega) (by omega)) rfl
      have hO12 := dob_keep hO_2 (hk8 0 (by omega) (by omega)) rfl rfl rfl rfl rfl
      have hR13 := rds_keep hR_2 (hk8 14 (by omega) (by omega)) rfl rfl
      have hF14 : ∀ k, k < 8 → bxs g L κ8 (16 + 2 * k) (17 + 2 * k) 2000 (nS_2 k) (zS k) (bS k) := fun k h1 => bxs_keep (hSl_2 k h1) (hk8 ((16 + 2 * k)) (by omega) (by omega)) (hk8 ((17 + 2 * k)) (by omega) (by omega)) rfl
      have e15 := (hk8 1 (by omega) (by omega)).trans hA1_2
      refine lv_aload_n hx hb d_Doc_graft_54 rfl (lv_at hl 2 rfl) ?_
      refine mw_get (ci := 3) (i := 0) (v := .ref (L 4)) (C := R_Doc) (T := T_Doc) (N := 7) hx hb hts in_Doc hown hK hM hO12 rfl rfl 2 (by decide) (hts _ m_187) rfl d_Doc_graft_55 ?_
      refine lv_aload_n hx hb d_Doc_graft_58 rfl (lv_at hl 2 rfl) ?_
      refine mw_get (ci := 3) (i := 0) (v := .ref (L 1)) (C := R_Doc) (T := T_Doc) (N := 7) hx hb hts in_Doc hown hK hM hO12 rfl rfl 1 (by decide) (hts _ m_186) rfl d_Doc_graft_59 ?_
      refine lv_iload_n hx hb d_Doc_graft_62 rfl (lv_at hl 5 rfl) ?_
      refine mw_aldq (a := t0) (i := 1) hx hb hK hM 2 e15 rfl rfl (by omega) (by omega) (hA2_2 (t0 : Int).toNat (by omega)) d_Doc_graft_63 ?_
      refine lv_aload_n hx hb d_Doc_graft_64 rfl (lv_at hl 2 rfl) ?_
      refine mw_get (ci := 3) (i := 0) (v := .ref (L 6)) (C := R_Doc) (T := T_Doc) (N := 7) hx hb hts in_Doc hown hK hM hO12 rfl rfl 3 (by decide) (hts _ m_188) rfl d_Doc_graft_65 ?_
      refine lv_iload hx hb d_Doc_graft_68 (lv_at hl 6 rfl) ?_
      refine mw_rdV (i := 6) (As := [.int (iI y0)]) (rest := [.ref (L (16 + 2 * (t0 : Int).toNat)), .ref (L 4)]) ⟨hx, hb, hml, hown, hts⟩ hK hM hS rfl hN10.1 rfl (c_Nodes_value l D g lo L κ8 T2 cn2 (16 + 2 * (t0 : Int).toNat) hN10 y0 (by omega)) (cwV 1 hts (gV m_442 m_443 m_444 m_56 m_445) rfl rfl rfl (by decide +kernel) ⟨Nat.le_of_ble_eq_true rfl, Nat.le_of_ble_eq_true rfl⟩) rfl hl.1 rfl (Nat.le_of_ble_eq_true rfl) d_Doc_graft_70 ⟨Nat.le_of_ble_eq_true rfl, Nat.le_of_ble_eq_true rfl⟩ (fun H locs hM hS => ?_)
      have r16 := nCell_r (cnt := cn2) hN10.2.2.2.1 4 y0
      refine lv_aload_n hx hb d_Doc_graft_73 rfl (lv_at hl 2 rfl) ?_
      refine mw_get (ci := 3) (i := 0) (v := .ref (L 6)) (C := R_Doc) (T := T_Doc) (N := 7) hx hb hts in_Doc hown hK hM hO12 rfl rfl 3 (by decide) (hts _ m_188) rfl d_Doc_graft_74 ?_
      refine lv_iload hx hb d_Doc_graft_77 (lv_at hl 6 rfl) ?_
      refine mw_rdV (i := 6) (As := [.int (iI y0)]) (rest := [.int (iI (nCell T2 cn2 4 y0)), .ref (L (16 + 2 * (t0 : Int).toNat)), .ref (L 4)]) ⟨hx, hb, hml, hown, hts⟩ hK hM hS rfl hN10.1 rfl (c_Nodes_valueLength l D g lo L κ8 T2 cn2 (16 + 2 * (t0 : Int).toNat) hN10 y0 (by omega)) (cwV 1 hts (gV m_429 m_430 m_431 m_56 m_432) rfl rfl rfl (by decide +kernel) ⟨Nat.le_of_ble_eq_true rfl, Nat.le_of_ble_eq_true rfl⟩) rfl hl.1 rfl (Nat.le_of_ble_eq_true rfl) d_Doc_graft_79 ⟨Nat.le_of_ble_eq_true rfl, Nat.le_of_ble_eq_true rfl⟩ (fun H locs hM hS => ?_)
      have r17 := nCell_r (cnt := cn2) hN10.2.2.2.1 5 y0
      refine mw_callV (i := 4) (As := [.ref (L (16 + 2 * (t0 : Int).toNat)), .int (iI (nCell T2 cn2 4 y0)), .int (iI (nCell T2 cn2 5 y0))]) (rest := []) ⟨hx, hb, hml, hown, hts⟩ hK hM hS rfl hB8.1 rfl (c_Bytes_appendFrom l D g lo L κ8 4 5 2005 nF_2 0 bF hB8 (16 + 2 * (t0 : Int).toNat) (17 + 2 * (t0 : Int).toNat) 2000 (nS_2 (t0 : Int).toNat) (zS (t0 : Int).toNat) (bS (t0 : Int).toNat) hB11 (nCell T2 cn2 4 y0) (nCell T2 cn2 5 y0) (by omega) (by omega)) (cwV 3 hts (gV m_362 m_363 m_364 m_52 m_365) rfl rfl rfl (by decide +kernel) ⟨Nat.le_of_ble_eq_true rfl, Nat.le_of_ble_eq_true rfl⟩) rfl hl.1 rfl (Nat.le_of_ble_eq_true rfl) d_Doc_graft_82 ⟨Nat.le_of_ble_eq_true rfl, Nat.le_of_ble_eq_true rfl⟩ (fun v18 L18 κ18 H locs hp18 hM hS => ?_)
      obtain ⟨n18, rfl, hL18, hB18, hk18⟩ := hp18
      have hB18 : bxs g L18 κ18 4 5 2005 n18 (0 + (nCell T2 cn2 5 y0).toNat) (bApp bF 0 (bS (t0 : Int).toNat) (nCell T2 cn2 4 y0) (nCell T2 cn2 5 y0)) := hB18
      have r19 := hB18.2.2.1
      have hB20 := bxs_keep hB9 (hk18 2 (by omega) (by omega)) (hk18 3 (by omega) (by omega)) (hL18 3 (by omega))
      have hN21 := nds_keep hN10 (fun r h1 h2 => hk18 r (by omega) (by omega)) (fun r h1 h2 => hL18 r (by omega)) (hL18 (16 + 2 * (t0 : Int).toNat) (by omega))
      have hB22 := bxs_keep hB11 (hk18 (16 + 2 * (t0 : Int).toNat) (by omega) (by omega)) (hk18 (17 + 2 * (t0 : Int).toNat) (by omega) (by omega)) (hL18 (17 + 2 * (t0 : Int).toNat) (by omega))
      have hO23 := dob_keep hO12 (hk18 0 (by omega) (by omega)) (hL18 2 (by omega)) (hL18 1 (by omega)) (hL18 4 (by omega)) (hL18 6 (by omega)) (hL18 14 (by omega))
      have hR24 := rds_keep hR13 (hk18 14 (by omega) (by omega)) (hL18 6 (by omega)) (hL18 2 (by omega))
      have hF25 : ∀ k, k < 8 → bxs g L18 κ18 (16 + 2 * k) (17 + 2 * k) 2000 (nS_2 k) (zS k) (bS k) := fun k h1 => bxs_keep (hF14 k h1) (hk18 ((16 + 2 * k)) (by omega) (by omega)) (hk18 ((17 + 2 * k)) (by omega) (by omega)) (hL18 ((17 + 2 * k)) (by omega))
      have hA26 : ∀ k, k < 8 → fA k = some (L18 (16 + 2 * k)) := fun k h1 => by rw [hL18 ((16 + 2 * k)) (by omega)]; exact hA2_2 k h1
      have e27 := (hk18 1 (by omega) (by omega)).trans e15
      refine lv_aload_n hx hb d_Doc_graft_85 rfl (lv_at hl 2 rfl) ?_
      refine lv_iload_n hx hb d_Doc_graft_86 rfl (lv_at hl 3 rfl) ?_
      refine lv_iload_n hx hb d_Doc_graft_87 rfl (lv_at hl 4 rfl) ?_
      refine mw_callV (i := 0) (As := [.int (iI s0), .int (iI x)]) (rest := []) ⟨hx, hb, hml, hown, hts⟩ hK hM hS (hL18 0 (by omega)) hO23 rfl (c_Doc_mayHold l D g lo L18 κ18 t0 fpl zT bT (0 + (nCell T2 cn2 5 y0).toNat) (bApp bF 0 (bS (t0 : Int).toNat) (nCell T2 cn2 4 y0) (nCell T2 cn2 5 y0)) T2 cn2 (16 + 2 * (t0 : Int).toNat) zS bS ⟨hO23, ⟨fA, e27, hA26⟩, ⟨_, hB20⟩, ⟨_, hB18⟩, hN21, ⟨_, _, _, _, hR24⟩, ⟨nS_2, hF25⟩, hd_2⟩ (by omega) s0 x (by omega) (by omega) hOK3) (cwV 2 hts (gV m_462 m_464 m_9 m_51 m_465) rfl rfl rfl (by decide +kernel) ⟨Nat.le_of_ble_eq_true rfl, Nat.le_of_ble_eq_true rfl⟩) rfl hl.1 rfl (Nat.le_of_ble_eq_true rfl) d_Doc_graft_88 ⟨Nat.le_of_ble_eq_true rfl, Nat.le_of_ble_eq_true rfl⟩ (fun v28 L28 κ28 H locs hp28 hM hS => ?_)
      obtain ⟨sc28, T28, cn28, d28, hTb28⟩ : ∃ (za : Int) (zb : Nat → Nat → Int) (zc : Nat) (zd : Nat), dTab t0 s0 T2 cn2 (16 + 2 * (t0 : Int).toNat) zS bS = (za, zb, zc, zd) := ⟨_, _, _, _, rfl⟩
      have hsc28 := dTab_r hTb28 (by omega)
      rw [hTb28] at hp28
      obtain ⟨rfl, rfl, hW28, hk28⟩ := hp28
      have hW28 : dbs g L18 κ28 sc28 fpl zT bT (0 + (nCell T2 cn2 5 y0).toNat) (bApp bF 0 (bS (t0 : Int).toNat) (nCell T2 cn2 4 y0) (nCell T2 cn2 5 y0)) T28 cn28 d28 zS bS := hW28
      obtain ⟨hO_28, ⟨fA, hA1_28, hA2_28⟩, ⟨nT_28, hT_28⟩, ⟨nF_28, hF_28⟩, hN_28, ⟨ra_28, ri_28, rf_28, rp_28, hR_28⟩, ⟨nS_28, hSl_28⟩, hd_28⟩ := hW28
      have hct_28 := hT_28.2.2.1
      have hcf_28 := hF_28.2.2.1
      have hcn_28 := hN_28.2.2.1
      refine ia_ifz_ne (x := dMay s0 x T28 cn28) (tgt := 96) hx hb d_Doc_graft_91 (by decide) (fun c29 => ?_) (fun c29 => ?_)
      · have hhas := dMay_has (by assumption)
        rw [hTb28] at hOKb
        have hOKe : dLa s0 x T28 cn28 (zS s0.toNat) := hOKb
        have hla := hOKe hhas
        clear hOKb
        have hh2 := dHas_iff.mp hhas
        obtain ⟨hs2, hd2⟩ := dTab_d hTb28 hh2.1 hd_2.1
        subst hd2
        have hs2 := hs2.symm
        subst hs2
        refine lv_aload_n hx hb d_Doc_graft_96 rfl (lv_at hl 2 rfl) ?_
        refine lv_iload_n hx hb d_Doc_graft_97 rfl (lv_at hl 4 rfl) ?_
        refine lv_iload hx hb d_Doc_graft_98 (lv_at hl 7 rfl) ?_
        refine mw_rdV (i := 0) (As := [.int (iI x), .int (iI n0)]) (rest := []) ⟨hx, hb, hml, hown, hts⟩ hK hM hS (hL18 0 (by omega)) hO_28 rfl (c_Doc_nameCountFits l D g lo L18 κ28 s0 fpl hO_28 T28 cn28 (16 + 2 * (s0 : Int).toNat) hN_28 x n0 (by omega) (by omega)) (cwV 2 hts (gV m_475 m_477 m_11 m_51 m_478) rfl rfl rfl (by decide +kernel) ⟨Nat.le_of_ble_eq_true rfl, Nat.le_of_ble_eq_true rfl⟩) rfl hl.1 rfl (Nat.le_of_ble_eq_true rfl) d_Doc_graft_100 ⟨Nat.le_of_ble_eq_true rfl, Nat.le_of_ble_eq_true rfl⟩ (fun H locs hM hS => ?_)
        refine ia_ifz_eq (x := dFits T28 cn28 x n0) (tgt := 121) hx hb d_Doc_graft_103 (by decide) (fun c30 => ?_) (fun c30 => ?_)
        · refine lv_bipush (v := iI (-2)) hx hb d_Doc_graft_121 (by decide) ?_
          refine lv_istore (lv' := [(8, .int (iI (-2))), (7, .int (iI (nLevels T2 cn2 y0))), (6, .int (iI (nCell T2 cn2 0 y0))), (0, .ref (L 0)), (1, .int (iI s0)), (2, .int (iI x)), (3, .int (iI t0)), (4, .int (iI y0)), (5, .int (iI n0))]) hx hb d_Doc_graft_123 hl (by decide) rfl (fun ls hl => ?_)
          refine lv_aload_n hx hb d_Doc_graft_125 rfl (lv_at hl 3 rfl) ?_
          refine mw_get (ci := 3) (i := 0) (v := .ref (L18 2)) (C := R_Doc) (T := T_Doc) (N := 7) hx hb hts in_Doc hown hK hM hO_28 (hL18 0 (by omega)) rfl 0 (by decide) (hts _ m_185) rfl d_Doc_graft_126 ?_
          refine mw_callV (i := 2) (As := []) (rest := []) ⟨hx, hb, hml, hown, hts⟩ hK hM hS rfl hT_28.1 rfl (c_Bytes_clear l D g lo L18 κ28 2 3 2000 nT_28 zT bT hT_28 ) (cwV 0 hts (gV m_358 m_359 m_360 m_52 m_361) rfl rfl rfl (by decide +kernel) ⟨Nat.le_of_ble_eq_true rfl, Nat.le_of_ble_eq_true rfl⟩) rfl hl.1 rfl (Nat.le_of_ble_eq_true rfl) d_Doc_graft_129 ⟨Nat.le_of_ble_eq_true rfl, Nat.le_of_ble_eq_true rfl⟩ (fun v31 L31 κ31 H locs hp31 hM hS => ?_)
          obtain ⟨rfl, rfl, hB31, hk31⟩ := hp31
          have hB32 := bxs_keep hF_28 (hk31 4 (by omega) (by omega)) (hk31 5 (by omega) (by omega)) rfl
          have hN33 := nds_keep hN_28 (fun r h1 h2 => hk31 r (by omega) (by omega)) (fun r h1 h2 => rfl) rfl
          have hO34 := dob_keep hO_28 (hk31 0 (by omega) (by omega)) rfl rfl rfl rfl rfl
          have hR35 := rds_keep hR_28 (hk31 14 (by omega) (by omega)) rfl rfl
          have hF36 : ∀ k, k < 8 → bxs g L18 κ31 (16 + 2 * k) (17 + 2 * k) 2000 (nS_28 k) (zS k) (bS k) := fun k h1 => bxs_keep (hSl_28 k h1) (hk31 ((16 + 2 * k)) (by omega) (by omega)) (hk31 ((17 + 2 * k)) (by omega) (by omega)) rfl
          have e37 := (hk31 1 (by omega) (by omega)).trans hA1_28
          refine lv_iload hx hb d_Doc_graft_132 (lv_at hl 0 rfl) ?_
          refine W.widen (k := 2) (n := 4010) (Nat.le_of_ble_eq_true rfl) (Nat.le_of_ble_eq_true rfl) ?_
          exact mw_iret hx hb hr hM hS hlocks d_Doc_graft_134 (by rw [hTb2]; dsimp only; rw [hTb28]; dsimp only; rw [show dGrA T28 cn28 (bS s0.toNat) (zS s0.toNat) bT zT (0 + (nCell T2 cn2 5 y0).toNat) x n0 (nLevels T2 cn2 y0) = -2 by unfold dGrA; rw [if_pos (by assumption)]]; exact ⟨⟨by rw [hL18 0 (by omega)], fun r h => by rw [hL18 r (by omega)], fun r h => by rw [hk31 r (by omega) (by omega), hk28 r (by omega), hk18 r (by omega) (by omega), hk8 r (by omega) (by omega), hk2 r (by omega)]⟩, Or.inr (Or.inr (Or.inr (Or.inl ⟨⟨by assumption, by assumption, by assumption, by decide⟩, rfl, _, _, ⟨hO34, ⟨fA, e37, hA2_28⟩, ⟨_, hB31⟩, ⟨_, hB32⟩, hN33, ⟨_, _, _, _, hR35⟩, ⟨nS_28, hF36⟩, hd_28⟩⟩)))⟩)
        · refine lv_aload_n hx hb d_Doc_graft_106 rfl (lv_at hl 2 rfl) ?_
          refine lv_iload_n hx hb d_Doc_graft_107 rfl (lv_at hl 3 rfl) ?_
          refine lv_iload_n hx hb d_Doc_graft_108 rfl (lv_at hl 4 rfl) ?_
          refine lv_iload hx hb d_Doc_graft_109 (lv_at hl 1 rfl) ?_
          refine lv_iload hx hb d_Doc_graft_111 (lv_at hl 7 rfl) ?_
          refine lv_iload hx hb d_Doc_graft_113 (lv_at hl 0 rfl) ?_
          refine mw_callV (i := 0) (As := [.int (iI s0), .int (iI x), .int (iI (nCell T2 cn2 0 y0)), .int (iI n0), .int (iI (nLevels T2 cn2 y0))]) (rest := []) ⟨hx, hb, hml, hown, hts⟩ hK hM hS (hL18 0 (by omega)) hO_28 rfl (c_Doc_insertFresh l D g lo L18 κ28 s0 fpl zT bT (0 + (nCell T2 cn2 5 y0).toNat) (bApp bF 0 (bS (t0 : Int).toNat) (nCell T2 cn2 4 y0) (nCell T2 cn2 5 y0)) T28 cn28 (16 + 2 * (s0 : Int).toNat) zS bS ⟨hO_28, ⟨fA, hA1_28, hA2_28⟩, ⟨_, hT_28⟩, ⟨_, hF_28⟩, hN_28, ⟨_, _, _, _, hR_28⟩, ⟨nS_28, hSl_28⟩, hd_28⟩ (by omega) s0 x (nCell T2 cn2 0 y0) n0 (nLevels T2 cn2 y0) (by omega) rfl (by omega) (by omega) (by omega) (by omega)) (cwV 5 hts (gV m_486 m_488 m_12 m_51 m_489) rfl rfl rfl (by decide +kernel) ⟨Nat.le_of_ble_eq_true rfl, Nat.le_of_ble_eq_true rfl⟩) rfl hl.1 rfl (Nat.le_of_ble_eq_true rfl) d_Doc_graft_115 ⟨Nat.le_of_ble_eq_true rfl, Nat.le_of_ble_eq_true rfl⟩ (fun v38 L38 κ38 H locs hp38 hM hS => ?_)
          obtain ⟨hfr38, hcs38⟩ := hp38
          rcases hcs38 with ⟨hA38, rfl, hW38⟩ | ⟨hA38, rfl, hW38⟩
          · have hW38 : dbs g L38 κ38 s0 fpl zT bT (0 + (nCell T2 cn2 5 y0).toNat) (bApp bF 0 (bS (t0 : Int).toNat) (nCell T2 cn2 4 y0) (nCell T2 cn2 5 y0)) T28 cn28 (16 + 2 * (s0 : Int).toNat) zS bS := hW38
            obtain ⟨hO_38, ⟨fA, hA1_38, hA2_38⟩, ⟨nT_38, hT_38⟩, ⟨nF_38, hF_38⟩, hN_38, ⟨ra_38, ri_38, rf_38, rp_38, hR_38⟩, ⟨nS_38, hSl_38⟩, hd_38⟩ := hW38
            have hct_38 := hT_38.2.2.1
            have hcf_38 := hF_38.2.2.1
            have hcn_38 := hN_38.2.2.1
            refine lv_goto (tgt := 123) hx hb d_Doc_graft_118 (by decide) ?_
            refine lv_istore (lv' := [(8, .int (iI (dInsA T28 cn28 (bS (s0 : Int).toNat) (zS (s0 : Int).toNat) bT zT (0 + (nCell T2 cn2 5 y0).toNat) x n0 (nLevels T2 cn2 y0)))), (7, .int (iI (nLevels T2 cn2 y0))), (6, .int (iI (nCell T2 cn2 0 y0))), (0, .ref (L 0)), (1, .int (iI s0)), (2, .int (iI x)), (3, .int (iI t0)), (4, .int (iI y0)), (5, .int (iI n0))]) hx hb d_Doc_graft_123 hl (by decide) rfl (fun ls hl => ?_)
            refine lv_aload_n hx hb d_Doc_graft_125 rfl (lv_at hl 3 rfl) ?_
            refine mw_get (ci := 3) (i := 0) (v := .ref (L38 2)) (C := R_Doc) (T := T_Doc) (N := 7) hx hb hts in_Doc hown hK hM hO_38 (hfr38.1.trans (hL18 0 (by omega))) rfl 0 (by decide) (hts _ m_185) rfl d_Doc_graft_126 ?_
            refine mw_callV (i := 2) (As := []) (rest := []) ⟨hx, hb, hml, hown, hts⟩ hK hM hS rfl hT_38.1 rfl (c_Bytes_clear l D g lo L38 κ38 2 3 2000 nT_38 zT bT hT_38 ) (cwV 0 hts (gV m_358 m_359 m_360 m_52 m_361) rfl rfl rfl (by decide +kernel) ⟨Nat.le_of_ble_eq_true rfl, Nat.le_of_ble_eq_true rfl⟩) rfl hl.1 rfl (Nat.le_of_ble_eq_true rfl) d_Doc_graft_129 ⟨Nat.le_of_ble_eq_true rfl, Nat.le_of_ble_eq_true rfl⟩ (fun v39 L39 κ39 H locs hp39 hM hS => ?_)
            obtain ⟨rfl, rfl, hB39, hk39⟩ := hp39
            have hB40 := bxs_keep hF_38 (hk39 4 (by omega) (by omega)) (hk39 5 (by omega) (by omega)) rfl
            have hN41 := nds_keep hN_38 (fun r h1 h2 => hk39 r (by omega) (by omega)) (fun r h1 h2 => rfl) rfl
            have hO42 := dob_keep hO_38 (hk39 0 (by omega) (by omega)) rfl rfl rfl rfl rfl
            have hR43 := rds_keep hR_38 (hk39 14 (by omega) (by omega)) rfl rfl
            have hF44 : ∀ k, k < 8 → bxs g L38 κ39 (16 + 2 * k) (17 + 2 * k) 2000 (nS_38 k) (zS k) (bS k) := fun k h1 => bxs_keep (hSl_38 k h1) (hk39 ((16 + 2 * k)) (by omega) (by omega)) (hk39 ((17 + 2 * k)) (by omega) (by omega)) rfl
            have e45 := (hk39 1 (by omega) (by omega)).trans hA1_38
            refine lv_iload hx hb d_Doc_graft_132 (lv_at hl 0 rfl) ?_
            refine W.widen (k := 2) (n := 4010) (Nat.le_of_ble_eq_true rfl) (Nat.le_of_ble_eq_true rfl) ?_
            exact mw_iret hx hb hr hM hS hlocks d_Doc_graft_134 (by rw [hTb2]; dsimp only; rw [hTb28]; dsimp only; rw [show dGrA T28 cn28 (bS s0.toNat) (zS s0.toNat) bT zT (0 + (nCell T2 cn2 5 y0).toNat) x n0 (nLevels T2 cn2 y0) = dInsA T28 cn28 (bS (s0 : Int).toNat) (zS (s0 : Int).toNat) bT zT (0 + (nCell T2 cn2 5 y0).toNat) x n0 (nLevels T2 cn2 y0) by unfold dGrA; rw [if_neg (znf (by assumption))]]; exact ⟨⟨by rw [hfr38.1, hL18 0 (by omega)], fun r h => by rw [hfr38.2.1 r (by omega), hL18 r (by omega)], fun r h => by rw [hk39 r (by omega) (by omega), hfr38.2.2 r (by omega), hk28 r (by omega), hk18 r (by omega) (by omega), hk8 r (by omega) (by omega), hk2 r (by omega)]⟩, Or.inr (Or.inr (Or.inr (Or.inl ⟨⟨by assumption, by assumption, by assumption, hA38⟩, rfl, _, _, ⟨hO42, ⟨fA, e45, hA2_38⟩, ⟨_, hB39⟩, ⟨_, hB40⟩, hN41, ⟨_, _, _, _, hR43⟩, ⟨nS_38, hF44⟩, hd_38⟩⟩)))⟩)
          · have hW38 : dbs g L38 κ38 (-1) fpl zT bT (0 + (nCell T2 cn2 5 y0).toNat) (bApp bF 0 (bS (t0 : Int).toNat) (nCell T2 cn2 4 y0) (nCell T2 cn2 5 y0)) T28 cn28 (16 + 2 * (s0 : Int).toNat) (va_up zS (s0 : Int).toNat (dInsZ T28 cn28 (zS (s0 : Int).toNat) (0 + (nCell T2 cn2 5 y0).toNat) x n0)) (va_up bS (s0 : Int).toNat (dInsB T28 cn28 (bS (s0 : Int).toNat) (zS (s0 : Int).toNat) bT (bApp bF 0 (bS (t0 : Int).toNat) (nCell T2 cn2 4 y0) (nCell T2 cn2 5 y0)) (0 + (nCell T2 cn2 5 y0).toNat) x (nCell T2 cn2 0 y0) n0)) := hW38
            obtain ⟨hO_38, ⟨fA, hA1_38, hA2_38⟩, ⟨nT_38, hT_38⟩, ⟨nF_38, hF_38⟩, hN_38, ⟨ra_38, ri_38, rf_38, rp_38, hR_38⟩, ⟨nS_38, hSl_38⟩, hd_38⟩ := hW38
            have hct_38 := hT_38.2.2.1
            have hcf_38 := hF_38.2.2.1
            have hcn_38 := hN_38.2.2.1
            refine lv_goto (tgt := 123) hx hb d_Doc_graft_118 (by decide) ?_
            refine lv_istore (lv' := [(8, .int (iI (dInsA T28 cn28 (bS (s0 : Int).toNat) (zS (s0 : Int).toNat) bT zT (0 + (nCell T2 cn2 5 y0).toNat) x n0 (nLevels T2 cn2 y0)))), (7, .int (iI (nLevels T2 cn2 y0))), (6, .int (iI (nCell T2 cn2 0 y0))), (0, .ref (L 0)), (1, .int (iI s0)), (2, .int (iI x)), (3, .int (iI t0)), (4, .int (iI y0)), (5, .int (iI n0))]) hx hb d_Doc_graft_123 hl (by decide) rfl (fun ls hl => ?_)
            refine lv_aload_n hx hb d_Doc_graft_125 rfl (lv_at hl 3 rfl) ?_
            refine mw_get (ci := 3) (i := 0) (v := .ref (L38 2)) (C := R_Doc) (T := T_Doc) (N := 7) hx hb hts in_Doc hown hK hM hO_38 (hfr38.1.trans (hL18 0 (by omega))) rfl 0 (by decide) (hts _ m_185) rfl d_Doc_graft_126 ?_
            refine mw_callV (i := 2) (As := []) (rest := []) ⟨hx, hb, hml, hown, hts⟩ hK hM hS rfl hT_38.1 rfl (c_Bytes_clear l D g lo L38 κ38 2 3 2000 nT_38 zT bT hT_38 ) (cwV 0 hts (gV m_358 m_359 m_360 m_52 m_361) rfl rfl rfl (by decide +kernel) ⟨Nat.le_of_ble_eq_true rfl, Nat.le_of_ble_eq_true rfl⟩) rfl hl.1 rfl (Nat.le_of_ble_eq_true rfl) d_Doc_graft_129 ⟨Nat.le_of_ble_eq_true rfl, Nat.le_of_ble_eq_true rfl⟩ (fun v46 L46 κ46 H locs hp46 hM hS => ?_)
            obtain ⟨rfl, rfl, hB46, hk46⟩ := hp46
            have hB47 := bxs_keep hF_38 (hk46 4 (by omega) (by omega)) (hk46 5 (by omega) (by omega)) rfl
            have hN48 := nds_keep hN_38 (fun r h1 h2 => hk46 r (by omega) (by omega)) (fun r h1 h2 => rfl) rfl
            have hO49 := dob_keep hO_38 (hk46 0 (by omega) (by omega)) rfl rfl rfl rfl rfl
            have hR50 := rds_keep hR_38 (hk46 14 (by omega) (by omega)) rfl rfl
            have hF51 : ∀ k, k < 8 → bxs g L38 κ46 (16 + 2 * k) (17 + 2 * k) 2000 (nS_38 k) (va_up zS (s0 : Int).toNat (dInsZ T28 cn28 (zS (s0 : Int).toNat) (0 + (nCell T2 cn2 5 y0).toNat) x n0) k) (va_up bS (s0 : Int).toNat (dInsB T28 cn28 (bS (s0 : Int).toNat) (zS (s0 : Int).toNat) bT (bApp bF 0 (bS (t0 : Int).toNat) (nCell T2 cn2 4 y0) (nCell T2 cn2 5 y0)) (0 + (nCell T2 cn2 5 y0).toNat) x (nCell T2 cn2 0 y0) n0) k) := fun k h1 => bxs_keep (hSl_38 k h1) (hk46 ((16 + 2 * k)) (by omega) (by omega)) (hk46 ((17 + 2 * k)) (by omega) (by omega)) rfl
            have e52 := (hk46 1 (by omega) (by omega)).trans hA1_38
            refine lv_iload hx hb d_Doc_graft_132 (lv_at hl 0 rfl) ?_
            refine W.widen (k := 2) (n := 4010) (Nat.le_of_ble_eq_true rfl) (Nat.le_of_ble_eq_true rfl) ?_
            exact mw_iret hx hb hr hM hS hlocks d_Doc_graft_134 (by rw [hTb2]; dsimp only; rw [hTb28]; dsimp only; rw [show dGrA T28 cn28 (bS s0.toNat) (zS s0.toNat) bT zT (0 + (nCell T2 cn2 5 y0).toNat) x n0 (nLevels T2 cn2 y0) = dInsA T28 cn28 (bS (s0 : Int).toNat) (zS (s0 : Int).toNat) bT zT (0 + (nCell T2 cn2 5 y0).toNat) x n0 (nLevels T2 cn2 y0) by unfold dGrA; rw [if_neg (znf (by assumption))]]; exact ⟨⟨by rw [hfr38.1, hL18 0 (by omega)], fun r h => by rw [hfr38.2.1 r (by omega), hL18 r (by omega)], fun r h => by rw [hk46 r (by omega) (by omega), hfr38.2.2 r (by omega), hk28 r (by omega), hk18 r (by omega) (by omega), hk8 r (by omega) (by omega), hk2 r (by omega)]⟩, Or.inr (Or.inr (Or.inr (Or.inr (⟨⟨by assumption, by assumption, by assumption, hA38⟩, rfl, _, _, ⟨hO49, ⟨fA, e52, hA2_38⟩, ⟨_, hB46⟩, ⟨_, hB47⟩, hN48, ⟨_, _, _, _, hR50⟩, ⟨nS_38, hF51⟩, hd_38⟩⟩))))⟩)
      · refine lv_iconst (v := iI (-1)) hx hb d_Doc_graft_94 rfl ?_
        refine W.widen (k := 2) (n := 4010) (Nat.le_of_ble_eq_true rfl) (Nat.le_of_ble_eq_true rfl) ?_
        exact mw_iret hx hb hr hM hS hlocks d_Doc_graft_95 (by rw [hTb2]; dsimp only; rw [hTb28]; dsimp only; exact ⟨⟨by rw [hL18 0 (by omega)], fun r h => by rw [hL18 r (by omega)], fun r h => by rw [hk28 r (by omega), hk18 r (by omega) (by omega), hk8 r (by omega) (by omega), hk2 r (by omega)]⟩, Or.inr (Or.inr (Or.inl ⟨⟨by assumption, by assumption, by assumption⟩, rfl, _, _, ⟨hO_28, ⟨fA, hA1_28, hA2_28⟩, ⟨_, hT_28⟩, ⟨_, hF_28⟩, hN_28, ⟨_, _, _, _, hR_28⟩, ⟨nS_28, hSl_28⟩, hd_28⟩⟩))⟩)
    · refine lv_iconst (v := iI (-1)) hx hb d_Doc_graft_23 rfl ?_
      refine W.widen (k := 2) (n := 4010) (Nat.le_of_ble_eq_true rfl) (Nat.le_of_ble_eq_true rfl) ?_
      exact mw_iret hx hb hr hM hS hlocks d_Doc_graft_24 (by rw [hTb2]; dsimp only; exact ⟨⟨rfl, fun r h => rfl, fun r h => by rw [hk2 r (by omega)]⟩, Or.inr (Or.inl ⟨⟨by assumption, by assumption⟩, rfl, ⟨hO_2, ⟨fA, hA1_2, hA2_2⟩, ⟨_, hT_2⟩, ⟨_, hF_2⟩, hN_2, ⟨_, _, _, _, hR_2⟩, ⟨nS_2, hSl_2⟩, hd_2⟩⟩)⟩)
