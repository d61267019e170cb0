set_option maxHeartbeats 4000000 in
set_option maxRecDepth 100000 in
theorem c_Doc_feed (l : Launch) (D : va_G) (g : Nat → ClassId) (lo : Nat) (L : Nat → Nat) (κ : Nat → Option va_E) (scn fpl : Int) (zT : Nat) (bT : Nat → Int) (zF : Nat) (bF : Nat → Int) (T : Nat → Nat → Int) (cnt d : Nat) (zS : Nat → Nat) (bS : Nat → Nat → Int) (hW : dbs g L κ scn fpl zT bT zF bF T cnt d zS bS) (hsc : -1 ≤ scn ∧ scn < 8) (a1 a2 a3 a4 a5 : Int) (ha1 : -2147483648 ≤ a1 ∧ a1 < 2147483648) (ha2 : -2147483648 ≤ a2 ∧ a2 < 2147483648) (ha3 : -2147483648 ≤ a3 ∧ a3 < 2147483648) (ha4 : -2147483648 ≤ a4 ∧ a4 < 2147483648) (ha5 : -2147483648 ≤ a5 ∧ a5 < 2147483648) : Met l y_Doc_feed w_Doc_feed ({ frames := 4, cells := 5, slots := 10025, locals := 107 }) (mwP D vwCl (tyL g) lo L κ [.ref (L 0), .int (iI a1), .int (iI a2), .int (iI a3), .int (iI a4), .int (iI a5)]) (mwQ D vwCl lo (fun v L1 κ1 => v = some (.int (iI (dFeed zT bT a1 a2 a3 a4 a5).1)) ∧ dbs g L1 κ1 scn fpl ((dFeed zT bT a1 a2 a3 a4 a5).2.1) ((dFeed zT bT a1 a2 a3 a4 a5).2.2) zF bF T cnt d zS bS ∧ dFr L L1 κ κ1)) 5 10025 (fun q => lo ≤ q) := by
  obtain ⟨hO, ⟨fA, hA1, hA2⟩, ⟨nT, hT⟩, ⟨nF, hF⟩, hN, ⟨ra, ri, rf, rp, hR⟩, ⟨nS, hSl⟩, hd⟩ := hW
  have hct := hT.2.2.1
  have hcf := hF.2.2.1
  have hcn := hN.2.2.1
  refine Met.ofW (cc := b_Doc_feed) (maxL := 6) (ret := (Option.some Jvm.ClassFile.FieldType.int)) (by decide) rfl ?_
  intro p e s m args below meth c s₁ B hml hpre
  obtain ⟨hargs, hM, hK⟩ := hpre
  have hx := B.exec
  have hb := B.bytes
  have hr := B.returns
  have hts : ∀ w ∈ wA, w.before args s = true := fun w h => atoms_spec (ws := w_Doc_feed) B.pre w (List.mem_cons_of_mem _ h)
  have hown : s.vm.findClass R_Doc = some m.cls := findClass_of_methodNamed B.named
  have hlocks := B.notSynchronized
  have hS : va_S (fun q => lo ≤ q) s.heap s.heap [] := va_S.rf
  obtain ⟨ls, hls, hl⟩ := mw_entry (m := m) [.ref (L 0), .int (iI a1), .int (iI a2), .int (iI a3), .int (iI a4), .int (iI a5)] (n := 6) (Nat.le_of_ble_eq_true rfl) hargs
  refine W.eq hls ?_
  have hl : lv_has ls 6 [(0, .ref (L 0)), (1, .int (iI a1)), (2, .int (iI a2)), (3, .int (iI a3)), (4, .int (iI a4)), (5, .int (iI a5))] := hl
  refine lv_aload_n hx hb d_Doc_feed_0 rfl (lv_at hl 0 rfl) ?_
  refine mw_get (ci := 3) (i := 0) (v := .ref (L 2)) (C := R_Doc) (T := T_Doc) (N := 7) hx hb hts in_Doc hown hK hM hO rfl rfl 0 (by decide) (hts _ m_185) rfl d_Doc_feed_1 ?_
  refine mw_rdV (i := 2) (As := []) (rest := []) ⟨hx, hb, hml, hown, hts⟩ hK hM hS rfl hT.1 rfl (c_Bytes_size l D g lo L κ 2 3 2000 nT zT bT hT ) (cwV 0 hts (gV m_211 m_212 m_213 m_52 m_214) rfl rfl rfl (by decide +kernel) ⟨Nat.le_of_ble_eq_true rfl, Nat.le_of_ble_eq_true rfl⟩) rfl hl.1 rfl (Nat.le_of_ble_eq_true rfl) d_Doc_feed_4 ⟨Nat.le_of_ble_eq_true rfl, Nat.le_of_ble_eq_true rfl⟩ (fun H locs hM hS => ?_)
  refine lv_sipush (v := iI (1980)) hx hb d_Doc_feed_7 (by decide) ?_
  refine ia_icmp_le (a := zT) (b := 1980) (tgt := 15) hx hb d_Doc_feed_10 (by decide) (by omega) (by omega) (fun c1 => ?_) (fun c1 => ?_)
  · refine lv_aload_n hx hb d_Doc_feed_15 rfl (lv_at hl 0 rfl) ?_
    refine mw_get (ci := 3) (i := 0) (v := .ref (L 2)) (C := R_Doc) (T := T_Doc) (N := 7) hx hb hts in_Doc hown hK hM hO rfl rfl 0 (by decide) (hts _ m_185) rfl d_Doc_feed_16 ?_
    refine lv_iload_n hx hb d_Doc_feed_19 rfl (lv_at hl 1 rfl) ?_
    refine mw_callV (i := 2) (As := [.int (iI a1)]) (rest := []) ⟨hx, hb, hml, hown, hts⟩ hK hM hS rfl hT.1 rfl (c_Bytes_appendHighestFirst l D g lo L κ 2 3 2000 nT zT bT hT a1 (by omega) (by omega)) (cwV 1 hts (gV m_215 m_216 m_217 m_52 m_218) rfl rfl rfl (by decide +kernel) ⟨Nat.le_of_ble_eq_true rfl, Nat.le_of_ble_eq_true rfl⟩) rfl hl.1 rfl (Nat.le_of_ble_eq_true rfl) d_Doc_feed_20 ⟨Nat.le_of_ble_eq_true rfl, Nat.le_of_ble_eq_true rfl⟩ (fun v2 L2 κ2 H locs hp2 hM hS => ?_)
    obtain ⟨n2, rfl, hL2, hB2, hk2⟩ := hp2
    have hB2 : bxs g L2 κ2 2 3 2000 n2 (zT + 4) (bAppHf bT zT a1) := hB2
    have r3 := hB2.2.2.1
    have hB4 := bxs_keep hF (hk2 4 (by omega) (by omega)) (hk2 5 (by omega) (by omega)) (hL2 5 (by omega))
    have hN5 := nds_keep hN (fun r h1 h2 => hk2 r (by omega) (by omega)) (fun r h1 h2 => hL2 r (by omega)) (hL2 d (by omega))
    have hO6 := dob_keep hO (hk2 0 (by omega) (by omega)) (hL2 2 (by omega)) (hL2 1 (by omega)) (hL2 4 (by omega)) (hL2 6 (by omega)) (hL2 14 (by omega))
    have hR7 := rds_keep hR (hk2 14 (by omega) (by omega)) (hL2 6 (by omega)) (hL2 2 (by omega))
    have hF8 : ∀ k, k < 8 → bxs g L2 κ2 (16 + 2 * k) (17 + 2 * k) 2000 (nS k) (zS k) (bS k) := fun k h1 => bxs_keep (hSl k h1) (hk2 ((16 + 2 * k)) (by omega) (by omega)) (hk2 ((17 + 2 * k)) (by omega) (by omega)) (hL2 ((17 + 2 * k)) (by omega))
    have hA9 : ∀ k, k < 8 → fA k = some (L2 (16 + 2 * k)) := fun k h1 => by rw [hL2 ((16 + 2 * k)) (by omega)]; exact hA2 k h1
    have e10 := (hk2 1 (by omega) (by omega)).trans hA1
    refine lv_aload_n hx hb d_Doc_feed_23 rfl (lv_at hl 0 rfl) ?_
    refine mw_get (ci := 3) (i := 0) (v := .ref (L2 2)) (C := R_Doc) (T := T_Doc) (N := 7) hx hb hts in_Doc hown hK hM hO6 (hL2 0 (by omega)) rfl 0 (by decide) (hts _ m_185) rfl d_Doc_feed_24 ?_
    refine lv_iload_n hx hb d_Doc_feed_27 rfl (lv_at hl 2 rfl) ?_
    refine mw_callV (i := 2) (As := [.int (iI a2)]) (rest := []) ⟨hx, hb, hml, hown, hts⟩ hK hM hS rfl hB2.1 rfl (c_Bytes_appendHighestFirst l D g lo L2 κ2 2 3 2000 n2 (zT + 4) (bAppHf bT zT a1) hB2 a2 (by omega) (by omega)) (cwV 1 hts (gV m_215 m_216 m_217 m_52 m_218) rfl rfl rfl (by decide +kernel) ⟨Nat.le_of_ble_eq_true rfl, Nat.le_of_ble_eq_true rfl⟩) rfl hl.1 rfl (Nat.le_of_ble_eq_true rfl) d_Doc_feed_28 ⟨Nat.le_of_ble_eq_true rfl, Nat.le_of_ble_eq_true rfl⟩ (fun v11 L11 κ11 H locs hp11 hM hS => ?_)
    obtain ⟨n11, rfl, hL11, hB11, hk11⟩ := hp11
    have hB11 : bxs g L11 κ11 2 3 2000 n11 (zT + 4 + 4) (bAppHf (bAppHf bT zT a1) (zT + 4) a2) := hB11
    have r12 := hB11.2.2.1
    have hB13 := bxs_keep hB4 (hk11 4 (by omega) (by omega)) (hk11 5 (by omega) (by omega)) (hL11 5 (by omega))
    have hN14 := nds_keep hN5 (fun r h1 h2 => hk11 r (by omega) (by omega)) (fun r h1 h2 => hL11 r (by omega)) (hL11 d (by omega))
    have hO15 := dob_keep hO6 (hk11 0 (by omega) (by omega)) (hL11 2 (by omega)) (hL11 1 (by omega)) (hL11 4 (by omega)) (hL11 6 (by omega)) (hL11 14 (by omega))
    have hR16 := rds_keep hR7 (hk11 14 (by omega) (by omega)) (hL11 6 (by omega)) (hL11 2 (by omega))
    have hF17 : ∀ k, k < 8 → bxs g L11 κ11 (16 + 2 * k) (17 + 2 * k) 2000 (nS k) (zS k) (bS k) := fun k h1 => bxs_keep (hF8 k h1) (hk11 ((16 + 2 * k)) (by omega) (by omega)) (hk11 ((17 + 2 * k)) (by omega) (by omega)) (hL11 ((17 + 2 * k)) (by omega))
    have hA18 : ∀ k, k < 8 → fA k = some (L11 (16 + 2 * k)) := fun k h1 => by rw [hL11 ((16 + 2 * k)) (by omega)]; exact hA9 k h1
    have e19 := (hk11 1 (by omega) (by omega)).trans e10
    refine lv_aload_n hx hb d_Doc_feed_31 rfl (lv_at hl 0 rfl) ?_
    refine mw_get (ci := 3) (i := 0) (v := .ref (L11 2)) (C := R_Doc) (T := T_Doc) (N := 7) hx hb hts in_Doc hown hK hM hO15 ((hL11 0 (by omega)).trans (hL2 0 (by omega))) rfl 0 (by decide) (hts _ m_185) rfl d_Doc_feed_32 ?_
    refine lv_iload_n hx hb d_Doc_feed_35 rfl (lv_at hl 3 rfl) ?_
    refine mw_callV (i := 2) (As := [.int (iI a3)]) (rest := []) ⟨hx, hb, hml, hown, hts⟩ hK hM hS rfl hB11.1 rfl (c_Bytes_appendHighestFirst l D g lo L11 κ11 2 3 2000 n11 (zT + 4 + 4) (bAppHf (bAppHf bT zT a1) (zT + 4) a2) hB11 a3 (by omega) (by omega)) (cwV 1 hts (gV m_215 m_216 m_217 m_52 m_218) rfl rfl rfl (by decide +kernel) ⟨Nat.le_of_ble_eq_true rfl, Nat.le_of_ble_eq_true rfl⟩) rfl hl.1 rfl (Nat.le_of_ble_eq_true rfl) d_Doc_feed_36 ⟨Nat.le_of_ble_eq_true rfl, Nat.le_of_ble_eq_true rfl⟩ (fun v20 L20 κ20 H locs hp20 hM hS => ?_)
    obtain ⟨n20, rfl, hL20, hB20, hk20⟩ := hp20
    have hB20 : bxs g L20 κ20 2 3 2000 n20 (zT + 4 + 4 + 4) (bAppHf (bAppHf (bAppHf bT zT a1) (zT + 4) a2) (zT + 4 + 4) a3) := hB20
    have r21 := hB20.2.2.1
    have hB22 := bxs_keep hB13 (hk20 4 (by omega) (by omega)) (hk20 5 (by omega) (by omega)) (hL20 5 (by omega))
    have hN23 := nds_keep hN14 (fun r h1 h2 => hk20 r (by omega) (by omega)) (fun r h1 h2 => hL20 r (by omega)) (hL20 d (by omega))
    have hO24 := dob_keep hO15 (hk20 0 (by omega) (by omega)) (hL20 2 (by omega)) (hL20 1 (by omega)) (hL20 4 (by omega)) (hL20 6 (by omega)) (hL20 14 (by omega))
    have hR25 := rds_keep hR16 (hk20 14 (by omega) (by omega)) (hL20 6 (by omega)) (hL20 2 (by omega))
    have hF26 : ∀ k, k < 8 → bxs g L20 κ20 (16 + 2 * k) (17 + 2 * k) 2000 (nS k) (zS k) (bS k) := fun k h1 => bxs_keep (hF17 k h1) (hk20 ((16 + 2 * k)) (by omega) (by omega)) (hk20 ((17 + 2 * k)) (by omega) (by omega)) (hL20 ((17 + 2 * k)) (by omega))
    have hA27 : ∀ k, k < 8 → fA k = some (L20 (16 + 2 * k)) := fun k h1 => by rw [hL20 ((16 + 2 * k)) (by omega)]; exact hA18 k h1
    have e28 := (hk20 1 (by omega) (by omega)).trans e19
    refine lv_aload_n hx hb d_Doc_feed_39 rfl (lv_at hl 0 rfl) ?_
    refine mw_get (ci := 3) (i := 0) (v := .ref (L20 2)) (C := R_Doc) (T := T_Doc) (N := 7) hx hb hts in_Doc hown hK hM hO24 (((hL20 0 (by omega)).trans (hL11 0 (by omega))).trans (hL2 0 (by omega))) rfl 0 (by decide) (hts _ m_185) rfl d_Doc_feed_40 ?_
    refine lv_iload hx hb d_Doc_feed_43 (lv_at hl 4 rfl) ?_
    refine mw_callV (i := 2) (As := [.int (iI a4)]) (rest := []) ⟨hx, hb, hml, hown, hts⟩ hK hM hS rfl hB20.1 rfl (c_Bytes_appendHighestFirst l D g lo L20 κ20 2 3 2000 n20 (zT + 4 + 4 + 4) (bAppHf (bAppHf (bAppHf bT zT a1) (zT + 4) a2) (zT + 4 + 4) a3) hB20 a4 (by omega) (by omega)) (cwV 1 hts (gV m_215 m_216 m_217 m_52 m_218) rfl rfl rfl (by decide +kernel) ⟨Nat.le_of_ble_eq_true rfl, Nat.le_of_ble_eq_true rfl⟩) rfl hl.1 rfl (Nat.le_of_ble_eq_true rfl) d_Doc_feed_45 ⟨Nat.le_of_ble_eq_true rfl, Nat.le_of_ble_eq_true rfl⟩ (fun v29 L29 κ29 H locs hp29 hM hS => ?_)
    obtain ⟨n29, rfl, hL29, hB29, hk29⟩ := hp29
    have hB29 : bxs g L29 κ29 2 3 2000 n29 (zT + 4 + 4 + 4 + 4) (bAppHf (bAppHf (bAppHf (bAppHf bT zT a1) (zT + 4) a2) (zT + 4 + 4) a3) (zT + 4 + 4 + 4) a4) := hB29
    have r30 := hB29.2.2.1
    have hB31 := bxs_keep hB22 (hk29 4 (by omega) (by omega)) (hk29 5 (by omega) (by omega)) (hL29 5 (by omega))
    have hN32 := nds_keep hN23 (fun r h1 h2 => hk29 r (by omega) (by omega)) (fun r h1 h2 => hL29 r (by omega)) (hL29 d (by omega))
    have hO33 := dob_keep hO24 (hk29 0 (by omega) (by omega)) (hL29 2 (by omega)) (hL29 1 (by omega)) (hL29 4 (by omega)) (hL29 6 (by omega)) (hL29 14 (by omega))
    have hR34 := rds_keep hR25 (hk29 14 (by omega) (by omega)) (hL29 6 (by omega)) (hL29 2 (by omega))
    have hF35 : ∀ k, k < 8 → bxs g L29 κ29 (16 + 2 * k) (17 + 2 * k) 2000 (nS k) (zS k) (bS k) := fun k h1 => bxs_keep (hF26 k h1) (hk29 ((16 + 2 * k)) (by omega) (by omega)) (hk29 ((17 + 2 * k)) (by omega) (by omega)) (hL29 ((17 + 2 * k)) (by omega))
    have hA36 : ∀ k, k < 8 → fA k = some (L29 (16 + 2 * k)) := fun k h1 => by rw [hL29 ((16 + 2 * k)) (by omega)]; exact hA27 k h1
    have e37 := (hk29 1 (by omega) (by omega)).trans e28
    refine lv_aload_n hx hb d_Doc_feed_48 rfl (lv_at hl 0 rfl) ?_
    refine mw_get (ci := 3) (i := 0) (v := .ref (L29 2)) (C := R_Doc) (T := T_Doc) (N := 7) hx hb hts in_Doc hown hK hM hO33 ((((hL29 0 (by omega)).trans (hL20 0 (by omega))).trans (hL11 0 (by omega))).trans (hL2 0 (by omega))) rfl 0 (by decide) (hts _ m_185) rfl d_Doc_feed_49 ?_
    refine lv_iload hx hb d_Doc_feed_52 (lv_at hl 5 rfl) ?_
    refine mw_callV (i := 2) (As := [.int (iI a5)]) (rest := []) ⟨hx, hb, hml, hown, hts⟩ hK hM hS rfl hB29.1 rfl (c_Bytes_appendHighestFirst l D g lo L29 κ29 2 3 2000 n29 (zT + 4 + 4 + 4 + 4) (bAppHf (bAppHf (bAppHf (bAppHf bT zT a1) (zT + 4) a2) (zT + 4 + 4) a3) (zT + 4 + 4 + 4) a4) hB29 a5 (by omega) (by omega)) (cwV 1 hts (gV m_215 m_216 m_217 m_52 m_218) rfl rfl rfl (by decide +kernel) ⟨Nat.le_of_ble_eq_true rfl, Nat.le_of_ble_eq_true rfl⟩) rfl hl.1 rfl (Nat.le_of_ble_eq_true rfl) d_Doc_feed_54 ⟨Nat.le_of_ble_eq_true rfl, Nat.le_of_ble_eq_true rfl⟩ (fun v38 L38 κ38 H locs hp38 hM hS => ?_)
    obtain ⟨n38, rfl, hL38, hB38, hk38⟩ := hp38
    have hB38 : bxs g L38 κ38 2 3 2000 n38 (zT + 4 + 4 + 4 + 4 + 4) (bAppHf (bAppHf (bAppHf (bAppHf (bAppHf bT zT a1) (zT + 4) a2) (zT + 4 + 4) a3) (zT + 4 + 4 + 4) a4) (zT + 4 + 4 + 4 + 4) a5) := hB38
    have r39 := hB38.2.2.1
    have hB40 := bxs_keep hB31 (hk38 4 (by omega) (by omega)) (hk38 5 (by omega) (by omega)) (hL38 5 (by omega))
    have hN41 := nds_keep hN32 (fun r h1 h2 => hk38 r (by omega) (by omega)) (fun r h1 h2 => hL38 r (by omega)) (hL38 d (by omega))
    have hO42 := dob_keep hO33 (hk38 0 (by omega) (by omega)) (hL38 2 (by omega)) (hL38 1 (by omega)) (hL38 4 (by omega)) (hL38 6 (by omega)) (hL38 14 (by omega))
    have hR43 := rds_keep hR34 (hk38 14 (by omega) (by omega)) (hL38 6 (by omega)) (hL38 2 (by omega))
    have hF44 : ∀ k, k < 8 → bxs g L38 κ38 (16 + 2 * k) (17 + 2 * k) 2000 (nS k) (zS k) (bS k) := fun k h1 => bxs_keep (hF35 k h1) (hk38 ((16 + 2 * k)) (by omega) (by omega)) (hk38 ((17 + 2 * k)) (by omega) (by omega)) (hL38 ((17 + 2 * k)) (by omega))
    have hA45 : ∀ k, k < 8 → fA k = some (L38 (16 + 2 * k)) := fun k h1 => by rw [hL38 ((16 + 2 * k)) (by omega)]; exact hA36 k h1
    have e46 := (hk38 1 (by omega) (by omega)).trans e37
    refine lv_aload_n hx hb d_Doc_feed_57 rfl (lv_at hl 0 rfl) ?_
    refine mw_get (ci := 3) (i := 0) (v := .ref (L38 2)) (C := R_Doc) (T := T_Doc) (N := 7) hx hb hts in_Doc hown hK hM hO42 (((((hL38 0 (by omega)).trans (hL29 0 (by omega))).trans (hL20 0 (by omega))).trans (hL11 0 (by omega))).trans (hL2 0 (by omega))) rfl 0 (by decide) (hts _ m_185) rfl d_Doc_feed_58 ?_
    refine mw_rdV (i := 2) (As := []) (rest := []) ⟨hx, hb, hml, hown, hts⟩ hK hM hS rfl hB38.1 rfl (c_Bytes_size l D g lo L38 κ38 2 3 2000 n38 (zT + 4 + 4 + 4 + 4 + 4) (bAppHf (bAppHf (bAppHf (bAppHf (bAppHf bT zT a1) (zT + 4) a2) (zT + 4 + 4) a3) (zT + 4 + 4 + 4) a4) (zT + 4 + 4 + 4 + 4) a5) hB38 ) (cwV 0 hts (gV m_211 m_212 m_213 m_52 m_214) rfl rfl rfl (by decide +kernel) ⟨Nat.le_of_ble_eq_true rfl, Nat.le_of_ble_eq_true rfl⟩) rfl hl.1 rfl (Nat.le_of_ble_eq_true rfl) d_Doc_feed_61 ⟨Nat.le_of_ble_eq_true rfl, Nat.le_of_ble_eq_true rfl⟩ (fun H locs hM hS => ?_)
    refine W.widen (k := 5) (n := 10025) (Nat.le_of_ble_eq_true rfl) (Nat.le_of_ble_eq_true rfl) ?_
    exact mw_iret hx hb hr hM hS hlocks d_Doc_feed_64 (by rw [(show dFeed zT bT a1 a2 a3 a4 a5 = ((((zT + 4 + 4 + 4 + 4 + 4 : Nat) : Int) : Int), zT + 4 + 4 + 4 + 4 + 4, bAppHf (bAppHf (bAppHf (bAppHf (bAppHf bT zT a1) (zT + 4) a2) (zT + 4 + 4) a3) (zT + 4 + 4 + 4) a4) (zT + 4 + 4 + 4 + 4) a5) by unfold dFeed; rw [if_neg (by omega)] <;> rfl)]; exact ⟨rfl, ⟨hO42, ⟨fA, e46, hA45⟩, ⟨_, hB38⟩, ⟨_, hB40⟩, hN41, ⟨_, _, _, _, hR43⟩, ⟨nS, hF44⟩, hd⟩, ⟨by rw [hL38 0 (by omega), hL29 0 (by omega), hL20 0 (by omega), hL11 0 (by omega), hL2 0 (by omega)], fun r h => by rw [hL38 r (by omega), hL29 r (by omega), hL20 r (by omega), hL11 r (by omega), hL2 r (by omega)], fun r h => by rw [hk38 r (by omega) (by omega), hk29 r (by omega) (by omega), hk20 r (by omega) (by omega), hk11 r (by omega) (by omega), hk2 r (by omega) (by omega)]⟩⟩)
  · refine lv_iconst (v := iI (-1)) hx hb d_Doc_feed_13 rfl ?_
    refine W.widen (k := 5) (n := 10025) (Nat.le_of_ble_eq_true rfl) (Nat.le_of_ble_eq_true rfl) ?_
    exact mw_iret hx hb hr hM hS hlocks d_Doc_feed_14 (by rw [(show dFeed zT bT a1 a2 a3 a4 a5 = ((-1 : Int), zT, bT) by unfold dFeed; rw [if_pos (by omega)])]; exact ⟨rfl, ⟨hO, ⟨fA, hA1, hA2⟩, ⟨_, hT⟩, ⟨_, hF⟩, hN, ⟨_, _, _, _, hR⟩, ⟨nS, hSl⟩, hd⟩, ⟨rfl, fun r h => rfl, fun r h => rfl⟩⟩)
set_option maxHeartbeats 4000000 in
set_option maxRecDepth 100000 in
theorem c_Doc_find (l : Launch) (D : va_G) (g : Nat → ClassId) (lo : Nat) (L : Nat → Nat) (κ : Nat → Option va_E) (scn fpl : Int) (zT : Nat) (bT : Nat → Int) (zF : Nat) (bF : Nat → Int) (T : Nat → Nat → Int) (cnt d : Nat) (zS : Nat → Nat) (bS : Nat → Nat → Int) (hW : dbs g L κ scn fpl zT bT zF bF T cnt d zS bS) (hsc : -1 ≤ scn ∧ scn < 8) (s0 x n0 : Int) (hs0 : -2147483648 ≤ s0 ∧ s0 < 2147483648) (hx : -2147483648 ≤ x ∧ x < 2147483648) (hn0 : -2147483648 ≤ n0 ∧ n0 < 2147483648) (hOK : dOK scn s0 T zS bS) : Met l y_Doc_find w_Doc_find ({ frames := 5, cells := 0, slots := 0, locals := 119 }) (mwP D vwCl (tyL g) lo L κ [.ref (L 0), .int (iI s0), .int (iI x), .int (iI n0)]) (mwQ D vwCl lo (fun v L1 κ1 => dFr L L1 κ κ1 ∧ ((bHas zT n0 0 = false ∧ v = some (.int (iI (-1))) ∧ dbs g L1 κ1 scn fpl zT bT zF bF T cnt d zS bS) ∨ (bHas zT n0 0 = true ∧ v = some (.int (iI (dFind s0 x n0 (dTab scn s0 T cnt d zS bS).2.1 (dTab scn s0 T cnt d zS bS).2.2.1 zT bT zS bS))) ∧ dbs g L1 κ1 ((dTab scn s0 T cnt d zS bS).1) fpl 0 bT zF bF ((dTab scn s0 T cnt d zS bS).2.1) ((dTab scn s0 T cnt d zS bS).2.2.1) ((dTab scn s0 T cnt d zS bS).2.2.2) zS bS)))) 0 0 (fun q => lo ≤ q) := by
  obtain ⟨hO, ⟨fA, hA1, hA2⟩, ⟨nT, hT⟩, ⟨nF, hF⟩, hN, ⟨ra, ri, rf, rp, hR⟩, ⟨nS, hSl⟩, hd⟩ := hW
  have hct := hT.2.2.1
  have hcf := hF.2.2.1
  have hcn := hN.2.2.1
  refine Met.ofW (cc := b_Doc_find) (maxL := 5) (ret := (Option.some Jvm.ClassFile.FieldType.int)) (by decide) rfl ?_
  intro p e s m args below meth c s₁ B hml hpre
  obtain ⟨hargs, hM, hK⟩ := hpre
  have hx := B.exec
  have hb := B.bytes
  have hr := B.returns
  have hts : ∀ w ∈ wA, w.before args s = true := fun w h => atoms_spec (ws := w_Doc_find) B.pre w (List.mem_cons_of_mem _ h)
  have hown : s.vm.findClass R_Doc = some m.cls := findClass_of_methodNamed B.named
  have hlocks := B.notSynchronized
  have hS : va_S (fun q => lo ≤ q) s.heap s.heap [] := va_S.rf
  obtain ⟨ls, hls, hl⟩ := mw_entry (m := m) [.ref (L 0), .int (iI s0), .int (iI x), .int (iI n0)] (n := 5) (Nat.le_of_ble_eq_true rfl) hargs
  refine W.eq hls ?_
  have hl : lv_has ls 5 [(0, .ref (L 0)), (1, .int (iI s0)), (2, .int (iI x)), (3, .int (iI n0))] := hl
  refine lv_aload_n hx hb d_Doc_find_0 rfl (lv_at hl 0 rfl) ?_
  refine mw_get (ci := 3) (i := 0) (v := .ref (L 2)) (C := R_Doc) (T := T_Doc) (N := 7) hx hb hts in_Doc hown hK hM hO rfl rfl 0 (by decide) (hts _ m_185) rfl d_Doc_find_1 ?_
  refine lv_iload_n hx hb d_Doc_find_4 rfl (lv_at hl 3 rfl) ?_
  refine lv_iconst (v := iI (0)) hx hb d_Doc_find_5 rfl ?_
  refine mw_rdV (i := 2) (As := [.int (iI n0), .int (iI 0)]) (rest := []) ⟨hx, hb, hml, hown, hts⟩ hK hM hS rfl hT.1 rfl (c_Bytes_has l D g lo L κ 2 3 2000 nT zT bT hT n0 0 (by omega) (by omega)) (cwV 2 hts (gV m_226 m_227 m_228 m_52 m_229) rfl rfl rfl (by decide +kernel) ⟨Nat.le_of_ble_eq_true rfl, Nat.le_of_ble_eq_true rfl⟩) rfl hl.1 rfl (Nat.le_of_ble_eq_true rfl) d_Doc_find_6 ⟨Nat.le_of_ble_eq_true rfl, Nat.le_of_ble_eq_true rfl⟩ (fun H locs hM hS => ?_)
  refine ia_ifz_ne (x := bHas zT n0 0) (tgt := 14) hx hb d_Doc_find_9 (by decide) (fun c1 => ?_) (fun c1 => ?_)
  · have hb1 := bHas_iff.mp (by assumption)
    refine lv_aload_n hx hb d_Doc_find_14 rfl (lv_at hl 0 rfl) ?_
    refine lv_iload_n hx hb d_Doc_find_15 rfl (lv_at hl 1 rfl) ?_
    refine lv_iload_n hx hb d_Doc_find_16 rfl (lv_at hl 2 rfl) ?_
    refine mw_callV (i := 0) (As := [.int (iI s0), .int (iI x)]) (rest := []) ⟨hx, hb, hml, hown, hts⟩ hK hM hS rfl hO rfl (c_Doc_hasNode l D g lo L κ scn fpl zT bT zF bF T cnt d zS bS ⟨hO, ⟨fA, hA1, hA2⟩, ⟨_, hT⟩, ⟨_, hF⟩, hN, ⟨_, _, _, _, hR⟩, ⟨nS, hSl⟩, hd⟩ (by omega) s0 x (by omega) (by omega) hOK) (cwV 2 hts (gV m_378 m_380 m_8 m_51 m_381) rfl rfl rfl (by decide +kernel) ⟨Nat.le_of_ble_eq_true rfl, Nat.le_of_ble_eq_true rfl⟩) rfl hl.1 rfl (Nat.le_of_ble_eq_true rfl) d_Doc_find_17 ⟨Nat.le_of_ble_eq_true rfl, Nat.le_of_ble_eq_true rfl⟩ (fun v2 L2 κ2 H locs hp2 hM hS => ?_)
    obtain ⟨sc2, T2, cn2, d2, hTb2⟩ : ∃ (za : Int) (zb : Nat → Nat → Int) (zc : Nat) (zd : Nat), dTab scn s0 T cnt d zS bS = (za, zb, zc, zd) := ⟨_, _, _, _, rfl⟩
    have hsc2 := dTab_r hTb2 (by omega)
    rw [hTb2] at hp2
    obtain ⟨rfl, rfl, hW2, hk2⟩ := hp2
    have hW2 : dbs g L κ2 sc2 fpl zT bT zF bF T2 cn2 d2 zS bS := hW2
    obtain ⟨hO_2, ⟨fA, hA1_2, hA2_2⟩, ⟨nT_2, hT_2⟩, ⟨nF_2, hF_2⟩, hN_2, ⟨ra_2, ri_2, rf_2, rp_2, hR_2⟩, ⟨nS_2, hSl_2⟩, hd_2⟩ := hW2
    have hct_2 := hT_2.2.2.1
    have hcf_2 := hF_2.2.2.1
    have hcn_2 := hN_2.2.2.1
    refine ia_ifz_eq (x := dHas s0 x cn2) (tgt := 40) hx hb d_Doc_find_20 (by decide) (fun c3 => ?_) (fun c3 => ?_)
    · refine lv_iconst (v := iI (-1)) hx hb d_Doc_find_40 rfl ?_
      refine lv_istore (lv' := [(4, .int (iI (-1))), (0, .ref (L 0)), (1, .int (iI s0)), (2, .int (iI x)), (3, .int (iI n0))]) hx hb d_Doc_find_41 hl (by decide) rfl (fun ls hl => ?_)
      refine lv_aload_n hx hb d_Doc_find_43 rfl (lv_at hl 1 rfl) ?_
      refine mw_get (ci := 3) (i := 0) (v := .ref (L 2)) (C := R_Doc) (T := T_Doc) (N := 7) hx hb hts in_Doc hown hK hM hO_2 rfl rfl 0 (by decide) (hts _ m_185) rfl d_Doc_find_44 ?_
      refine mw_callV (i := 2) (As := []) (rest := []) ⟨hx, hb, hml, hown, hts⟩ hK hM hS rfl hT_2.1 rfl (c_Bytes_clear l D g lo L κ2 2 3 2000 nT_2 zT bT hT_2 ) (cwV 0 hts (gV m_358 m_359 m_360 m_52 m_361) rfl rfl rfl (by decide +kernel) ⟨Nat.le_of_ble_eq_true rfl, Nat.le_of_ble_eq_true rfl⟩) rfl hl.1 rfl (Nat.le_of_ble_eq_true rfl) d_Doc_find_47 ⟨Nat.le_of_ble_eq_true rfl, Nat.le_of_ble_eq_true rfl⟩ (fun v4 L4 κ4 H locs hp4 hM hS => ?_)
      obtain ⟨rfl, rfl, hB4, hk4⟩ := hp4
      have hB5 := bxs_keep hF_2 (hk4 4 (by omega) (by omega)) (hk4 5 (by omega) (by omega)) rfl
      have hN6 := nds_keep hN_2 (fun r h1 h2 => hk4 r (by omega) (by omega)) (fun r h1 h2 => rfl) rfl
      have hO7 := dob_keep hO_2 (hk4 0 (by omega) (by omega)) rfl rfl rfl rfl rfl
      have hR8 := rds_keep hR_2 (hk4 14 (by omega) (by omega)) rfl rfl
      have hF9 : ∀ k, k < 8 → bxs g L κ4 (16 + 2 * k) (17 + 2 * k) 2000 (nS_2 k) (zS k) (bS k) := fun k h1 => bxs_keep (hSl_2 k h1) (hk4 ((16 + 2 * k)) (by omega) (by omega)) (hk4 ((17 + 2 * k)) (by omega) (by omega)) rfl
      have e10 := (hk4 1 (by omega) (by omega)).trans hA1_2
      refine lv_iload hx hb d_Doc_find_50 (lv_at hl 0 rfl) ?_
      exact mw_iret hx hb hr hM hS hlocks d_Doc_find_52 (by rw [hTb2]; exact ⟨⟨rfl, fun r h => rfl, fun r h => by rw [hk4 r (by omega) (by omega), hk2 r (by omega)]⟩, Or.inr (⟨by assumption, congrArg (fun z => some (Value.int (iI z))) (show (-1 : Int) = dFind s0 x n0 T2 cn2 zT bT zS bS by unfold dFind; rw [if_neg (zne (by assumption))]), ⟨hO7, ⟨fA, e10, hA2_2⟩, ⟨_, hB4⟩, ⟨_, hB5⟩, hN6, ⟨_, _, _, _, hR8⟩, ⟨nS_2, hF9⟩, hd_2⟩⟩)⟩)
    · have hh1 := dHas_iff.mp (by assumption)
      obtain ⟨hs2, hd2⟩ := dTab_d hTb2 hh1.1 hd.1
      subst hd2
      have hs2 := hs2.symm
      subst hs2
      have hB11 := hSl_2 (s0 : Int).toNat (by omega)
      have r12 := hB11.2.2.1
      refine lv_aload_n hx hb d_Doc_find_23 rfl (lv_at hl 0 rfl) ?_
      refine mw_get (ci := 3) (i := 0) (v := .ref (L 6)) (C := R_Doc) (T := T_Doc) (N := 7) hx hb hts in_Doc hown hK hM hO_2 rfl rfl 3 (by decide) (hts _ m_188) rfl d_Doc_find_24 ?_
      refine lv_iload_n hx hb d_Doc_find_27 rfl (lv_at hl 2 rfl) ?_
      refine lv_aload_n hx hb d_Doc_find_28 rfl (lv_at hl 0 rfl) ?_
      refine mw_get (ci := 3) (i := 0) (v := .ref (L 2)) (C := R_Doc) (T := T_Doc) (N := 7) hx hb hts in_Doc hown hK hM hO_2 rfl rfl 0 (by decide) (hts _ m_185) rfl d_Doc_find_29 ?_
      refine lv_iconst (v := iI (0)) hx hb d_Doc_find_32 rfl ?_
      refine lv_iload_n hx hb d_Doc_find_33 rfl (lv_at hl 3 rfl) ?_
      refine mw_rdV (i := 6) (As := [.int (iI x), .ref (L 2), .int (iI 0), .int (iI n0)]) (rest := []) ⟨hx, hb, hml, hown, hts⟩ hK hM hS rfl hN_2.1 rfl (c_Nodes_named l D g lo L κ2 T2 cn2 (16 + 2 * (s0 : Int).toNat) hN_2 (17 + 2 * (s0 : Int).toNat) 2000 (nS_2 (s0 : Int).toNat) (zS (s0 : Int).toNat) (bS (s0 : Int).toNat) hB11 2 3 2000 nT_2 zT bT hT_2 x 0 n0 (by omega) (by omega) (by omega)) (cwV 4 hts (gV m_457 m_328 m_329 m_56 m_330) rfl rfl rfl (by decide +kernel) ⟨Nat.le_of_ble_eq_true rfl, Nat.le_of_ble_eq_true rfl⟩) rfl hl.1 rfl (Nat.le_of_ble_eq_true rfl) d_Doc_find_34 ⟨Nat.le_of_ble_eq_true rfl, Nat.le_of_ble_eq_true rfl⟩ (fun H locs hM hS => ?_)
      have r13 := nNamed_r T2 cn2 (bS (s0 : Int).toNat) (zS (s0 : Int).toNat) x bT zT 0 n0
      refine lv_goto (tgt := 41) hx hb d_Doc_find_37 (by decide) ?_
      refine lv_istore (lv' := [(4, .int (iI (nNamed T2 cn2 (bS (s0 : Int).toNat) (zS (s0 : Int).toNat) x bT zT 0 n0))), (0, .ref (L 0)), (1, .int (iI s0)), (2, .int (iI x)), (3, .int (iI n0))]) hx hb d_Doc_find_41 hl (by decide) rfl (fun ls hl => ?_)
      refine lv_aload_n hx hb d_Doc_find_43 rfl (lv_at hl 1 rfl) ?_
      refine mw_get (ci := 3) (i := 0) (v := .ref (L 2)) (C := R_Doc) (T := T_Doc) (N := 7) hx hb hts in_Doc hown hK hM hO_2 rfl rfl 0 (by decide) (hts _ m_185) rfl d_Doc_find_44 ?_
      refine mw_callV (i := 2) (As := []) (rest := []) ⟨hx, hb, hml, hown, hts⟩ hK hM hS rfl hT_2.1 rfl (c_Bytes_clear l D g lo L κ2 2 3 2000 nT_2 zT bT hT_2 ) (cwV 0 hts (gV m_358 m_359 m_360 m_52 m_361) rfl rfl rfl (by decide +kernel) ⟨Nat.le_of_ble_eq_true rfl, Nat.le_of_ble_eq_true rfl⟩) rfl hl.1 rfl (Nat.le_of_ble_eq_true rfl) d_Doc_find_47 ⟨Nat.le_of_ble_eq_true rfl, Nat.le_of_ble_eq_true rfl⟩ (fun v14 L14 κ14 H locs hp14 hM hS => ?_)
      obtain ⟨rfl, rfl, hB14, hk14⟩ := hp14
      have hB15 := bxs_keep hF_2 (hk14 4 (by omega) (by omega)) (hk14 5 (by omega) (by omega)) rfl
      have hN16 := nds_keep hN_2 (fun r h1 h2 => hk14 r (by omega) (by omega)) (fun r h1 h2 => rfl) rfl
      have hB17 := bxs_keep hB11 (hk14 (16 + 2 * (s0 : Int).toNat) (by omega) (by omega)) (hk14 (17 + 2 * (s0 : Int).toNat) (by omega) (by omega)) rfl
      have hO18 := dob_keep hO_2 (hk14 0 (by omega) (by omega)) rfl rfl rfl rfl rfl
      have hR19 := rds_keep hR_2 (hk14 14 (by omega) (by omega)) rfl rfl
      have hF20 : ∀ k, k < 8 → bxs g L κ14 (16 + 2 * k) (17 + 2 * k) 2000 (nS_2 k) (zS k) (bS k) := fun k h1 => bxs_keep (hSl_2 k h1) (hk14 ((16 + 2 * k)) (by omega) (by omega)) (hk14 ((17 + 2 * k)) (by omega) (by omega)) rfl
      have e21 := (hk14 1 (by omega) (by omega)).trans hA1_2
      refine lv_iload hx hb d_Doc_find_50 (lv_at hl 0 rfl) ?_
      exact mw_iret hx hb hr hM hS hlocks d_Doc_find_52 (by rw [hTb2]; exact ⟨⟨rfl, fun r h => rfl, fun r h => by rw [hk14 r (by omega) (by omega), hk2 r (by omega)]⟩, Or.inr (⟨by assumption, congrArg (fun z => some (Value.int (iI z))) (show (nNamed T2 cn2 (bS (s0 : Int).toNat) (zS (s0 : Int).toNat) x bT zT 0 n0 : Int) = dFind s0 x n0 T2 cn2 zT bT zS bS by unfold dFind; rw [if_pos (by assumption)]), ⟨hO18, ⟨fA, e21, hA2_2⟩, ⟨_, hB14⟩, ⟨_, hB15⟩, hN16, ⟨_, _, _, _, hR19⟩, ⟨nS_2, hF20⟩, hd_2⟩⟩)⟩)
  · refine lv_iconst (v := iI (-1)) hx hb d_Doc_find_12 rfl ?_
    exact mw_iret hx hb hr hM hS hlocks d_Doc_find_13 (by exact ⟨⟨rfl, fun r h => rfl, fun r h => rfl⟩, Or.inl ⟨by assumption, rfl, ⟨hO, ⟨fA, hA1, hA2⟩, ⟨_, hT⟩, ⟨_, hF⟩, hN, ⟨_, _, _, _, hR⟩, ⟨nS, hSl⟩, hd⟩⟩⟩)
set_option maxHeartbeats 4000000 in
set_option maxRecDepth 100000 in
theorem c_Doc_set (l : Launch) (D : va_G) (g : Nat → ClassId) (lo : Nat) (L : Nat → Nat) (κ : Nat → Option va_E) (scn fpl : Int) (zT : Nat) (bT : Nat → Int) (zF : Nat) (bF : Nat → Int) (T : Nat → Nat → Int) (cnt d : Nat) (zS : Nat → Nat) (bS : Nat → Nat → Int) (hW : dbs g L κ scn fpl zT bT zF bF T cnt d zS bS) (hsc : -1 ≤ scn ∧ scn < 8) (s0 x v0 : Int) (hs0 : -2147483648 ≤ s0 ∧ s0 < 2147483648) (hx : -2147483648 ≤ x ∧ x < 2147483648) (hv0 : -9223372036854775808 ≤ v0 ∧ v0 < 9223372036854775808) (hOK : dOK scn s0 T zS bS) : Met l y_Doc_set w_Doc_set ({ frames := 5, cells := 0, slots := 0, locals := 119 }) (mwP D vwCl (tyL g) lo L κ [.ref (L 0), .int (iI s0), .int (iI x), .long (lI v0)]) (mwQ D vwCl lo (fun v L1 κ1 => dFr L L1 κ κ1 ∧ ((dSetOK s0 x v0 (dTab scn s0 T cnt d zS bS).2.1 (dTab scn s0 T cnt d zS bS).2.2.1 = false ∧ v = some (.int (iI (bI false))) ∧ dbs g L1 κ1 ((dTab scn s0 T cnt d zS bS).1) fpl zT bT zF bF ((dTab scn s0 T cnt d zS bS).2.1) ((dTab scn s0 T cnt d zS bS).2.2.1) ((dTab scn s0 T cnt d zS bS).2.2.2) zS bS) ∨ (dSetOK s0 x v0 (dTab scn s0 T cnt d zS bS).2.1 (dTab scn s0 T cnt d zS bS).2.2.1 = true ∧ v = some (.int (iI (bI true))) ∧ dbs g L1 κ1 ((dTab scn s0 T cnt d zS bS).1) fpl zT bT zF bF ((dTab scn s0 T cnt d zS bS).2.1) ((dTab scn s0 T cnt d zS bS).2.2.1) ((dTab scn s0 T cnt d zS bS).2.2.2) (va_up zS s0.toNat (zS s0.toNat)) (va_up bS s0.toNat (bPn (zS s0.toNat) (nCell (dTab scn s0 T cnt d zS bS).2.1 (dTab scn s0 T cnt d zS bS).2.2.1 4 x) v0 (kWidth (nCell (dTab scn s0 T cnt d zS bS).2.1 (dTab scn s0 T cnt d zS bS).2.2.1 0 x)) 0 (bS s0.toNat))))))) 0 0 (fun q => lo ≤ q) := by
  obtain ⟨hO, ⟨fA, hA1, hA2⟩, ⟨nT, hT⟩, ⟨nF, hF⟩, hN, ⟨ra, ri, rf, rp, hR⟩, ⟨nS, hSl⟩, hd⟩ := hW
  have hct := hT.2.2.1
  have hcf := hF.2.2.1
  have hcn := hN.2.2.1
  refine Met.ofW (cc := b_Doc_set) (maxL := 7) (ret := (Option.some Jvm.ClassFile.FieldType.boolean)) (by decide) rfl ?_
  intro p e s m args below meth c s₁ B hml hpre
  obtain ⟨hargs, hM, hK⟩ := hpre
  have hx := B.exec
  have hb := B.bytes
  have hr := B.returns
  have hts : ∀ w ∈ wA, w.before args s = true := fun w h => atoms_spec (ws := w_Doc_set) B.pre w (List.mem_cons_of_mem _ h)
  have hown : s.vm.findClass R_Doc = some m.cls := findClass_of_methodNamed B.named
  have hlocks := B.notSynchronized
  have hS : va_S (fun q => lo ≤ q) s.heap s.heap [] := va_S.rf
  obtain ⟨ls, hls, hl⟩ := mw_entry (m := m) [.ref (L 0), .int (iI s0), .int (iI x), .long (lI v0)] (n := 7) (Nat.le_of_ble_eq_true rfl) hargs
  refine W.eq hls ?_
  have hl : lv_has ls 7 [(0, .ref (L 0)), (1, .int (iI s0)), (2, .int (iI x)), (3, .long (lI v0))] := hl
  refine lv_aload_n hx hb d_Doc_set_0 rfl (lv_at hl 0 rfl) ?_
  refine lv_iload_n hx hb d_Doc_set_1 rfl (lv_at hl 1 rfl) ?_
  refine lv_iload_n hx hb d_Doc_set_2 rfl (lv_at hl 2 rfl) ?_
  refine mw_callV (i := 0) (As := [.int (iI s0), .int (iI x)]) (rest := []) ⟨hx, hb, hml, hown, hts⟩ hK hM hS rfl hO rfl (c_Doc_hasNode l D g lo L κ scn fpl zT bT zF bF T cnt d zS bS ⟨hO, ⟨fA, hA1, hA2⟩, ⟨_, hT⟩, ⟨_, hF⟩, hN, ⟨_, _, _, _, hR⟩, ⟨nS, hSl⟩, hd⟩ (by omega) s0 x (by omega) (by omega) hOK) (cwV 2 hts (gV m_378 m_380 m_8 m_51 m_381) rfl rfl rfl (by decide +kernel) ⟨Nat.le_of_ble_eq_true rfl, Nat.le_of_ble_eq_true rfl⟩) rfl hl.1 rfl (Nat.le_of_ble_eq_true rfl) d_Doc_set_3 ⟨Nat.le_of_ble_eq_true rfl, Nat.le_of_ble_eq_true rfl⟩ (fun v1 L1 κ1 H locs hp1 hM hS => ?_)
  obtain ⟨sc1, T1, cn1, d1, hTb1⟩ : ∃ (za : Int) (zb : Nat → Nat → Int) (zc : Nat) (zd : Nat), dTab scn s0 T cnt d zS bS = (za, zb, zc, zd) := ⟨_, _, _, _, rfl⟩
  have hsc1 := dTab_r hTb1 (by omega)
  rw [hTb1] at hp1
  obtain ⟨rfl, rfl, hW1, hk1⟩ := hp1
  have hW1 : dbs g L κ1 sc1 fpl zT bT zF bF T1 cn1 d1 zS bS := hW1
  obtain ⟨hO_1, ⟨fA, hA1_1, hA2_1⟩, ⟨nT_1, hT_1⟩, ⟨nF_1, hF_1⟩, hN_1, ⟨ra_1, ri_1, rf_1, rp_1, hR_1⟩, ⟨nS_1, hSl_1⟩, hd_1⟩ := hW1
  have hct_1 := hT_1.2.2.1
  have hcf_1 := hF_1.2.2.1
  have hcn_1 := hN_1.2.2.1
  refine ia_ifz_ne (x := dHas s0 x cn1) (tgt := 11) hx hb d_Doc_set_6 (by decide) (fun c2 => ?_) (fun c2 => ?_)
  · have hh1 := dHas_iff.mp (by assumption)
    obtain ⟨hs2, hd2⟩ := dTab_d hTb1 hh1.1 hd.1
    subst hd2
    have hs2 := hs2.symm
    subst hs2
    have hB3 := hSl_1 (s0 : Int).toNat (by omega)
    have r4 := hB3.2.2.1
    refine lv_aload_n hx hb d_Doc_set_11 rfl (lv_at hl 0 rfl) ?_
    refine mw_get (ci := 3) (i := 0) (v := .ref (L 6)) (C := R_Doc) (T := T_Doc) (N := 7) hx hb hts in_Doc hown hK hM hO_1 rfl rfl 3 (by decide) (hts _ m_188) rfl d_Doc_set_12 ?_
    refine lv_iload_n hx hb d_Doc_set_15 rfl (lv_at hl 2 rfl) ?_
    refine mw_rdV (i := 6) (As := [.int (iI x)]) (rest := []) ⟨hx, hb, hml, hown, hts⟩ hK hM hS rfl hN_1.1 rfl (c_Nodes_kind l D g lo L κ1 T1 cn1 (16 + 2 * (s0 : Int).toNat) hN_1 x (by omega)) (cwV 1 hts (gV m_421 m_313 m_314 m_56 m_315) rfl rfl rfl (by decide +kernel) ⟨Nat.le_of_ble_eq_true rfl, Nat.le_of_ble_eq_true rfl⟩) rfl hl.1 rfl (Nat.le_of_ble_eq_true rfl) d_Doc_set_16 ⟨Nat.le_of_ble_eq_true rfl, Nat.le_of_ble_eq_true rfl⟩ (fun H locs hM hS => ?_)
    have r5 := nCell_r (cnt := cn1) hN_1.2.2.2.1 0 x
    refine lv_istore (lv' := [(5, .int (iI (nCell T1 cn1 0 x))), (0, .ref (L 0)), (1, .int (iI s0)), (2, .int (iI x)), (3, .long (lI v0))]) hx hb d_Doc_set_19 hl (by decide) rfl (fun ls hl => ?_)
    refine lv_iload hx hb d_Doc_set_21 (lv_at hl 0 rfl) ?_
    refine mw_rdS (As := [.int (iI (nCell T1 cn1 0 x))]) (rest := []) ⟨hx, hb, hml, hown, hts⟩ hK hM hS (c_Kinds_width l D g lo L κ1 (nCell T1 cn1 0 x) (by omega)) (va_cwS 1 hts (gT m_446 m_292 m_59 m_293) rfl rfl rfl (by decide +kernel) ⟨Nat.le_of_ble_eq_true rfl, Nat.le_of_ble_eq_true rfl⟩) rfl hl.1 rfl (Nat.le_of_ble_eq_true rfl) d_Doc_set_23 ⟨Nat.le_of_ble_eq_true rfl, Nat.le_of_ble_eq_true rfl⟩ (fun H locs hM hS => ?_)
    have r6 := kWidth_r (nCell T1 cn1 0 x)
    refine lv_istore (lv' := [(6, .int (iI (kWidth (nCell T1 cn1 0 x)))), (5, .int (iI (nCell T1 cn1 0 x))), (0, .ref (L 0)), (1, .int (iI s0)), (2, .int (iI x)), (3, .long (lI v0))]) hx hb d_Doc_set_26 hl (by decide) rfl (fun ls hl => ?_)
    refine lv_iload hx hb d_Doc_set_28 (lv_at hl 0 rfl) ?_
    refine ia_if_eq (a := kWidth (nCell T1 cn1 0 x)) (tgt := 42) hx hb d_Doc_set_30 (by decide) (by omega) (fun c7 => ?_) (fun c7 => ?_)
    · refine lv_iconst (v := iI (0)) hx hb d_Doc_set_42 rfl ?_
      exact mw_zret (v := false) hx hb hr hM hS hlocks d_Doc_set_43 (by rw [hTb1]; exact ⟨⟨rfl, fun r h => rfl, fun r h => by rw [hk1 r (by omega)]⟩, Or.inl ⟨(show dSetOK s0 x v0 T1 cn1 = false by unfold dSetOK; first | (rw [show dHas s0 x cn1 = false by assumption]; rfl) | (rw [decide_eq_false (show ¬ ¬ kWidth (nCell T1 cn1 0 x) = 0 by omega)]; cases dHas s0 x cn1 <;> rfl) | (rw [show kAllows (nCell T1 cn1 0 x) v0 = false by assumption]; cases dHas s0 x cn1 <;> cases decide (¬ kWidth (nCell T1 cn1 0 x) = 0) <;> rfl)), rfl, ⟨hO_1, ⟨fA, hA1_1, hA2_1⟩, ⟨_, hT_1⟩, ⟨_, hF_1⟩, hN_1, ⟨_, _, _, _, hR_1⟩, ⟨nS_1, hSl_1⟩, hd_1⟩⟩⟩)
    · refine lv_iload hx hb d_Doc_set_33 (lv_at hl 1 rfl) ?_
      refine lv_lload_n hx hb d_Doc_set_35 rfl (lv_at hl 5 rfl) ?_
      refine mw_rdS (As := [.int (iI (nCell T1 cn1 0 x)), .long (lI v0)]) (rest := []) ⟨hx, hb, hml, hown, hts⟩ hK hM hS (c_Kinds_allows l D g lo L κ1 (nCell T1 cn1 0 x) v0 (by omega) (by omega)) (va_cwS 2 hts (gT m_472 m_473 m_59 m_474) rfl rfl rfl (by decide +kernel) ⟨Nat.le_of_ble_eq_true rfl, Nat.le_of_ble_eq_true rfl⟩) rfl hl.1 rfl (Nat.le_of_ble_eq_true rfl) d_Doc_set_36 ⟨Nat.le_of_ble_eq_true rfl, Nat.le_of_ble_eq_true rfl⟩ (fun H locs hM hS => ?_)
      refine ia_ifz_ne (x := kAllows (nCell T1 cn1 0 x) v0) (tgt := 44) hx hb d_Doc_set_39 (by decide) (fun c8 => ?_) (fun c8 => ?_)
      · have hF9 : ∀ k, k < 8 → k ≠ (s0 : Int).toNat → bxs g L κ1 (16 + 2 * k) (17 + 2 * k) 2000 (nS_1 k) (zS k) (bS k) := fun k h1 _ => hSl_1 k h1
        refine lv_aload_n hx hb d_Doc_set_44 rfl (lv_at hl 2 rfl) ?_
        refine mw_get (ci := 3) (i := 0) (v := .ref (L 1)) (C := R_Doc) (T := T_Doc) (N := 7) hx hb hts in_Doc hown hK hM hO_1 rfl rfl 1 (by decide) (hts _ m_186) rfl d_Doc_set_45 ?_
        refine lv_iload_n hx hb d_Doc_set_48 rfl (lv_at hl 3 rfl) ?_
        refine mw_aldq (a := s0) (i := 1) hx hb hK hM 2 hA1_1 rfl rfl (by omega) (by omega) (hA2_1 (s0 : Int).toNat (by omega)) d_Doc_set_49 ?_
        refine lv_aload_n hx hb d_Doc_set_50 rfl (lv_at hl 2 rfl) ?_
        refine mw_get (ci := 3) (i := 0) (v := .ref (L 6)) (C := R_Doc) (T := T_Doc) (N := 7) hx hb hts in_Doc hown hK hM hO_1 rfl rfl 3 (by decide) (hts _ m_188) rfl d_Doc_set_51 ?_
        refine lv_iload_n hx hb d_Doc_set_54 rfl (lv_at hl 4 rfl) ?_
        refine mw_rdV (i := 6) (As := [.int (iI x)]) (rest := [.ref (L (16 + 2 * (s0 : Int).toNat))]) ⟨hx, hb, hml, hown, hts⟩ hK hM hS rfl hN_1.1 rfl (c_Nodes_value l D g lo L κ1 T1 cn1 (16 + 2 * (s0 : Int).toNat) hN_1 x (by omega)) (cwV 1 hts (gV m_442 m_443 m_444 m_56 m_445) rfl rfl rfl (by decide +kernel) ⟨Nat.le_of_ble_eq_true rfl, Nat.le_of_ble_eq_true rfl⟩) rfl hl.1 rfl (Nat.le_of_ble_eq_true rfl) d_Doc_set_55 ⟨Nat.le_of_ble_eq_true rfl, Nat.le_of_ble_eq_true rfl⟩ (fun H locs hM hS => ?_)
        have r10 := nCell_r (cnt := cn1) hN_1.2.2.2.1 4 x
        refine lv_iload hx hb d_Doc_set_58 (lv_at hl 0 rfl) ?_
        refine lv_lload_n hx hb d_Doc_set_60 rfl (lv_at hl 5 rfl) ?_
        refine mw_callV (i := 16 + 2 * (s0 : Int).toNat) (As := [.int (iI (nCell T1 cn1 4 x)), .int (iI (kWidth (nCell T1 cn1 0 x))), .long (lI v0)]) (rest := []) ⟨hx, hb, hml, hown, hts⟩ hK hM hS rfl hB3.1 rfl (c_Bytes_putNumber l D g lo L κ1 (16 + 2 * (s0 : Int).toNat) (17 + 2 * (s0 : Int).toNat) 2000 (nS_1 (s0 : Int).toNat) (zS (s0 : Int).toNat) (bS (s0 : Int).toNat) hB3 (nCell T1 cn1 4 x) (kWidth (nCell T1 cn1 0 x)) v0 (by omega) (by omega) (by omega)) (cwV 3 hts (gV m_513 m_118 m_119 m_52 m_120) rfl rfl rfl (by decide +kernel) ⟨Nat.le_of_ble_eq_true rfl, Nat.le_of_ble_eq_true rfl⟩) rfl hl.1 rfl (Nat.le_of_ble_eq_true rfl) d_Doc_set_61 ⟨Nat.le_of_ble_eq_true rfl, Nat.le_of_ble_eq_true rfl⟩ (fun v11 L11 κ11 H locs hp11 hM hS => ?_)
        obtain ⟨rfl, rfl, hB11, hk11⟩ := hp11
        have hB12 := bxs_keep hT_1 (hk11 2 (by omega) (by omega)) (hk11 3 (by omega) (by omega)) rfl
        have hB13 := bxs_keep hF_1 (hk11 4 (by omega) (by omega)) (hk11 5 (by omega) (by omega)) rfl
        have hN14 := nds_keep hN_1 (fun r h1 h2 => hk11 r (by omega) (by omega)) (fun r h1 h2 => rfl) rfl
        have hO15 := dob_keep hO_1 (hk11 0 (by omega) (by omega)) rfl rfl rfl rfl rfl
        have hR16 := rds_keep hR_1 (hk11 14 (by omega) (by omega)) rfl rfl
        have hF17 : ∀ k, k < 8 → k ≠ (s0 : Int).toNat → bxs g L κ11 (16 + 2 * k) (17 + 2 * k) 2000 (nS_1 k) (zS k) (bS k) := fun k h1 h2 => bxs_keep (hF9 k h1 h2) (hk11 ((16 + 2 * k)) (by omega) (by omega)) (hk11 ((17 + 2 * k)) (by omega) (by omega)) rfl
        have e18 := (hk11 1 (by omega) (by omega)).trans hA1_1
        refine lv_iconst (v := iI (1)) hx hb d_Doc_set_64 rfl ?_
        exact mw_zret (v := true) hx hb hr hM hS hlocks d_Doc_set_65 (by rw [hTb1]; exact ⟨⟨rfl, fun r h => rfl, fun r h => by rw [hk11 r (by omega) (by omega), hk1 r (by omega)]⟩, Or.inr (⟨(show dSetOK s0 x v0 T1 cn1 = true by unfold dSetOK; rw [show dHas s0 x cn1 = true by assumption, show kAllows (nCell T1 cn1 0 x) v0 = true by assumption, decide_eq_true (show ¬ kWidth (nCell T1 cn1 0 x) = 0 by omega)]; rfl), rfl, ⟨hO15, ⟨fA, e18, hA2_1⟩, ⟨_, hB12⟩, ⟨_, hB13⟩, hN14, ⟨_, _, _, _, hR16⟩, ⟨va_up nS_1 (s0 : Int).toNat (nS_1 (s0 : Int).toNat), fun k h1 => by
    by_cases q : k = (s0 : Int).toNat
    · rw [q, va_up_self, va_up_self, va_up_self]; exact hB11
    · rw [va_up_ne _ _ q, va_up_ne _ _ q, va_up_ne _ _ q]; exact hF17 k h1 q⟩, hd_1⟩⟩)⟩)
      · refine lv_iconst (v := iI (0)) hx hb d_Doc_set_42 rfl ?_
        exact mw_zret (v := false) hx hb hr hM hS hlocks d_Doc_set_43 (by rw [hTb1]; exact ⟨⟨rfl, fun r h => rfl, fun r h => by rw [hk1 r (by omega)]⟩, Or.inl ⟨(show dSetOK s0 x v0 T1 cn1 = false by unfold dSetOK; first | (rw [show dHas s0 x cn1 = false by assumption]; rfl) | (rw [decide_eq_false (show ¬ ¬ kWidth (nCell T1 cn1 0 x) = 0 by omega)]; cases dHas s0 x cn1 <;> rfl) | (rw [show kAllows (nCell T1 cn1 0 x) v0 = false by assumption]; cases dHas s0 x cn1 <;> cases decide (¬ kWidth (nCell T1 cn1 0 x) = 0) <;> rfl)), rfl, ⟨hO_1, ⟨fA, hA1_1, hA2_1⟩, ⟨_, hT_1⟩, ⟨_, hF_1⟩, hN_1, ⟨_, _, _, _, hR_1⟩, ⟨nS_1, hSl_1⟩, hd_1⟩⟩⟩)
  · refine lv_iconst (v := iI (0)) hx hb d_Doc_set_9 rfl ?_
    exact mw_zret (v := false) hx hb hr hM hS hlocks d_Doc_set_10 (by rw [hTb1]; exact ⟨⟨rfl, fun r h => rfl, fun r h => by rw [hk1 r (by omega)]⟩, Or.inl ⟨(show dSetOK s0 x v0 T1 cn1 = false by unfold dSetOK; first | (rw [show dHas s0 x cn1 = false by assumption]; rfl) | (rw [decide_eq_false (show ¬ ¬ kWidth (nCell T1 cn1 0 x) = 0 by omega)]; cases dHas s0 x cn1 <;> rfl) | (rw [show kAllows (nCell T1 cn1 0 x) v0 = false by assumption]; cases dHas s0 x cn1 <;> cases decide (¬ kWidth (nCell T1 cn1 0 x) = 0) <;> rfl)), rfl, ⟨hO_1, ⟨fA, hA1_1, hA2_1⟩, ⟨_, hT_1⟩, ⟨_, hF_1⟩, hN_1, ⟨_, _, _, _, hR_1⟩, ⟨nS_1, hSl_1⟩, hd_1⟩⟩⟩)
set_option maxHeartbeats 4000000 in
set_option maxRecDepth 100000 in
theorem c_Doc_drop (l : Launch) (D : va_G) (g : Nat → ClassId) (lo : Nat) (L : Nat → Nat) (κ : Nat → Option va_E) (scn fpl : Int) (zT : Nat) (bT : Nat → Int) (zF : Nat) (bF : Nat → Int) (T : Nat → Nat → Int) (cnt d : Nat) (zS : Nat → Nat) (bS : Nat → Nat → Int) (hW : dbs g L κ scn fpl zT bT zF bF T cnt d zS bS) (hsc : -1 ≤ scn ∧ scn < 8) (s0 x : Int) (hs0 : -2147483648 ≤ s0 ∧ s0 < 2147483648) (hx : -2147483648 ≤ x ∧ x < 2147483648) (hOK : dOK scn s0 T zS bS) (hOKd : dDropOK s0 x (dTab scn s0 T cnt d zS bS).2.1 (dTab scn s0 T cnt d zS bS).2.2.1 (zS s0.toNat) (bS s0.toNat)) : Met l y_Doc_drop w_Doc_drop ({ frames := 5, cells := 0, slots := 0, locals := 119 }) (mwP D vwCl (tyL g) lo L κ [.ref (L 0), .int (iI s0), .int (iI x)]) (mwQ D vwCl lo (fun v L1 κ1 => dFr L L1 κ κ1 ∧ ((x = 0 ∧ v = some (.int (iI (bI false))) ∧ dbs g L1 κ1 scn fpl zT bT zF bF T cnt d zS bS) ∨ ((¬ x = 0 ∧ dHas s0 x (dTab scn s0 T cnt d zS bS).2.2.1 = false) ∧ v = some (.int (iI (bI false))) ∧ dbs g L1 κ1 ((dTab scn s0 T cnt d zS bS).1) fpl zT bT zF bF ((dTab scn s0 T cnt d zS bS).2.1) ((dTab scn s0 T cnt d zS bS).2.2.1) ((dTab scn s0 T cnt d zS bS).2.2.2) zS bS) ∨ ((¬ x = 0 ∧ dHas s0 x (dTab scn s0 T cnt d zS bS).2.2.1 = true) ∧ v = some (.int (iI (bI true))) ∧ dbs g L1 κ1 (-1) fpl zT bT zF bF ((dTab scn s0 T cnt d zS bS).2.1) ((dTab scn s0 T cnt d zS bS).2.2.1) ((dTab scn s0 T cnt d zS bS).2.2.2) (va_up zS s0.toNat ((dDz (dTab scn s0 T cnt d zS bS).2.1 (dTab scn s0 T cnt d zS bS).2.2.1 x (zS s0.toNat) (bS s0.toNat)).1 - (dDl (dTab scn s0 T cnt d zS bS).2.1 (dTab scn s0 T cnt d zS bS).2.2.1 x).toNat)) (va_up bS s0.toNat (dDropB (dTab scn s0 T cnt d zS bS).2.1 (dTab scn s0 T cnt d zS bS).2.2.1 x (zS s0.toNat) (dDz (dTab scn s0 T cnt d zS bS).2.1 (dTab scn s0 T cnt d zS bS).2.2.1 x (zS s0.toNat) (bS s0.toNat)).1 (dDz (dTab scn s0 T cnt d zS bS).2.1 (dTab scn s0 T cnt d zS bS).2.2.1 x (zS s0.toNat) (bS s0.toNat)).2)))))) 0 0 (fun q => lo ≤ q) := by
  obtain ⟨hO, ⟨fA, hA1, hA2⟩, ⟨nT, hT⟩, ⟨nF, hF⟩, hN, ⟨ra, ri, rf, rp, hR⟩, ⟨nS, hSl⟩, hd⟩ := hW
  have hct := hT.2.2.1
  have hcf := hF.2.2.1
  have hcn := hN.2.2.1
  refine Met.ofW (cc := b_Doc_drop) (maxL := 7) (ret := (Option.some Jvm.ClassFile.FieldType.boolean)) (by decide) rfl ?_
  intro p e s m args below meth c s₁ B hml hpre
  obtain ⟨hargs, hM, hK⟩ := hpre
  have hx := B.exec
  have hb := B.bytes
  have hr := B.returns
  have hts : ∀ w ∈ wA, w.before args s = true := fun w h => atoms_spec (ws := w_Doc_drop) B.pre w (List.mem_cons_of_mem _ h)
  have hown : s.vm.findClass R_Doc = some m.cls := findClass_of_methodNamed B.named
  have hlocks := B.notSynchronized
  have hS : va_S (fun q => lo ≤ q) s.heap s.heap [] := va_S.rf
  obtain ⟨ls, hls, hl⟩ := mw_entry (m := m) [.ref (L 0), .int (iI s0), .int (iI x)] (n := 7) (Nat.le_of_ble_eq_true rfl) hargs
  refine W.eq hls ?_
  have hl : lv_has ls 7 [(0, .ref (L 0)), (1, .int (iI s0)), (2, .int (iI x))] := hl
  refine lv_iload_n hx hb d_Doc_drop_0 rfl (lv_at hl 2 rfl) ?_
  refine ia_if_eq (a := x) (tgt := 13) hx hb d_Doc_drop_1 (by decide) (by omega) (fun c1 => ?_) (fun c1 => ?_)
  · refine lv_iconst (v := iI (0)) hx hb d_Doc_drop_13 rfl ?_
    exact mw_zret (v := false) hx hb hr hM hS hlocks d_Doc_drop_14 (by exact ⟨⟨rfl, fun r h => rfl, fun r h => rfl⟩, Or.inl ⟨(by omega), rfl, ⟨hO, ⟨fA, hA1, hA2⟩, ⟨_, hT⟩, ⟨_, hF⟩, hN, ⟨_, _, _, _, hR⟩, ⟨nS, hSl⟩, hd⟩⟩⟩)
  · refine lv_aload_n hx hb d_Doc_drop_4 rfl (lv_at hl 0 rfl) ?_
    refine lv_iload_n hx hb d_Doc_drop_5 rfl (lv_at hl 1 rfl) ?_
    refine lv_iload_n hx hb d_Doc_drop_6 rfl (lv_at hl 2 rfl) ?_
    refine mw_callV (i := 0) (As := [.int (iI s0), .int (iI x)]) (rest := []) ⟨hx, hb, hml, hown, hts⟩ hK hM hS rfl hO rfl (c_Doc_hasNode l D g lo L κ scn fpl zT bT zF bF T cnt d zS bS ⟨hO, ⟨fA, hA1, hA2⟩, ⟨_, hT⟩, ⟨_, hF⟩, hN, ⟨_, _, _, _, hR⟩, ⟨nS, hSl⟩, hd⟩ (by omega) s0 x (by omega) (by omega) hOK) (cwV 2 hts (gV m_378 m_380 m_8 m_51 m_381) rfl rfl rfl (by decide +kernel) ⟨Nat.le_of_ble_eq_true rfl, Nat.le_of_ble_eq_true rfl⟩) rfl hl.1 rfl (Nat.le_of_ble_eq_true rfl) d_Doc_drop_7 ⟨Nat.le_of_ble_eq_true rfl, Nat.le_of_ble_eq_true rfl⟩ (fun v2 L2 κ2 H locs hp2 hM hS => ?_)
    obtain ⟨sc2, T2, cn2, d2, hTb2⟩ : ∃ (za : Int) (zb : Nat → Nat → Int) (zc : Nat) (zd : Nat), dTab scn s0 T cnt d zS bS = (za, zb, zc, zd) := ⟨_, _, _, _, rfl⟩
    have hsc2 := dTab_r hTb2 (by omega)
    rw [hTb2] at hp2
    obtain ⟨rfl, rfl, hW2, hk2⟩ := hp2
    have hW2 : dbs g L κ2 sc2 fpl zT bT zF bF T2 cn2 d2 zS bS := hW2
    obtain ⟨hO_2, ⟨fA, hA1_2, hA2_2⟩, ⟨nT_2, hT_2⟩, ⟨nF_2, hF_2⟩, hN_2, ⟨ra_2, ri_2, rf_2, rp_2, hR_2⟩, ⟨nS_2, hSl_2⟩, hd_2⟩ := hW2
    have hct_2 := hT_2.2.2.1
    have hcf_2 := hF_2.2.2.1
    have hcn_2 := hN_2.2.2.1
    refine ia_ifz_ne (x := dHas s0 x cn2) (tgt := 15) hx hb d_Doc_drop_10 (by decide) (fun c3 => ?_) (fun c3 => ?_)
    · rw [hTb2] at hOKd
      have hOKe : dDropOK s0 x T2 cn2 (zS s0.toNat) (bS s0.toNat) := hOKd
      have hh1 := dHas_iff.mp (by assumption)
      obtain ⟨hs2, hd2⟩ := dTab_d hTb2 hh1.1 hd.1
      subst hd2
      have hs2 := hs2.symm
      subst hs2
      have hB4 := hSl_2 (s0 : Int).toNat (by omega)
      have r5 := hB4.2.2.1
      have hdo := hOKe (by assumption) (by omega)
      have hdo1 := hdo.1
      have hF6 : ∀ k, k < 8 → k ≠ (s0 : Int).toNat → bxs g L κ2 (16 + 2 * k) (17 + 2 * k) 2000 (nS_2 k) (zS k) (bS k) := fun k h1 _ => hSl_2 k h1
      refine lv_aload_n hx hb d_Doc_drop_15 rfl (lv_at hl 0 rfl) ?_
      refine mw_get (ci := 3) (i := 0) (v := .ref (L 1)) (C := R_Doc) (T := T_Doc) (N := 7) hx hb hts in_Doc hown hK hM hO_2 rfl rfl 1 (by decide) (hts _ m_186) rfl d_Doc_drop_16 ?_
      refine lv_iload_n hx hb d_Doc_drop_19 rfl (lv_at hl 1 rfl) ?_
      refine mw_aldq (a := s0) (i := 1) hx hb hK hM 2 hA1_2 rfl rfl (by omega) (by omega) (hA2_2 (s0 : Int).toNat (by omega)) d_Doc_drop_20 ?_
      refine lv_astore_n (lv' := [(3, .ref (L (16 + 2 * (s0 : Int).toNat))), (0, .ref (L 0)), (1, .int (iI s0)), (2, .int (iI x))]) hx hb d_Doc_drop_21 rfl hl (by decide) rfl (fun ls hl => ?_)
      refine lv_aload_n hx hb d_Doc_drop_22 rfl (lv_at hl 0 rfl) ?_
      refine mw_rdV (i := 16 + 2 * (s0 : Int).toNat) (As := []) (rest := []) ⟨hx, hb, hml, hown, hts⟩ hK hM hS rfl hB4.1 rfl (c_Bytes_size l D g lo L κ2 (16 + 2 * (s0 : Int).toNat) (17 + 2 * (s0 : Int).toNat) 2000 (nS_2 (s0 : Int).toNat) (zS (s0 : Int).toNat) (bS (s0 : Int).toNat) hB4 ) (cwV 0 hts (gV m_211 m_212 m_213 m_52 m_214) rfl rfl rfl (by decide +kernel) ⟨Nat.le_of_ble_eq_true rfl, Nat.le_of_ble_eq_true rfl⟩) rfl hl.1 rfl (Nat.le_of_ble_eq_true rfl) d_Doc_drop_23 ⟨Nat.le_of_ble_eq_true rfl, Nat.le_of_ble_eq_true rfl⟩ (fun H locs hM hS => ?_)
      refine lv_istore (lv' := [(4, .int (iI (((zS (s0 : Int).toNat : Nat) : Int)))), (3, .ref (L (16 + 2 * (s0 : Int).toNat))), (0, .ref (L 0)), (1, .int (iI s0)), (2, .int (iI x))]) hx hb d_Doc_drop_26 hl (by decide) rfl (fun ls hl => ?_)
      refine lv_aload_n hx hb d_Doc_drop_28 rfl (lv_at hl 2 rfl) ?_
      refine mw_get (ci := 3) (i := 0) (v := .ref (L 6)) (C := R_Doc) (T := T_Doc) (N := 7) hx hb hts in_Doc hown hK hM hO_2 rfl rfl 3 (by decide) (hts _ m_188) rfl d_Doc_drop_29 ?_
      refine lv_iload_n hx hb d_Doc_drop_32 rfl (lv_at hl 4 rfl) ?_
      refine mw_rdV (i := 6) (As := [.int (iI x)]) (rest := []) ⟨hx, hb, hml, hown, hts⟩ hK hM hS rfl hN_2.1 rfl (c_Nodes_parent l D g lo L κ2 T2 cn2 (16 + 2 * (s0 : Int).toNat) hN_2 x (by omega)) (cwV 1 hts (gV m_422 m_280 m_281 m_56 m_282) rfl rfl rfl (by decide +kernel) ⟨Nat.le_of_ble_eq_true rfl, Nat.le_of_ble_eq_true rfl⟩) rfl hl.1 rfl (Nat.le_of_ble_eq_true rfl) d_Doc_drop_33 ⟨Nat.le_of_ble_eq_true rfl, Nat.le_of_ble_eq_true rfl⟩ (fun H locs hM hS => ?_)
      have r7 := nCell_r (cnt := cn2) hN_2.2.2.2.1 1 x
      refine lv_istore (lv' := [(5, .int (iI (nCell T2 cn2 1 x))), (4, .int (iI (((zS (s0 : Int).toNat : Nat) : Int)))), (3, .ref (L (16 + 2 * (s0 : Int).toNat))), (0, .ref (L 0)), (1, .int (iI s0)), (2, .int (iI x))]) hx hb d_Doc_drop_36 hl (by decide) rfl (fun ls hl => ?_)
      refine lv_aload_n hx hb d_Doc_drop_38 rfl (lv_at hl 3 rfl) ?_
      refine mw_get (ci := 3) (i := 0) (v := .ref (L 6)) (C := R_Doc) (T := T_Doc) (N := 7) hx hb hts in_Doc hown hK hM hO_2 rfl rfl 3 (by decide) (hts _ m_188) rfl d_Doc_drop_39 ?_
      refine lv_iload hx hb d_Doc_drop_42 (lv_at hl 0 rfl) ?_
      refine mw_rdV (i := 6) (As := [.int (iI (nCell T2 cn2 1 x))]) (rest := []) ⟨hx, hb, hml, hown, hts⟩ hK hM hS rfl hN_2.1 rfl (c_Nodes_kind l D g lo L κ2 T2 cn2 (16 + 2 * (s0 : Int).toNat) hN_2 (nCell T2 cn2 1 x) (by omega)) (cwV 1 hts (gV m_421 m_313 m_314 m_56 m_315) rfl rfl rfl (by decide +kernel) ⟨Nat.le_of_ble_eq_true rfl, Nat.le_of_ble_eq_true rfl⟩) rfl hl.1 rfl (Nat.le_of_ble_eq_true rfl) d_Doc_drop_44 ⟨Nat.le_of_ble_eq_true rfl, Nat.le_of_ble_eq_true rfl⟩ (fun H locs hM hS => ?_)
      have r8 := nCell_r (cnt := cn2) hN_2.2.2.2.1 0 (nCell T2 cn2 1 x)
      refine lv_iconst (v := iI (4)) hx hb d_Doc_drop_47 rfl ?_
      refine ia_icmp_ne (a := nCell T2 cn2 0 (nCell T2 cn2 1 x)) (b := 4) (tgt := 59) hx hb d_Doc_drop_48 (by decide) (by omega) (by omega) (fun c9 => ?_) (fun c9 => ?_)
      · have hcut := hdo.2.2
        rw [show dDz T2 cn2 x (zS s0.toNat) (bS s0.toNat) = (zS s0.toNat, bS s0.toNat) by unfold dDz; rw [if_neg (by omega)]] at hcut
        have hcut : 0 ≤ nCell T2 cn2 3 x - 1 ∧ 0 ≤ nLast T2 cn2 x + 1 - (nCell T2 cn2 3 x - 1) ∧ nCell T2 cn2 3 x - 1 ≤ _ - (nLast T2 cn2 x + 1 - (nCell T2 cn2 3 x - 1)) := hcut
        refine lv_aload_n hx hb d_Doc_drop_59 rfl (lv_at hl 3 rfl) ?_
        refine mw_get (ci := 3) (i := 0) (v := .ref (L 6)) (C := R_Doc) (T := T_Doc) (N := 7) hx hb hts in_Doc hown hK hM hO_2 rfl rfl 3 (by decide) (hts _ m_188) rfl d_Doc_drop_60 ?_
        refine lv_iload_n hx hb d_Doc_drop_63 rfl (lv_at hl 5 rfl) ?_
        refine mw_rdV (i := 6) (As := [.int (iI x)]) (rest := []) ⟨hx, hb, hml, hown, hts⟩ hK hM hS rfl hN_2.1 rfl (c_Nodes_name l D g lo L κ2 T2 cn2 (16 + 2 * (s0 : Int).toNat) hN_2 x (by omega)) (cwV 1 hts (gV m_452 m_337 m_338 m_56 m_339) rfl rfl rfl (by decide +kernel) ⟨Nat.le_of_ble_eq_true rfl, Nat.le_of_ble_eq_true rfl⟩) rfl hl.1 rfl (Nat.le_of_ble_eq_true rfl) d_Doc_drop_64 ⟨Nat.le_of_ble_eq_true rfl, Nat.le_of_ble_eq_true rfl⟩ (fun H locs hM hS => ?_)
        have r10 := nCell_r (cnt := cn2) hN_2.2.2.2.1 3 x
        refine lv_iconst (v := iI (1)) hx hb d_Doc_drop_67 rfl ?_
        refine ia_sub hx hb d_Doc_drop_68 ?_
        refine lv_istore (lv' := [(6, .int (iI ((nCell T2 cn2 3 x) - 1))), (5, .int (iI (nCell T2 cn2 1 x))), (4, .int (iI (((zS (s0 : Int).toNat : Nat) : Int)))), (3, .ref (L (16 + 2 * (s0 : Int).toNat))), (0, .ref (L 0)), (1, .int (iI s0)), (2, .int (iI x))]) hx hb d_Doc_drop_69 hl (by decide) rfl (fun ls hl => ?_)
        refine lv_aload_n hx hb d_Doc_drop_71 rfl (lv_at hl 3 rfl) ?_
        refine lv_iload hx hb d_Doc_drop_72 (lv_at hl 0 rfl) ?_
        refine lv_aload_n hx hb d_Doc_drop_74 rfl (lv_at hl 4 rfl) ?_
        refine mw_get (ci := 3) (i := 0) (v := .ref (L 6)) (C := R_Doc) (T := T_Doc) (N := 7) hx hb hts in_Doc hown hK hM hO_2 rfl rfl 3 (by decide) (hts _ m_188) rfl d_Doc_drop_75 ?_
        refine lv_iload_n hx hb d_Doc_drop_78 rfl (lv_at hl 6 rfl) ?_
        refine mw_rdV (i := 6) (As := [.int (iI x)]) (rest := [.int (iI ((nCell T2 cn2 3 x) - 1)), .ref (L (16 + 2 * (s0 : Int).toNat))]) ⟨hx, hb, hml, hown, hts⟩ hK hM hS rfl hN_2.1 rfl (c_Nodes_lastByte l D g lo L κ2 T2 cn2 (16 + 2 * (s0 : Int).toNat) hN_2 x (by omega)) (cwV 1 hts (gV m_501 m_271 m_272 m_56 m_273) rfl rfl rfl (by decide +kernel) ⟨Nat.le_of_ble_eq_true rfl, Nat.le_of_ble_eq_true rfl⟩) rfl hl.1 rfl (Nat.le_of_ble_eq_true rfl) d_Doc_drop_79 ⟨Nat.le_of_ble_eq_true rfl, Nat.le_of_ble_eq_true rfl⟩ (fun H locs hM hS => ?_)
        have r11 := nCell_r (cnt := cn2) hN_2.2.2.2.1 4 x
        have r12 := nCell_r (cnt := cn2) hN_2.2.2.2.1 5 x
        have r13 := (show nLast T2 cn2 x = nCell T2 cn2 4 x + nCell T2 cn2 5 x - 1 from rfl)
        refine lv_iconst (v := iI (1)) hx hb d_Doc_drop_82 rfl ?_
        refine ia_add hx hb d_Doc_drop_83 ?_
        refine lv_iload hx hb d_Doc_drop_84 (lv_at hl 0 rfl) ?_
        refine ia_sub hx hb d_Doc_drop_86 ?_
        refine mw_callV (i := 16 + 2 * (s0 : Int).toNat) (As := [.int (iI ((nCell T2 cn2 3 x) - 1)), .int (iI (((nLast T2 cn2 x) + 1) - ((nCell T2 cn2 3 x) - 1)))]) (rest := []) ⟨hx, hb, hml, hown, hts⟩ hK hM hS rfl hB4.1 rfl (c_Bytes_cut l D g lo L κ2 (16 + 2 * (s0 : Int).toNat) (17 + 2 * (s0 : Int).toNat) 2000 (nS_2 (s0 : Int).toNat) (zS (s0 : Int).toNat) (bS (s0 : Int).toNat) hB4 ((nCell T2 cn2 3 x) - 1) (((nLast T2 cn2 x) + 1) - ((nCell T2 cn2 3 x) - 1)) (by omega)) (cwV 2 hts (gV m_536 m_537 m_538 m_52 m_539) rfl rfl rfl (by decide +kernel) ⟨Nat.le_of_ble_eq_true rfl, Nat.le_of_ble_eq_true rfl⟩) rfl hl.1 rfl (Nat.le_of_ble_eq_true rfl) d_Doc_drop_87 ⟨Nat.le_of_ble_eq_true rfl, Nat.le_of_ble_eq_true rfl⟩ (fun v14 L14 κ14 H locs hp14 hM hS => ?_)
        obtain ⟨rfl, rfl, hB14, hk14⟩ := hp14
        have hB15 := bxs_keep hT_2 (hk14 2 (by omega) (by omega)) (hk14 3 (by omega) (by omega)) rfl
        have hB16 := bxs_keep hF_2 (hk14 4 (by omega) (by omega)) (hk14 5 (by omega) (by omega)) rfl
        have hN17 := nds_keep hN_2 (fun r h1 h2 => hk14 r (by omega) (by omega)) (fun r h1 h2 => rfl) rfl
        have hO18 := dob_keep hO_2 (hk14 0 (by omega) (by omega)) rfl rfl rfl rfl rfl
        have hR19 := rds_keep hR_2 (hk14 14 (by omega) (by omega)) rfl rfl
        have hF20 : ∀ k, k < 8 → k ≠ (s0 : Int).toNat → bxs g L κ14 (16 + 2 * k) (17 + 2 * k) 2000 (nS_2 k) (zS k) (bS k) := fun k h1 h2 => bxs_keep (hF6 k h1 h2) (hk14 ((16 + 2 * k)) (by omega) (by omega)) (hk14 ((17 + 2 * k)) (by omega) (by omega)) rfl
        have e21 := (hk14 1 (by omega) (by omega)).trans hA1_2
        refine lv_aload_n hx hb d_Doc_drop_90 rfl (lv_at hl 4 rfl) ?_
        refine lv_aload_n hx hb d_Doc_drop_91 rfl (lv_at hl 3 rfl) ?_
        refine lv_iload hx hb d_Doc_drop_92 (lv_at hl 1 rfl) ?_
        refine lv_aload_n hx hb d_Doc_drop_94 rfl (lv_at hl 3 rfl) ?_
        refine mw_rdV (i := 16 + 2 * (s0 : Int).toNat) (As := []) (rest := [.int (iI (nCell T2 cn2 1 x)), .ref (L (16 + 2 * (s0 : Int).toNat)), .ref (L 0)]) ⟨hx, hb, hml, hown, hts⟩ hK hM hS rfl hB14.1 rfl (c_Bytes_size l D g lo L κ14 (16 + 2 * (s0 : Int).toNat) (17 + 2 * (s0 : Int).toNat) 2000 (nS_2 (s0 : Int).toNat) (zS (s0 : Int).toNat - (((nLast T2 cn2 x) + 1) - ((nCell T2 cn2 3 x) - 1)).toNat) (bCut (bS (s0 : Int).toNat) (zS (s0 : Int).toNat) ((nCell T2 cn2 3 x) - 1) (((nLast T2 cn2 x) + 1) - ((nCell T2 cn2 3 x) - 1))) hB14 ) (cwV 0 hts (gV m_211 m_212 m_213 m_52 m_214) rfl rfl rfl (by decide +kernel) ⟨Nat.le_of_ble_eq_true rfl, Nat.le_of_ble_eq_true rfl⟩) rfl hl.1 rfl (Nat.le_of_ble_eq_true rfl) d_Doc_drop_95 ⟨Nat.le_of_ble_eq_true rfl, Nat.le_of_ble_eq_true rfl⟩ (fun H locs hM hS => ?_)
        refine lv_iload hx hb d_Doc_drop_98 (lv_at hl 2 rfl) ?_
        refine ia_sub hx hb d_Doc_drop_100 ?_
        refine mw_callV (i := 0) (As := [.ref (L (16 + 2 * (s0 : Int).toNat)), .int (iI (nCell T2 cn2 1 x)), .int (iI ((((zS (s0 : Int).toNat - (((nLast T2 cn2 x) + 1) - ((nCell T2 cn2 3 x) - 1)).toNat : Nat) : Int)) - (((zS (s0 : Int).toNat : Nat) : Int))))]) (rest := []) ⟨hx, hb, hml, hown, hts⟩ hK hM hS rfl hO18 rfl (c_Doc_resizeUpwards l D g lo L κ14 s0 fpl hO18 T2 cn2 (16 + 2 * (s0 : Int).toNat) hN17 (16 + 2 * (s0 : Int).toNat) (17 + 2 * (s0 : Int).toNat) 2000 (nS_2 (s0 : Int).toNat) (zS (s0 : Int).toNat - (((nLast T2 cn2 x) + 1) - ((nCell T2 cn2 3 x) - 1)).toNat) (bCut (bS (s0 : Int).toNat) (zS (s0 : Int).toNat) ((nCell T2 cn2 3 x) - 1) (((nLast T2 cn2 x) + 1) - ((nCell T2 cn2 3 x) - 1))) hB14 (nCell T2 cn2 1 x) ((((zS (s0 : Int).toNat - (((nLast T2 cn2 x) + 1) - ((nCell T2 cn2 3 x) - 1)).toNat : Nat) : Int)) - (((zS (s0 : Int).toNat : Nat) : Int))) (by omega) (by omega) (by omega)) (cwV 3 hts (gV m_509 m_511 m_15 m_51 m_512) rfl rfl rfl (by decide +kernel) ⟨Nat.le_of_ble_eq_true rfl, Nat.le_of_ble_eq_true rfl⟩) rfl hl.1 rfl (Nat.le_of_ble_eq_true rfl) d_Doc_drop_101 ⟨Nat.le_of_ble_eq_true rfl, Nat.le_of_ble_eq_true rfl⟩ (fun v22 L22 κ22 H locs hp22 hM hS => ?_)
        obtain ⟨rfl, rfl, hB22, hk22⟩ := hp22
        have r23 := hB22.2.2.1
        have hB24 := bxs_keep hB15 (hk22 2 (by omega) (by omega)) (hk22 3 (by omega) (by omega)) rfl
        have hB25 := bxs_keep hB16 (hk22 4 (by omega) (by omega)) (hk22 5 (by omega) (by omega)) rfl
        have hN26 := nds_keep hN17 (fun r h1 h2 => hk22 r (by omega) (by omega)) (fun r h1 h2 => rfl) rfl
        have hO27 := dob_keep hO18 (hk22 0 (by omega) (by omega)) rfl rfl rfl rfl rfl
        have hR28 := rds_keep hR19 (hk22 14 (by omega) (by omega)) rfl rfl
        have hF29 : ∀ k, k < 8 → k ≠ (s0 : Int).toNat → bxs g L κ22 (16 + 2 * k) (17 + 2 * k) 2000 (nS_2 k) (zS k) (bS k) := fun k h1 h2 => bxs_keep (hF20 k h1 h2) (hk22 ((16 + 2 * k)) (by omega) (by omega)) (hk22 ((17 + 2 * k)) (by omega) (by omega)) rfl
        have e30 := (hk22 1 (by omega) (by omega)).trans e21
        refine lv_aload_n hx hb d_Doc_drop_104 rfl (lv_at hl 4 rfl) ?_
        refine lv_iconst (v := iI (-1)) hx hb d_Doc_drop_105 rfl ?_
        refine mw_put (ci := 3) (i := 0) (v := .int (iI (-1))) (C := R_Doc) (T := T_Doc) (N := 7) hx hb hts in_Doc ty_Doc ty_Doc_ok nm_Doc hown hK hM hS hO27 rfl rfl 5 (by decide) (hts _ m_190) rfl (ty_Doc_ok 5 (by decide)) rfl rfl (Nat.le_of_ble_eq_true rfl) d_Doc_drop_106 (fun κ31 H locs e31 hk31 hM hS => ?_)
        have e31 : κ31 0 = some (.inr (3, [.ref (L 2), .ref (L 1), .ref (L 4), .ref (L 6), .ref (L 14), .int (iI (-1)), .int (iI fpl)])) := e31
        have hB32 := bxs_keep hB24 (hk31 2 (by omega)) (hk31 3 (by omega)) rfl
        have hB33 := bxs_keep hB25 (hk31 4 (by omega)) (hk31 5 (by omega)) rfl
        have hN34 := nds_keep hN26 (fun r h1 h2 => hk31 r (by omega)) (fun r h1 h2 => rfl) rfl
        have hB35 := bxs_keep hB22 (hk31 (16 + 2 * (s0 : Int).toNat) (by omega)) (hk31 (17 + 2 * (s0 : Int).toNat) (by omega)) rfl
        have hR36 := rds_keep hR28 (hk31 14 (by omega)) rfl rfl
        have hF37 : ∀ k, k < 8 → k ≠ (s0 : Int).toNat → bxs g L κ31 (16 + 2 * k) (17 + 2 * k) 2000 (nS_2 k) (zS k) (bS k) := fun k h1 h2 => bxs_keep (hF29 k h1 h2) (hk31 ((16 + 2 * k)) (by omega)) (hk31 ((17 + 2 * k)) (by omega)) rfl
        have e38 := (hk31 1 (by omega)).trans e30
        refine lv_iconst (v := iI (1)) hx hb d_Doc_drop_109 rfl ?_
        exact mw_zret (v := true) hx hb hr hM hS hlocks d_Doc_drop_110 (by rw [hTb2]; dsimp only; rw [(show dDz T2 cn2 x (zS s0.toNat) (bS s0.toNat) = (zS s0.toNat, bS s0.toNat) by unfold dDz; rw [if_neg (by omega)])]; exact ⟨⟨rfl, fun r h => rfl, fun r h => by rw [hk31 r (by omega), hk22 r (by omega) (by omega), hk14 r (by omega) (by omega), hk2 r (by omega)]⟩, Or.inr (Or.inr ⟨⟨by omega, by assumption⟩, rfl, ⟨e31, ⟨fA, e38, hA2_2⟩, ⟨_, hB32⟩, ⟨_, hB33⟩, hN34, ⟨_, _, _, _, hR36⟩, ⟨va_up nS_2 (s0 : Int).toNat (nS_2 (s0 : Int).toNat), fun k h1 => by
    by_cases q : k = (s0 : Int).toNat
    · rw [q, va_up_self, va_up_self, va_up_self]; exact hB35
    · rw [va_up_ne _ _ q, va_up_ne _ _ q, va_up_ne _ _ q]; exact hF37 k h1 q⟩, ⟨fun h => absurd h (by decide), hd_2.2⟩⟩⟩)⟩)
      · have hgood := hdo.2.1 (by omega)
        refine lv_aload_n hx hb d_Doc_drop_51 rfl (lv_at hl 3 rfl) ?_
        refine lv_aload_n hx hb d_Doc_drop_52 rfl (lv_at hl 2 rfl) ?_
        refine lv_iload hx hb d_Doc_drop_53 (lv_at hl 0 rfl) ?_
        refine lv_iload_n hx hb d_Doc_drop_55 rfl (lv_at hl 5 rfl) ?_
        refine mw_callV (i := 0) (As := [.ref (L (16 + 2 * (s0 : Int).toNat)), .int (iI (nCell T2 cn2 1 x)), .int (iI x)]) (rest := []) ⟨hx, hb, hml, hown, hts⟩ hK hM hS rfl hO_2 rfl (c_Doc_renumberBehind l D g lo L κ2 s0 fpl hO_2 T2 cn2 (16 + 2 * (s0 : Int).toNat) hN_2 (16 + 2 * (s0 : Int).toNat) (17 + 2 * (s0 : Int).toNat) 2000 (nS_2 (s0 : Int).toNat) (zS (s0 : Int).toNat) (bS (s0 : Int).toNat) hB4 (nCell T2 cn2 1 x) x (by omega) (by omega) (by omega) hgood) (cwV 3 hts (gV m_532 m_534 m_16 m_51 m_535) rfl rfl rfl (by decide +kernel) ⟨Nat.le_of_ble_eq_true rfl, Nat.le_of_ble_eq_true rfl⟩) rfl hl.1 rfl (Nat.le_of_ble_eq_true rfl) d_Doc_drop_56 ⟨Nat.le_of_ble_eq_true rfl, Nat.le_of_ble_eq_true rfl⟩ (fun v39 L39 κ39 H locs hp39 hM hS => ?_)
        obtain ⟨rfl, rfl, hB39, hk39⟩ := hp39
        have r40 := hB39.2.2.1
        have hB41 := bxs_keep hT_2 (hk39 2 (by omega) (by omega)) (hk39 3 (by omega) (by omega)) rfl
        have hB42 := bxs_keep hF_2 (hk39 4 (by omega) (by omega)) (hk39 5 (by omega) (by omega)) rfl
        have hN43 := nds_keep hN_2 (fun r h1 h2 => hk39 r (by omega) (by omega)) (fun r h1 h2 => rfl) rfl
        have hO44 := dob_keep hO_2 (hk39 0 (by omega) (by omega)) rfl rfl rfl rfl rfl
        have hR45 := rds_keep hR_2 (hk39 14 (by omega) (by omega)) rfl rfl
        have hF46 : ∀ k, k < 8 → k ≠ (s0 : Int).toNat → bxs g L κ39 (16 + 2 * k) (17 + 2 * k) 2000 (nS_2 k) (zS k) (bS k) := fun k h1 h2 => bxs_keep (hF6 k h1 h2) (hk39 ((16 + 2 * k)) (by omega) (by omega)) (hk39 ((17 + 2 * k)) (by omega) (by omega)) rfl
        have e47 := (hk39 1 (by omega) (by omega)).trans hA1_2
        have hcut := hdo.2.2
        rw [show dDz T2 cn2 x (zS s0.toNat) (bS s0.toNat) = rnF T2 cn2 (nCell T2 cn2 1 x) x (nBeh T2 cn2 (nCell T2 cn2 1 x) - 1) (nCell T2 cn2 6 (nCell T2 cn2 1 x) - 1) (zS s0.toNat) (bS s0.toNat) by unfold dDz; rw [if_pos (by omega)]] at hcut
        have hcut : 0 ≤ nCell T2 cn2 3 x - 1 ∧ 0 ≤ nLast T2 cn2 x + 1 - (nCell T2 cn2 3 x - 1) ∧ nCell T2 cn2 3 x - 1 ≤ _ - (nLast T2 cn2 x + 1 - (nCell T2 cn2 3 x - 1)) := hcut
        refine lv_aload_n hx hb d_Doc_drop_59 rfl (lv_at hl 3 rfl) ?_
        refine mw_get (ci := 3) (i := 0) (v := .ref (L 6)) (C := R_Doc) (T := T_Doc) (N := 7) hx hb hts in_Doc hown hK hM hO44 rfl rfl 3 (by decide) (hts _ m_188) rfl d_Doc_drop_60 ?_
        refine lv_iload_n hx hb d_Doc_drop_63 rfl (lv_at hl 5 rfl) ?_
        refine mw_rdV (i := 6) (As := [.int (iI x)]) (rest := []) ⟨hx, hb, hml, hown, hts⟩ hK hM hS rfl hN43.1 rfl (c_Nodes_name l D g lo L κ39 T2 cn2 (16 + 2 * (s0 : Int).toNat) hN43 x (by omega)) (cwV 1 hts (gV m_452 m_337 m_338 m_56 m_339) rfl rfl rfl (by decide +kernel) ⟨Nat.le_of_ble_eq_true rfl, Nat.le_of_ble_eq_true rfl⟩) rfl hl.1 rfl (Nat.le_of_ble_eq_true rfl) d_Doc_drop_64 ⟨Nat.le_of_ble_eq_true rfl, Nat.le_of_ble_eq_true rfl⟩ (fun H locs hM hS => ?_)
        have r48 := nCell_r (cnt := cn2) hN43.2.2.2.1 3 x
        refine lv_iconst (v := iI (1)) hx hb d_Doc_drop_67 rfl ?_
        refine ia_sub hx hb d_Doc_drop_68 ?_
        refine lv_istore (lv' := [(6, .int (iI ((nCell T2 cn2 3 x) - 1))), (5, .int (iI (nCell T2 cn2 1 x))), (4, .int (iI (((zS (s0 : Int).toNat : Nat) : Int)))), (3, .ref (L (16 + 2 * (s0 : Int).toNat))), (0, .ref (L 0)), (1, .int (iI s0)), (2, .int (iI x))]) hx hb d_Doc_drop_69 hl (by decide) rfl (fun ls hl => ?_)
        refine lv_aload_n hx hb d_Doc_drop_71 rfl (lv_at hl 3 rfl) ?_
        refine lv_iload hx hb d_Doc_drop_72 (lv_at hl 0 rfl) ?_
        refine lv_aload_n hx hb d_Doc_drop_74 rfl (lv_at hl 4 rfl) ?_
        refine mw_get (ci := 3) (i := 0) (v := .ref (L 6)) (C := R_Doc) (T := T_Doc) (N := 7) hx hb hts in_Doc hown hK hM hO44 rfl rfl 3 (by decide) (hts _ m_188) rfl d_Doc_drop_75 ?_
        refine lv_iload_n hx hb d_Doc_drop_78 rfl (lv_at hl 6 rfl) ?_
        refine mw_rdV (i := 6) (As := [.int (iI x)]) (rest := [.int (iI ((nCell T2 cn2 3 x) - 1)), .ref (L (16 + 2 * (s0 : Int).toNat))]) ⟨hx, hb, hml, hown, hts⟩ hK hM hS rfl hN43.1 rfl (c_Nodes_lastByte l D g lo L κ39 T2 cn2 (16 + 2 * (s0 : Int).toNat) hN43 x (by omega)) (cwV 1 hts (gV m_501 m_271 m_272 m_56 m_273) rfl rfl rfl (by decide +kernel) ⟨Nat.le_of_ble_eq_true rfl, Nat.le_of_ble_eq_true rfl⟩) rfl hl.1 rfl (Nat.le_of_ble_eq_true rfl) d_Doc_drop_79 ⟨Nat.le_of_ble_eq_true rfl, Nat.le_of_ble_eq_true rfl⟩ (fun H locs hM hS => ?_)
        have r49 := nCell_r (cnt := cn2) hN43.2.2.2.1 4 x
        have r50 := nCell_r (cnt := cn2) hN43.2.2.2.1 5 x
        have r51 := (show nLast T2 cn2 x = nCell T2 cn2 4 x + nCell T2 cn2 5 x - 1 from rfl)
        refine lv_iconst (v := iI (1)) hx hb d_Doc_drop_82 rfl ?_
        refine ia_add hx hb d_Doc_drop_83 ?_
        refine lv_iload hx hb d_Doc_drop_84 (lv_at hl 0 rfl) ?_
        refine ia_sub hx hb d_Doc_drop_86 ?_
        refine mw_callV (i := 16 + 2 * (s0 : Int).toNat) (As := [.int (iI ((nCell T2 cn2 3 x) - 1)), .int (iI (((nLast T2 cn2 x) + 1) - ((nCell T2 cn2 3 x) - 1)))]) (rest := []) ⟨hx, hb, hml, hown, hts⟩ hK hM hS rfl hB39.1 rfl (c_Bytes_cut l D g lo L κ39 (16 + 2 * (s0 : Int).toNat) (17 + 2 * (s0 : Int).toNat) 2000 (nS_2 (s0 : Int).toNat) ((rnF T2 cn2 (nCell T2 cn2 1 x) x (nBeh T2 cn2 (nCell T2 cn2 1 x) - 1) (nCell T2 cn2 6 (nCell T2 cn2 1 x) - 1) (zS (s0 : Int).toNat) (bS (s0 : Int).toNat)).1) ((rnF T2 cn2 (nCell T2 cn2 1 x) x (nBeh T2 cn2 (nCell T2 cn2 1 x) - 1) (nCell T2 cn2 6 (nCell T2 cn2 1 x) - 1) (zS (s0 : Int).toNat) (bS (s0 : Int).toNat)).2) hB39 ((nCell T2 cn2 3 x) - 1) (((nLast T2 cn2 x) + 1) - ((nCell T2 cn2 3 x) - 1)) (by omega)) (cwV 2 hts (gV m_536 m_537 m_538 m_52 m_539) rfl rfl rfl (by decide +kernel) ⟨Nat.le_of_ble_eq_true rfl, Nat.le_of_ble_eq_true rfl⟩) rfl hl.1 rfl (Nat.le_of_ble_eq_true rfl) d_Doc_drop_87 ⟨Nat.le_of_ble_eq_true rfl, Nat.le_of_ble_eq_true rfl⟩ (fun v52 L52 κ52 H locs hp52 hM hS => ?_)
        obtain ⟨rfl, rfl, hB52, hk52⟩ := hp52
        have hB53 := bxs_keep hB41 (hk52 2 (by omega) (by omega)) (hk52 3 (by omega) (by omega)) rfl
        have hB54 := bxs_keep hB42 (hk52 4 (by omega) (by omega)) (hk52 5 (by omega) (by omega)) rfl
        have hN55 := nds_keep hN43 (fun r h1 h2 => hk52 r (by omega) (by omega)) (fun r h1 h2 => rfl) rfl
        have hO56 := dob_keep hO44 (hk52 0 (by omega) (by omega)) rfl rfl rfl rfl rfl
        have hR57 := rds_keep hR45 (hk52 14 (by omega) (by omega)) rfl rfl
        have hF58 : ∀ k, k < 8 → k ≠ (s0 : Int).toNat → bxs g L κ52 (16 + 2 * k) (17 + 2 * k) 2000 (nS_2 k) (zS k) (bS k) := fun k h1 h2 => bxs_keep (hF46 k h1 h2) (hk52 ((16 + 2 * k)) (by omega) (by omega)) (hk52 ((17 + 2 * k)) (by omega) (by omega)) rfl
        have e59 := (hk52 1 (by omega) (by omega)).trans e47
        refine lv_aload_n hx hb d_Doc_drop_90 rfl (lv_at hl 4 rfl) ?_
        refine lv_aload_n hx hb d_Doc_drop_91 rfl (lv_at hl 3 rfl) ?_
        refine lv_iload hx hb d_Doc_drop_92 (lv_at hl 1 rfl) ?_
        refine lv_aload_n hx hb d_Doc_drop_94 rfl (lv_at hl 3 rfl) ?_
        refine mw_rdV (i := 16 + 2 * (s0 : Int).toNat) (As := []) (rest := [.int (iI (nCell T2 cn2 1 x)), .ref (L (16 + 2 * (s0 : Int).toNat)), .ref (L 0)]) ⟨hx, hb, hml, hown, hts⟩ hK hM hS rfl hB52.1 rfl (c_Bytes_size l D g lo L κ52 (16 + 2 * (s0 : Int).toNat) (17 + 2 * (s0 : Int).toNat) 2000 (nS_2 (s0 : Int).toNat) ((rnF T2 cn2 (nCell T2 cn2 1 x) x (nBeh T2 cn2 (nCell T2 cn2 1 x) - 1) (nCell T2 cn2 6 (nCell T2 cn2 1 x) - 1) (zS (s0 : Int).toNat) (bS (s0 : Int).toNat)).1 - (((nLast T2 cn2 x) + 1) - ((nCell T2 cn2 3 x) - 1)).toNat) (bCut ((rnF T2 cn2 (nCell T2 cn2 1 x) x (nBeh T2 cn2 (nCell T2 cn2 1 x) - 1) (nCell T2 cn2 6 (nCell T2 cn2 1 x) - 1) (zS (s0 : Int).toNat) (bS (s0 : Int).toNat)).2) ((rnF T2 cn2 (nCell T2 cn2 1 x) x (nBeh T2 cn2 (nCell T2 cn2 1 x) - 1) (nCell T2 cn2 6 (nCell T2 cn2 1 x) - 1) (zS (s0 : Int).toNat) (bS (s0 : Int).toNat)).1) ((nCell T2 cn2 3 x) - 1) (((nLast T2 cn2 x) + 1) - ((nCell T2 cn2 3 x) - 1))) hB52 ) (cwV 0 hts (gV m_211 m_212 m_213 m_52 m_214) rfl rfl rfl (by decide +kernel) ⟨Nat.le_of_ble_eq_true rfl, Nat.le_of_ble_eq_true rfl⟩) rfl hl.1 rfl (Nat.le_of_ble_eq_true rfl) d_Doc_drop_95 ⟨Nat.le_of_ble_eq_true rfl, Nat.le_of_ble_eq_true rfl⟩ (fun H locs hM hS => ?_)
        refine lv_iload hx hb d_Doc_drop_98 (lv_at hl 2 rfl) ?_
        refine ia_sub hx hb d_Doc_drop_100 ?_
        refine mw_callV (i := 0) (As := [.ref (L (16 + 2 * (s0 : Int).toNat)), .int (iI (nCell T2 cn2 1 x)), .int (iI (((((rnF T2 cn2 (nCell T2 cn2 1 x) x (nBeh T2 cn2 (nCell T2 cn2 1 x) - 1) (nCell T2 cn2 6 (nCell T2 cn2 1 x) - 1) (zS (s0 : Int).toNat) (bS (s0 : Int).toNat)).1 - (((nLast T2 cn2 x) + 1) - ((nCell T2 cn2 3 x) - 1)).toNat : Nat) : Int)) - (((zS (s0 : Int).toNat : Nat) : Int))))]) (rest := []) ⟨hx, hb, hml, hown, hts⟩ hK hM hS rfl hO56 rfl (c_Doc_resizeUpwards l D g lo L κ52 s0 fpl hO56 T2 cn2 (16 + 2 * (s0 : Int).toNat) hN55 (16 + 2 * (s0 : Int).toNat) (17 + 2 * (s0 : Int).toNat) 2000 (nS_2 (s0 : Int).toNat) ((rnF T2 cn2 (nCell T2 cn2 1 x) x (nBeh T2 cn2 (nCell T2 cn2 1 x) - 1) (nCell T2 cn2 6 (nCell T2 cn2 1 x) - 1) (zS (s0 : Int).toNat) (bS (s0 : Int).toNat)).1 - (((nLast T2 cn2 x) + 1) - ((nCell T2 cn2 3 x) - 1)).toNat) (bCut ((rnF T2 cn2 (nCell T2 cn2 1 x) x (nBeh T2 cn2 (nCell T2 cn2 1 x) - 1) (nCell T2 cn2 6 (nCell T2 cn2 1 x) - 1) (zS (s0 : Int).toNat) (bS (s0 : Int).toNat)).2) ((rnF T2 cn2 (nCell T2 cn2 1 x) x (nBeh T2 cn2 (nCell T2 cn2 1 x) - 1) (nCell T2 cn2 6 (nCell T2 cn2 1 x) - 1) (zS (s0 : Int).toNat) (bS (s0 : Int).toNat)).1) ((nCell T2 cn2 3 x) - 1) (((nLast T2 cn2 x) + 1) - ((nCell T2 cn2 3 x) - 1))) hB52 (nCell T2 cn2 1 x) (((((rnF T2 cn2 (nCell T2 cn2 1 x) x (nBeh T2 cn2 (nCell T2 cn2 1 x) - 1) (nCell T2 cn2 6 (nCell T2 cn2 1 x) - 1) (zS (s0 : Int).toNat) (bS (s0 : Int).toNat)).1 - (((nLast T2 cn2 x) + 1) - ((nCell T2 cn2 3 x) - 1)).toNat : Nat) : Int)) - (((zS (s0 : Int).toNat : Nat) : Int))) (by omega) (by omega) (by omega)) (cwV 3 hts (gV m_509 m_511 m_15 m_51 m_512) rfl rfl rfl (by decide +kernel) ⟨Nat.le_of_ble_eq_true rfl, Nat.le_of_ble_eq_true rfl⟩) rfl hl.1 rfl (Nat.le_of_ble_eq_true rfl) d_Doc_drop_101 ⟨Nat.le_of_ble_eq_true rfl, Nat.le_of_ble_eq_true rfl⟩ (fun v60 L60 κ60 H locs hp60 hM hS => ?_)
        obtain ⟨rfl, rfl, hB60, hk60⟩ := hp60
        have r61 := hB60.2.2.1
        have hB62 := bxs_keep hB53 (hk60 2 (by omega) (by omega)) (hk60 3 (by omega) (by omega)) rfl
        have hB63 := bxs_keep hB54 (hk60 4 (by omega) (by omega)) (hk60 5 (by omega) (by omega)) rfl
        have hN64 := nds_keep hN55 (fun r h1 h2 => hk60 r (by omega) (by omega)) (fun r h1 h2 => rfl) rfl
        have hO65 := dob_keep hO56 (hk60 0 (by omega) (by omega)) rfl rfl rfl rfl rfl
        have hR66 := rds_keep hR57 (hk60 14 (by omega) (by omega)) rfl rfl
        have hF67 : ∀ k, k < 8 → k ≠ (s0 : Int).toNat → bxs g L κ60 (16 + 2 * k) (17 + 2 * k) 2000 (nS_2 k) (zS k) (bS k) := fun k h1 h2 => bxs_keep (hF58 k h1 h2) (hk60 ((16 + 2 * k)) (by omega) (by omega)) (hk60 ((17 + 2 * k)) (by omega) (by omega)) rfl
        have e68 := (hk60 1 (by omega) (by omega)).trans e59
        refine lv_aload_n hx hb d_Doc_drop_104 rfl (lv_at hl 4 rfl) ?_
        refine lv_iconst (v := iI (-1)) hx hb d_Doc_drop_105 rfl ?_
        refine mw_put (ci := 3) (i := 0) (v := .int (iI (-1))) (C := R_Doc) (T := T_Doc) (N := 7) hx hb hts in_Doc ty_Doc ty_Doc_ok nm_Doc hown hK hM hS hO65 rfl rfl 5 (by decide) (hts _ m_190) rfl (ty_Doc_ok 5 (by decide)) rfl rfl (Nat.le_of_ble_eq_true rfl) d_Doc_drop_106 (fun κ69 H locs e69 hk69 hM hS => ?_)
        have e69 : κ69 0 = some (.inr (3, [.ref (L 2), .ref (L 1), .ref (L 4), .ref (L 6), .ref (L 14), .int (iI (-1)), .int (iI fpl)])) := e69
        have hB70 := bxs_keep hB62 (hk69 2 (by omega)) (hk69 3 (by omega)) rfl
        have hB71 := bxs_keep hB63 (hk69 4 (by omega)) (hk69 5 (by omega)) rfl
        have hN72 := nds_keep hN64 (fun r h1 h2 => hk69 r (by omega)) (fun r h1 h2 => rfl) rfl
        have hB73 := bxs_keep hB60 (hk69 (16 + 2 * (s0 : Int).toNat) (by omega)) (hk69 (17 + 2 * (s0 : Int).toNat) (by omega)) rfl
        have hR74 := rds_keep hR66 (hk69 14 (by omega)) rfl rfl
        have hF75 : ∀ k, k < 8 → k ≠ (s0 : Int).toNat → bxs g L κ69 (16 + 2 * k) (17 + 2 * k) 2000 (nS_2 k) (zS k) (bS k) := fun k h1 h2 => bxs_keep (hF67 k h1 h2) (hk69 ((16 + 2 * k)) (by omega)) (hk69 ((17 + 2 * k)) (by omega)) rfl
        have e76 := (hk69 1 (by omega)).trans e68
        refine lv_iconst (v := iI (1)) hx hb d_Doc_drop_109 rfl ?_
        exact mw_zret (v := true) hx hb hr hM hS hlocks d_Doc_drop_110 (by rw [hTb2]; dsimp only; rw [(show dDz T2 cn2 x (zS s0.toNat) (bS s0.toNat) = (rnF T2 cn2 (nCell T2 cn2 1 x) x (nBeh T2 cn2 (nCell T2 cn2 1 x) - 1) (nCell T2 cn2 6 (nCell T2 cn2 1 x) - 1) (zS s0.toNat) (bS s0.toNat)) by unfold dDz; rw [if_pos (by omega)])]; exact ⟨⟨rfl, fun r h => rfl, fun r h => by rw [hk69 r (by omega), hk60 r (by omega) (by omega), hk52 r (by omega) (by omega), hk39 r (by omega) (by omega), hk2 r (by omega)]⟩, Or.inr (Or.inr ⟨⟨by omega, by assumption⟩, rfl, ⟨e69, ⟨fA, e76, hA2_2⟩, ⟨_, hB70⟩, ⟨_, hB71⟩, hN72, ⟨_, _, _, _, hR74⟩, ⟨va_up nS_2 (s0 : Int).toNat (nS_2 (s0 : Int).toNat), fun k h1 => by
    by_cases q : k = (s0 : Int).toNat
    · rw [q, va_up_self, va_up_self, va_up_self]; exact hB73
    · rw [va_up_ne _ _ q, va_up_ne _ _ q, va_up_ne _ _ q]; exact hF75 k h1 q⟩, ⟨fun h => absurd h (by decide), hd_2.2⟩⟩⟩)⟩)
    · refine lv_iconst (v := iI (0)) hx hb d_Doc_drop_13 rfl ?_
      exact mw_zret (v := false) hx hb hr hM hS hlocks d_Doc_drop_14 (by rw [hTb2]; exact ⟨⟨rfl, fun r h => rfl, fun r h => by rw [hk2 r (by omega)]⟩, Or.inr (Or.inl ⟨⟨by omega, by assumption⟩, rfl, ⟨hO_2, ⟨fA, hA1_2, hA2_2⟩, ⟨_, hT_2⟩, ⟨_, hF_2⟩, hN_2, ⟨_, _, _, _, hR_2⟩, ⟨nS_2, hSl_2⟩, hd_2⟩⟩)⟩)
