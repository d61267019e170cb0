set_option maxHeartbeats 4000000 in
set_option maxRecDepth 100000 in
theorem c_Doc_insertFresh (l : Launch) (D : va_G) (g : Nat → ClassId) (lo : Nat) (L : Nat → Nat) (κ : Nat → Option va_E) (scn fpl : Int) (zT : Nat) (bT : Nat → Int) (zF : Nat) (bF : Nat → Int) (T : Nat → Nat → Int) (cnt d : Nat) (zS : Nat → Nat) (bS : Nat → Nat → Int) (hW : dbs g L κ scn fpl zT bT zF bF T cnt d zS bS) (hsc : -1 ≤ scn ∧ scn < 8) (s0 x k0 n0 lv : Int) (hs0 : 0 ≤ s0 ∧ s0 < 8) (hss : s0 = scn) (hx0 : 0 ≤ x ∧ x < cnt) (hn0 : 0 ≤ n0 ∧ n0 ≤ zT) (hlv : 0 ≤ lv ∧ lv ≤ 10000) (hla : 0 ≤ nLast T cnt x ∧ nLast T cnt x ≤ zS s0.toNat) : Met l y_Doc_insertFresh w_Doc_insertFresh ({ frames := 4, cells := 1, slots := 2005, locals := 112 }) (mwP D vwCl (tyL g) lo L κ [.ref (L 0), .int (iI s0), .int (iI x), .int (iI k0), .int (iI n0), .int (iI lv)]) (mwQ D vwCl lo (fun v L1 κ1 => dFr L L1 κ κ1 ∧ ((dInsA T cnt (bS s0.toNat) (zS s0.toNat) bT zT zF x n0 lv < 0 ∧ v = some (.int (iI (dInsA T cnt (bS s0.toNat) (zS s0.toNat) bT zT zF x n0 lv))) ∧ dbs g L1 κ1 scn fpl zT bT zF bF T cnt d zS bS) ∨ (0 ≤ dInsA T cnt (bS s0.toNat) (zS s0.toNat) bT zT zF x n0 lv ∧ v = some (.int (iI (dInsA T cnt (bS s0.toNat) (zS s0.toNat) bT zT zF x n0 lv))) ∧ dbs g L1 κ1 (-1) fpl zT bT zF bF T cnt d (va_up zS s0.toNat (dInsZ T cnt (zS s0.toNat) zF x n0)) (va_up bS s0.toNat (dInsB T cnt (bS s0.toNat) (zS s0.toNat) bT bF zF x k0 n0)))))) 1 2005 (fun q => lo ≤ q) := by
  obtain ⟨hO, ⟨fA, hA1, hA2⟩, ⟨nT, hT⟩, ⟨nF, hF⟩, hN, ⟨ra, ri, rf, rp, hR⟩, ⟨nS, hSl⟩, hd⟩ := hW
  have hct := hT.2.2.1
  have hcf := hF.2.2.1
  have hcn := hN.2.2.1
  subst hss
  obtain ⟨hd1, hd3⟩ := hd
  have hdd := hd1 hs0.1
  subst hdd
  have hd : (0 ≤ s0 → 16 + 2 * s0.toNat = 16 + 2 * s0.toNat) ∧ (16 + 2 * s0.toNat = 2 ∨ ∃ k, k < 8 ∧ 16 + 2 * s0.toNat = 16 + 2 * k) := ⟨fun _ => rfl, hd3⟩
  have hel := nCell_in (T := T) (cnt := cnt) (c := 6) hx0
  have hel1 := hN.2.2.2.2.2.2 x.toNat
  have hel2 : 0 ≤ nCell T cnt 6 x := by rw [hel]; exact hel1
  have hbr := nBeh_r T cnt x
  refine Met.ofW (cc := b_Doc_insertFresh) (maxL := 10) (ret := (Option.some Jvm.ClassFile.FieldType.int)) (by decide) rfl ?_
  intro p e s m args below meth c s₁ B hml hpre
  obtain ⟨hargs, hM, hK⟩ := hpre
  have hx := B.exec
  have hb := B.bytes
  have hr := B.returns
  have hts : ∀ w ∈ wA, w.before args s = true := fun w h => atoms_spec (ws := w_Doc_insertFresh) B.pre w (List.mem_cons_of_mem _ h)
  have hown : s.vm.findClass R_Doc = some m.cls := findClass_of_methodNamed B.named
  have hlocks := B.notSynchronized
  have hS : va_S (fun q => lo ≤ q) s.heap s.heap [] := va_S.rf
  obtain ⟨ls, hls, hl⟩ := mw_entry (m := m) [.ref (L 0), .int (iI s0), .int (iI x), .int (iI k0), .int (iI n0), .int (iI lv)] (n := 10) (Nat.le_of_ble_eq_true rfl) hargs
  refine W.eq hls ?_
  have hl : lv_has ls 10 [(0, .ref (L 0)), (1, .int (iI s0)), (2, .int (iI x)), (3, .int (iI k0)), (4, .int (iI n0)), (5, .int (iI lv))] := hl
  have hB1 := hSl (s0 : Int).toNat (by omega)
  have r2 := hB1.2.2.1
  have hF3 : ∀ k, k < 8 → k ≠ (s0 : Int).toNat → bxs g L κ (16 + 2 * k) (17 + 2 * k) 2000 (nS k) (zS k) (bS k) := fun k h1 _ => hSl k h1
  refine lv_aload_n hx hb d_Doc_insertFresh_0 rfl (lv_at hl 0 rfl) ?_
  refine mw_get (ci := 3) (i := 0) (v := .ref (L 6)) (C := R_Doc) (T := T_Doc) (N := 7) hx hb hts in_Doc hown hK hM hO rfl rfl 3 (by decide) (hts _ m_188) rfl d_Doc_insertFresh_1 ?_
  refine lv_iload_n hx hb d_Doc_insertFresh_4 rfl (lv_at hl 2 rfl) ?_
  refine mw_rdV (i := 6) (As := [.int (iI x)]) (rest := []) ⟨hx, hb, hml, hown, hts⟩ hK hM hS rfl hN.1 rfl (c_Nodes_kind l D g lo L κ T cnt (16 + 2 * (s0 : Int).toNat) hN x (by omega)) (cwV 1 hts (gV m_421 m_313 m_314 m_56 m_315) rfl rfl rfl (by decide +kernel) ⟨Nat.le_of_ble_eq_true rfl, Nat.le_of_ble_eq_true rfl⟩) rfl hl.1 rfl (Nat.le_of_ble_eq_true rfl) d_Doc_insertFresh_5 ⟨Nat.le_of_ble_eq_true rfl, Nat.le_of_ble_eq_true rfl⟩ (fun H locs hM hS => ?_)
  have r4 := nCell_r (cnt := cnt) hN.2.2.2.1 0 x
  refine lv_iconst (v := iI (4)) hx hb d_Doc_insertFresh_8 rfl ?_
  refine ia_icmp_ne (a := nCell T cnt 0 x) (b := 4) (tgt := 16) hx hb d_Doc_insertFresh_9 (by decide) (by omega) (by omega) (fun c5 => ?_) (fun c5 => ?_)
  · refine lv_iconst (v := iI (0)) hx hb d_Doc_insertFresh_16 rfl ?_
    refine lv_istore (lv' := [(6, .int (iI 0)), (0, .ref (L 0)), (1, .int (iI s0)), (2, .int (iI x)), (3, .int (iI k0)), (4, .int (iI n0)), (5, .int (iI lv))]) hx hb d_Doc_insertFresh_17 hl (by decide) rfl (fun ls hl => ?_)
    refine lv_iload hx hb d_Doc_insertFresh_19 (lv_at hl 0 rfl) ?_
    refine ia_if_ne (a := 0) (tgt := 37) hx hb d_Doc_insertFresh_21 (by decide) (by omega) (fun c6 => ?_) (fun c6 => ?_)
    · exact absurd c6 (by decide)
    · refine lv_aload_n hx hb d_Doc_insertFresh_24 rfl (lv_at hl 1 rfl) ?_
      refine lv_iload_n hx hb d_Doc_insertFresh_25 rfl (lv_at hl 3 rfl) ?_
      refine lv_iload hx hb d_Doc_insertFresh_26 (lv_at hl 5 rfl) ?_
      refine mw_rdV (i := 0) (As := [.int (iI x), .int (iI n0)]) (rest := []) ⟨hx, hb, hml, hown, hts⟩ hK hM hS rfl hO rfl (c_Doc_isFreeName l D g lo L κ s0 fpl hO T cnt (16 + 2 * (s0 : Int).toNat) hN (17 + 2 * (s0 : Int).toNat) 2000 (nS (s0 : Int).toNat) (zS (s0 : Int).toNat) (bS (s0 : Int).toNat) hB1 2000 nT zT bT hT x n0 (by omega) (by omega)) (cwV 2 hts (gV m_490 m_492 m_13 m_51 m_493) rfl rfl rfl (by decide +kernel) ⟨Nat.le_of_ble_eq_true rfl, Nat.le_of_ble_eq_true rfl⟩) rfl hl.1 rfl (Nat.le_of_ble_eq_true rfl) d_Doc_insertFresh_28 ⟨Nat.le_of_ble_eq_true rfl, Nat.le_of_ble_eq_true rfl⟩ (fun H locs hM hS => ?_)
      refine ia_ifz_ne (x := dFree T cnt (bS (s0 : Int).toNat) (zS (s0 : Int).toNat) bT zT x n0) (tgt := 37) hx hb d_Doc_insertFresh_31 (by decide) (fun c7 => ?_) (fun c7 => ?_)
      · refine lv_aload_n hx hb d_Doc_insertFresh_37 rfl (lv_at hl 1 rfl) ?_
        refine mw_get (ci := 3) (i := 0) (v := .ref (L 6)) (C := R_Doc) (T := T_Doc) (N := 7) hx hb hts in_Doc hown hK hM hO rfl rfl 3 (by decide) (hts _ m_188) rfl d_Doc_insertFresh_38 ?_
        refine lv_iload_n hx hb d_Doc_insertFresh_41 rfl (lv_at hl 3 rfl) ?_
        refine mw_rdV (i := 6) (As := [.int (iI x)]) (rest := []) ⟨hx, hb, hml, hown, hts⟩ hK hM hS rfl hN.1 rfl (c_Nodes_depth l D g lo L κ T cnt (16 + 2 * (s0 : Int).toNat) hN x (by omega)) (cwV 1 hts (gV m_437 m_256 m_257 m_56 m_258) rfl rfl rfl (by decide +kernel) ⟨Nat.le_of_ble_eq_true rfl, Nat.le_of_ble_eq_true rfl⟩) rfl hl.1 rfl (Nat.le_of_ble_eq_true rfl) d_Doc_insertFresh_42 ⟨Nat.le_of_ble_eq_true rfl, Nat.le_of_ble_eq_true rfl⟩ (fun H locs hM hS => ?_)
        have r8 := nCell_r (cnt := cnt) hN.2.2.2.1 2 x
        refine lv_iload hx hb d_Doc_insertFresh_45 (lv_at hl 6 rfl) ?_
        refine ia_add hx hb d_Doc_insertFresh_47 ?_
        refine lv_bipush (v := iI (16)) hx hb d_Doc_insertFresh_48 (by decide) ?_
        refine ia_icmp_le (a := (nCell T cnt 2 x) + lv) (b := 16) (tgt := 56) hx hb d_Doc_insertFresh_50 (by decide) (by omega) (by omega) (fun c9 => ?_) (fun c9 => ?_)
        · refine lv_iload hx hb d_Doc_insertFresh_56 (lv_at hl 0 rfl) ?_
          refine ia_if_eq (a := 0) (tgt := 75) hx hb d_Doc_insertFresh_58 (by decide) (by omega) (fun c10 => ?_) (fun c10 => ?_)
          · refine lv_iload hx hb d_Doc_insertFresh_75 (lv_at hl 5 rfl) ?_
            refine lv_istore (lv' := [(7, .int (iI n0)), (6, .int (iI 0)), (0, .ref (L 0)), (1, .int (iI s0)), (2, .int (iI x)), (3, .int (iI k0)), (4, .int (iI n0)), (5, .int (iI lv))]) hx hb d_Doc_insertFresh_77 hl (by decide) rfl (fun ls hl => ?_)
            refine lv_iconst (v := iI (2)) hx hb d_Doc_insertFresh_79 rfl ?_
            refine lv_iload hx hb d_Doc_insertFresh_80 (lv_at hl 0 rfl) ?_
            refine ia_add hx hb d_Doc_insertFresh_82 ?_
            refine lv_aload_n hx hb d_Doc_insertFresh_83 rfl (lv_at hl 2 rfl) ?_
            refine mw_get (ci := 3) (i := 0) (v := .ref (L 4)) (C := R_Doc) (T := T_Doc) (N := 7) hx hb hts in_Doc hown hK hM hO rfl rfl 2 (by decide) (hts _ m_187) rfl d_Doc_insertFresh_84 ?_
            refine mw_rdV (i := 4) (As := []) (rest := [.int (iI (2 + n0))]) ⟨hx, hb, hml, hown, hts⟩ hK hM hS rfl hF.1 rfl (c_Bytes_size l D g lo L κ 4 5 2005 nF zF bF hF ) (cwV 0 hts (gV m_211 m_212 m_213 m_52 m_214) rfl rfl rfl (by decide +kernel) ⟨Nat.le_of_ble_eq_true rfl, Nat.le_of_ble_eq_true rfl⟩) rfl hl.1 rfl (Nat.le_of_ble_eq_true rfl) d_Doc_insertFresh_87 ⟨Nat.le_of_ble_eq_true rfl, Nat.le_of_ble_eq_true rfl⟩ (fun H locs hM hS => ?_)
            refine ia_add hx hb d_Doc_insertFresh_90 ?_
            refine lv_istore (lv' := [(8, .int (iI ((2 + n0) + zF))), (7, .int (iI n0)), (6, .int (iI 0)), (0, .ref (L 0)), (1, .int (iI s0)), (2, .int (iI x)), (3, .int (iI k0)), (4, .int (iI n0)), (5, .int (iI lv))]) hx hb d_Doc_insertFresh_91 hl (by decide) rfl (fun ls hl => ?_)
            refine lv_aload_n hx hb d_Doc_insertFresh_93 rfl (lv_at hl 3 rfl) ?_
            refine mw_get (ci := 3) (i := 0) (v := .ref (L 1)) (C := R_Doc) (T := T_Doc) (N := 7) hx hb hts in_Doc hown hK hM hO rfl rfl 1 (by decide) (hts _ m_186) rfl d_Doc_insertFresh_94 ?_
            refine lv_iload_n hx hb d_Doc_insertFresh_97 rfl (lv_at hl 4 rfl) ?_
            refine mw_aldq (a := s0) (i := 1) hx hb hK hM 2 hA1 rfl rfl (by omega) (by omega) (hA2 (s0 : Int).toNat (by omega)) d_Doc_insertFresh_98 ?_
            refine mw_rdV (i := 16 + 2 * (s0 : Int).toNat) (As := []) (rest := []) ⟨hx, hb, hml, hown, hts⟩ hK hM hS rfl hB1.1 rfl (c_Bytes_size l D g lo L κ (16 + 2 * (s0 : Int).toNat) (17 + 2 * (s0 : Int).toNat) 2000 (nS (s0 : Int).toNat) (zS (s0 : Int).toNat) (bS (s0 : Int).toNat) hB1 ) (cwV 0 hts (gV m_211 m_212 m_213 m_52 m_214) rfl rfl rfl (by decide +kernel) ⟨Nat.le_of_ble_eq_true rfl, Nat.le_of_ble_eq_true rfl⟩) rfl hl.1 rfl (Nat.le_of_ble_eq_true rfl) d_Doc_insertFresh_99 ⟨Nat.le_of_ble_eq_true rfl, Nat.le_of_ble_eq_true rfl⟩ (fun H locs hM hS => ?_)
            refine lv_iload hx hb d_Doc_insertFresh_102 (lv_at hl 0 rfl) ?_
            refine ia_add hx hb d_Doc_insertFresh_104 ?_
            refine lv_sipush (v := iI (2000)) hx hb d_Doc_insertFresh_105 (by decide) ?_
            refine ia_icmp_le (a := (((zS (s0 : Int).toNat : Nat) : Int)) + ((2 + n0) + zF)) (b := 2000) (tgt := 114) hx hb d_Doc_insertFresh_108 (by decide) (by omega) (by omega) (fun c11 => ?_) (fun c11 => ?_)
            · refine lv_aload_n hx hb d_Doc_insertFresh_114 rfl (lv_at hl 3 rfl) ?_
              refine mw_get (ci := 3) (i := 0) (v := .ref (L 6)) (C := R_Doc) (T := T_Doc) (N := 7) hx hb hts in_Doc hown hK hM hO rfl rfl 3 (by decide) (hts _ m_188) rfl d_Doc_insertFresh_115 ?_
              refine lv_iload_n hx hb d_Doc_insertFresh_118 rfl (lv_at hl 5 rfl) ?_
              refine mw_rdV (i := 6) (As := [.int (iI x)]) (rest := []) ⟨hx, hb, hml, hown, hts⟩ hK hM hS rfl hN.1 rfl (c_Nodes_behind l D g lo L κ T cnt (16 + 2 * (s0 : Int).toNat) hN x (by omega)) (cwV 1 hts (gV m_496 m_406 m_407 m_56 m_408) rfl rfl rfl (by decide +kernel) ⟨Nat.le_of_ble_eq_true rfl, Nat.le_of_ble_eq_true rfl⟩) rfl hl.1 rfl (Nat.le_of_ble_eq_true rfl) d_Doc_insertFresh_119 ⟨Nat.le_of_ble_eq_true rfl, Nat.le_of_ble_eq_true rfl⟩ (fun H locs hM hS => ?_)
              have r12 := nBeh_r T cnt x
              refine lv_istore (lv' := [(9, .int (iI (nBeh T cnt x))), (8, .int (iI ((2 + n0) + zF))), (7, .int (iI n0)), (6, .int (iI 0)), (0, .ref (L 0)), (1, .int (iI s0)), (2, .int (iI x)), (3, .int (iI k0)), (4, .int (iI n0)), (5, .int (iI lv))]) hx hb d_Doc_insertFresh_122 hl (by decide) rfl (fun ls hl => ?_)
              refine lv_aload_n hx hb d_Doc_insertFresh_124 rfl (lv_at hl 4 rfl) ?_
              refine lv_aload_n hx hb d_Doc_insertFresh_125 rfl (lv_at hl 4 rfl) ?_
              refine mw_get (ci := 3) (i := 0) (v := .ref (L 1)) (C := R_Doc) (T := T_Doc) (N := 7) hx hb hts in_Doc hown hK hM hO rfl rfl 1 (by decide) (hts _ m_186) rfl d_Doc_insertFresh_126 ?_
              refine lv_iload_n hx hb d_Doc_insertFresh_129 rfl (lv_at hl 5 rfl) ?_
              refine mw_aldq (a := s0) (i := 1) hx hb hK hM 2 hA1 rfl rfl (by omega) (by omega) (hA2 (s0 : Int).toNat (by omega)) d_Doc_insertFresh_130 ?_
              refine lv_iload_n hx hb d_Doc_insertFresh_131 rfl (lv_at hl 6 rfl) ?_
              refine lv_iload_n hx hb d_Doc_insertFresh_132 rfl (lv_at hl 7 rfl) ?_
              refine lv_iload hx hb d_Doc_insertFresh_133 (lv_at hl 2 rfl) ?_
              refine mw_callV (i := 0) (As := [.ref (L (16 + 2 * (s0 : Int).toNat)), .int (iI x), .int (iI k0), .int (iI n0)]) (rest := []) ⟨hx, hb, hml, hown, hts⟩ hK hM hS rfl hO rfl (c_Doc_writeFresh l D g lo L κ s0 fpl hO T cnt (16 + 2 * (s0 : Int).toNat) hN (16 + 2 * (s0 : Int).toNat) (17 + 2 * (s0 : Int).toNat) 2000 (nS (s0 : Int).toNat) (zS (s0 : Int).toNat) (bS (s0 : Int).toNat) hB1 2000 nT zT bT hT 2005 nF zF bF hF x k0 n0 (by omega) (by omega) (by omega) (by omega) (by omega) (by omega) (by omega) (by omega)) (cwV 4 hts (gV m_497 m_499 m_14 m_51 m_500) rfl rfl rfl (by decide +kernel) ⟨Nat.le_of_ble_eq_true rfl, Nat.le_of_ble_eq_true rfl⟩) rfl hl.1 rfl (Nat.le_of_ble_eq_true rfl) d_Doc_insertFresh_135 ⟨Nat.le_of_ble_eq_true rfl, Nat.le_of_ble_eq_true rfl⟩ (fun v13 L13 κ13 H locs hp13 hM hS => ?_)
              obtain ⟨n13, rfl, hL13, hB13, hk13⟩ := hp13
              have hB13 : bxs g L13 κ13 (16 + 2 * (s0 : Int).toNat) (17 + 2 * (s0 : Int).toNat) 2000 n13 (zS (s0 : Int).toNat + (2 + n0 + zF : Int).toNat) (dWrite T cnt (bS (s0 : Int).toNat) (zS (s0 : Int).toNat) bT bF zF x k0 n0) := hB13
              have r14 := hB13.2.2.1
              have hB15 := bxs_keep hT (hk13 2 (by omega) (by omega)) (hk13 3 (by omega) (by omega)) (hL13 3 (by omega))
              have hB16 := bxs_keep hF (hk13 4 (by omega) (by omega)) (hk13 5 (by omega) (by omega)) (hL13 5 (by omega))
              have hN17 := nds_keep hN (fun r h1 h2 => hk13 r (by omega) (by omega)) (fun r h1 h2 => hL13 r (by omega)) (hL13 (16 + 2 * (s0 : Int).toNat) (by omega))
              have hO18 := dob_keep hO (hk13 0 (by omega) (by omega)) (hL13 2 (by omega)) (hL13 1 (by omega)) (hL13 4 (by omega)) (hL13 6 (by omega)) (hL13 14 (by omega))
              have hR19 := rds_keep hR (hk13 14 (by omega) (by omega)) (hL13 6 (by omega)) (hL13 2 (by omega))
              have hF20 : ∀ k, k < 8 → k ≠ (s0 : Int).toNat → bxs g L13 κ13 (16 + 2 * k) (17 + 2 * k) 2000 (nS k) (zS k) (bS k) := fun k h1 h2 => bxs_keep (hF3 k h1 h2) (hk13 ((16 + 2 * k)) (by omega) (by omega)) (hk13 ((17 + 2 * k)) (by omega) (by omega)) (hL13 ((17 + 2 * k)) (by omega))
              have hA21 : ∀ k, k < 8 → fA k = some (L13 (16 + 2 * k)) := fun k h1 => by rw [hL13 ((16 + 2 * k)) (by omega)]; exact hA2 k h1
              have e22 := (hk13 1 (by omega) (by omega)).trans hA1
              refine lv_aload_n hx hb d_Doc_insertFresh_138 rfl (lv_at hl 4 rfl) ?_
              refine lv_aload_n hx hb d_Doc_insertFresh_139 rfl (lv_at hl 4 rfl) ?_
              refine mw_get (ci := 3) (i := 0) (v := .ref (L13 1)) (C := R_Doc) (T := T_Doc) (N := 7) hx hb hts in_Doc hown hK hM hO18 (hL13 0 (by omega)) rfl 1 (by decide) (hts _ m_186) rfl d_Doc_insertFresh_140 ?_
              refine lv_iload_n hx hb d_Doc_insertFresh_143 rfl (lv_at hl 5 rfl) ?_
              refine mw_aldq (a := s0) (i := 1) hx hb hK hM 2 e22 rfl rfl (by omega) (by omega) (hA21 (s0 : Int).toNat (by omega)) d_Doc_insertFresh_144 ?_
              refine lv_iload_n hx hb d_Doc_insertFresh_145 rfl (lv_at hl 6 rfl) ?_
              refine lv_iload hx hb d_Doc_insertFresh_146 (lv_at hl 1 rfl) ?_
              refine mw_callV (i := 0) (As := [.ref (L13 (16 + 2 * (s0 : Int).toNat)), .int (iI x), .int (iI ((2 + n0) + zF))]) (rest := []) ⟨hx, hb, hml, hown, hts⟩ hK hM hS (hL13 0 (by omega)) hO18 rfl (c_Doc_resizeUpwards l D g lo L13 κ13 s0 fpl hO18 T cnt (16 + 2 * (s0 : Int).toNat) hN17 (16 + 2 * (s0 : Int).toNat) (17 + 2 * (s0 : Int).toNat) 2000 n13 (zS (s0 : Int).toNat + (2 + n0 + zF : Int).toNat) (dWrite T cnt (bS (s0 : Int).toNat) (zS (s0 : Int).toNat) bT bF zF x k0 n0) hB13 x ((2 + n0) + zF) (by omega) (by omega) (by omega)) (cwV 3 hts (gV m_509 m_511 m_15 m_51 m_512) rfl rfl rfl (by decide +kernel) ⟨Nat.le_of_ble_eq_true rfl, Nat.le_of_ble_eq_true rfl⟩) rfl hl.1 rfl (Nat.le_of_ble_eq_true rfl) d_Doc_insertFresh_148 ⟨Nat.le_of_ble_eq_true rfl, Nat.le_of_ble_eq_true rfl⟩ (fun v23 L23 κ23 H locs hp23 hM hS => ?_)
              obtain ⟨rfl, rfl, hB23, hk23⟩ := hp23
              have r24 := hB23.2.2.1
              have hB25 := bxs_keep hB15 (hk23 2 (by omega) (by omega)) (hk23 3 (by omega) (by omega)) rfl
              have hB26 := bxs_keep hB16 (hk23 4 (by omega) (by omega)) (hk23 5 (by omega) (by omega)) rfl
              have hN27 := nds_keep hN17 (fun r h1 h2 => hk23 r (by omega) (by omega)) (fun r h1 h2 => rfl) rfl
              have hO28 := dob_keep hO18 (hk23 0 (by omega) (by omega)) rfl rfl rfl rfl rfl
              have hR29 := rds_keep hR19 (hk23 14 (by omega) (by omega)) rfl rfl
              have hF30 : ∀ k, k < 8 → k ≠ (s0 : Int).toNat → bxs g L13 κ23 (16 + 2 * k) (17 + 2 * k) 2000 (nS k) (zS k) (bS k) := fun k h1 h2 => bxs_keep (hF20 k h1 h2) (hk23 ((16 + 2 * k)) (by omega) (by omega)) (hk23 ((17 + 2 * k)) (by omega) (by omega)) rfl
              have e31 := (hk23 1 (by omega) (by omega)).trans e22
              refine lv_aload_n hx hb d_Doc_insertFresh_151 rfl (lv_at hl 4 rfl) ?_
              refine lv_iconst (v := iI (-1)) hx hb d_Doc_insertFresh_152 rfl ?_
              refine mw_put (ci := 3) (i := 0) (v := .int (iI (-1))) (C := R_Doc) (T := T_Doc) (N := 7) hx hb hts in_Doc ty_Doc ty_Doc_ok nm_Doc hown hK hM hS hO28 (hL13 0 (by omega)) rfl 5 (by decide) (hts _ m_190) rfl (ty_Doc_ok 5 (by decide)) rfl rfl (Nat.le_of_ble_eq_true rfl) d_Doc_insertFresh_153 (fun κ32 H locs e32 hk32 hM hS => ?_)
              have e32 : κ32 0 = some (.inr (3, [.ref (L13 2), .ref (L13 1), .ref (L13 4), .ref (L13 6), .ref (L13 14), .int (iI (-1)), .int (iI fpl)])) := e32
              have hB33 := bxs_keep hB25 (hk32 2 (by omega)) (hk32 3 (by omega)) rfl
              have hB34 := bxs_keep hB26 (hk32 4 (by omega)) (hk32 5 (by omega)) rfl
              have hN35 := nds_keep hN27 (fun r h1 h2 => hk32 r (by omega)) (fun r h1 h2 => rfl) rfl
              have hB36 := bxs_keep hB23 (hk32 (16 + 2 * (s0 : Int).toNat) (by omega)) (hk32 (17 + 2 * (s0 : Int).toNat) (by omega)) rfl
              have hR37 := rds_keep hR29 (hk32 14 (by omega)) rfl rfl
              have hF38 : ∀ k, k < 8 → k ≠ (s0 : Int).toNat → bxs g L13 κ32 (16 + 2 * k) (17 + 2 * k) 2000 (nS k) (zS k) (bS k) := fun k h1 h2 => bxs_keep (hF30 k h1 h2) (hk32 ((16 + 2 * k)) (by omega)) (hk32 ((17 + 2 * k)) (by omega)) rfl
              have e39 := (hk32 1 (by omega)).trans e31
              refine lv_iload hx hb d_Doc_insertFresh_156 (lv_at hl 0 rfl) ?_
              exact mw_iret hx hb hr hM hS hlocks d_Doc_insertFresh_158 (by rw [(show dInsA T cnt (bS s0.toNat) (zS s0.toNat) bT zT zF x n0 lv = nBeh T cnt x by unfold dInsA; rw [if_neg (fun q => absurd q.2 (znf (by assumption))), if_neg (by omega), show dNl T cnt x n0 = n0 by unfold dNl; rw [if_neg (by omega)], if_neg (by omega)])]; unfold dInsB dInsZ; rw [show dNl T cnt x n0 = n0 by unfold dNl; rw [if_neg (by omega)]]; exact ⟨⟨by rw [hL13 0 (by omega)], fun r h => by rw [hL13 r (by omega)], fun r h => by rw [hk32 r (by omega), hk23 r (by omega) (by omega), hk13 r (by omega) (by omega)]⟩, Or.inr ⟨by omega, rfl, ⟨e32, ⟨fA, e39, hA21⟩, ⟨_, hB33⟩, ⟨_, hB34⟩, hN35, ⟨_, _, _, _, hR37⟩, ⟨va_up nS (s0 : Int).toNat (n13), fun k h1 => by
    by_cases q : k = (s0 : Int).toNat
    · rw [q, va_up_self, va_up_self, va_up_self]; exact hB36
    · rw [va_up_ne _ _ q, va_up_ne _ _ q, va_up_ne _ _ q]; exact hF38 k h1 q⟩, ⟨fun h => absurd h (by decide), hd.2⟩⟩⟩⟩)
            · refine lv_bipush (v := iI (-5)) hx hb d_Doc_insertFresh_111 (by decide) ?_
              refine W.widen (k := 1) (n := 2005) (Nat.le_of_ble_eq_true rfl) (Nat.le_of_ble_eq_true rfl) ?_
              exact mw_iret hx hb hr hM hS hlocks d_Doc_insertFresh_113 (by rw [(show dInsA T cnt (bS s0.toNat) (zS s0.toNat) bT zT zF x n0 lv = -5 by unfold dInsA; rw [if_neg (fun q => absurd q.2 (znf (by assumption))), if_neg (by omega), show dNl T cnt x n0 = n0 by unfold dNl; rw [if_neg (by omega)], if_pos (by omega)])]; exact ⟨⟨rfl, fun r h => rfl, fun r h => rfl⟩, Or.inl ⟨by decide, rfl, ⟨hO, ⟨fA, hA1, hA2⟩, ⟨_, hT⟩, ⟨_, hF⟩, hN, ⟨_, _, _, _, hR⟩, ⟨nS, hSl⟩, hd⟩⟩⟩)
          · exact absurd (by decide) c10
        · refine lv_bipush (v := iI (-4)) hx hb d_Doc_insertFresh_53 (by decide) ?_
          refine W.widen (k := 1) (n := 2005) (Nat.le_of_ble_eq_true rfl) (Nat.le_of_ble_eq_true rfl) ?_
          exact mw_iret hx hb hr hM hS hlocks d_Doc_insertFresh_55 (by rw [(show dInsA T cnt (bS s0.toNat) (zS s0.toNat) bT zT zF x n0 lv = -4 by unfold dInsA; rw [if_neg (fun q => absurd q.2 (znf (by assumption))), if_pos (by omega)])]; exact ⟨⟨rfl, fun r h => rfl, fun r h => rfl⟩, Or.inl ⟨by decide, rfl, ⟨hO, ⟨fA, hA1, hA2⟩, ⟨_, hT⟩, ⟨_, hF⟩, hN, ⟨_, _, _, _, hR⟩, ⟨nS, hSl⟩, hd⟩⟩⟩)
      · refine lv_bipush (v := iI (-3)) hx hb d_Doc_insertFresh_34 (by decide) ?_
        refine W.widen (k := 1) (n := 2005) (Nat.le_of_ble_eq_true rfl) (Nat.le_of_ble_eq_true rfl) ?_
        exact mw_iret hx hb hr hM hS hlocks d_Doc_insertFresh_36 (by rw [(show dInsA T cnt (bS s0.toNat) (zS s0.toNat) bT zT zF x n0 lv = -3 by unfold dInsA; rw [if_pos ⟨by omega, by assumption⟩])]; exact ⟨⟨rfl, fun r h => rfl, fun r h => rfl⟩, Or.inl ⟨by decide, rfl, ⟨hO, ⟨fA, hA1, hA2⟩, ⟨_, hT⟩, ⟨_, hF⟩, hN, ⟨_, _, _, _, hR⟩, ⟨nS, hSl⟩, hd⟩⟩⟩)
  · refine lv_iconst (v := iI (1)) hx hb d_Doc_insertFresh_12 rfl ?_
    refine lv_goto (tgt := 17) hx hb d_Doc_insertFresh_13 (by decide) ?_
    refine lv_istore (lv' := [(6, .int (iI 1)), (0, .ref (L 0)), (1, .int (iI s0)), (2, .int (iI x)), (3, .int (iI k0)), (4, .int (iI n0)), (5, .int (iI lv))]) hx hb d_Doc_insertFresh_17 hl (by decide) rfl (fun ls hl => ?_)
    refine lv_iload hx hb d_Doc_insertFresh_19 (lv_at hl 0 rfl) ?_
    refine ia_if_ne (a := 1) (tgt := 37) hx hb d_Doc_insertFresh_21 (by decide) (by omega) (fun c40 => ?_) (fun c40 => ?_)
    · refine lv_aload_n hx hb d_Doc_insertFresh_37 rfl (lv_at hl 1 rfl) ?_
      refine mw_get (ci := 3) (i := 0) (v := .ref (L 6)) (C := R_Doc) (T := T_Doc) (N := 7) hx hb hts in_Doc hown hK hM hO rfl rfl 3 (by decide) (hts _ m_188) rfl d_Doc_insertFresh_38 ?_
      refine lv_iload_n hx hb d_Doc_insertFresh_41 rfl (lv_at hl 3 rfl) ?_
      refine mw_rdV (i := 6) (As := [.int (iI x)]) (rest := []) ⟨hx, hb, hml, hown, hts⟩ hK hM hS rfl hN.1 rfl (c_Nodes_depth l D g lo L κ T cnt (16 + 2 * (s0 : Int).toNat) hN x (by omega)) (cwV 1 hts (gV m_437 m_256 m_257 m_56 m_258) rfl rfl rfl (by decide +kernel) ⟨Nat.le_of_ble_eq_true rfl, Nat.le_of_ble_eq_true rfl⟩) rfl hl.1 rfl (Nat.le_of_ble_eq_true rfl) d_Doc_insertFresh_42 ⟨Nat.le_of_ble_eq_true rfl, Nat.le_of_ble_eq_true rfl⟩ (fun H locs hM hS => ?_)
      have r41 := nCell_r (cnt := cnt) hN.2.2.2.1 2 x
      refine lv_iload hx hb d_Doc_insertFresh_45 (lv_at hl 6 rfl) ?_
      refine ia_add hx hb d_Doc_insertFresh_47 ?_
      refine lv_bipush (v := iI (16)) hx hb d_Doc_insertFresh_48 (by decide) ?_
      refine ia_icmp_le (a := (nCell T cnt 2 x) + lv) (b := 16) (tgt := 56) hx hb d_Doc_insertFresh_50 (by decide) (by omega) (by omega) (fun c42 => ?_) (fun c42 => ?_)
      · refine lv_iload hx hb d_Doc_insertFresh_56 (lv_at hl 0 rfl) ?_
        refine ia_if_eq (a := 1) (tgt := 75) hx hb d_Doc_insertFresh_58 (by decide) (by omega) (fun c43 => ?_) (fun c43 => ?_)
        · exact absurd c43 (by decide)
        · refine lv_aload_n hx hb d_Doc_insertFresh_61 rfl (lv_at hl 1 rfl) ?_
          refine mw_get (ci := 3) (i := 0) (v := .ref (L 6)) (C := R_Doc) (T := T_Doc) (N := 7) hx hb hts in_Doc hown hK hM hO rfl rfl 3 (by decide) (hts _ m_188) rfl d_Doc_insertFresh_62 ?_
          refine lv_iload_n hx hb d_Doc_insertFresh_65 rfl (lv_at hl 3 rfl) ?_
          refine mw_rdV (i := 6) (As := [.int (iI x)]) (rest := []) ⟨hx, hb, hml, hown, hts⟩ hK hM hS rfl hN.1 rfl (c_Nodes_elements l D g lo L κ T cnt (16 + 2 * (s0 : Int).toNat) hN x (by omega)) (cwV 1 hts (gV m_423 m_317 m_318 m_56 m_319) rfl rfl rfl (by decide +kernel) ⟨Nat.le_of_ble_eq_true rfl, Nat.le_of_ble_eq_true rfl⟩) rfl hl.1 rfl (Nat.le_of_ble_eq_true rfl) d_Doc_insertFresh_66 ⟨Nat.le_of_ble_eq_true rfl, Nat.le_of_ble_eq_true rfl⟩ (fun H locs hM hS => ?_)
          have r44 := nCell_r (cnt := cnt) hN.2.2.2.1 6 x
          refine mw_rdS (As := [.int (iI (nCell T cnt 6 x))]) (rest := []) ⟨hx, hb, hml, hown, hts⟩ hK hM hS (c_Bytes_digits l D g lo L κ (nCell T cnt 6 x) (by omega)) (va_cwS 1 hts (gT m_495 m_325 m_52 m_326) rfl rfl rfl (by decide +kernel) ⟨Nat.le_of_ble_eq_true rfl, Nat.le_of_ble_eq_true rfl⟩) rfl hl.1 rfl (Nat.le_of_ble_eq_true rfl) d_Doc_insertFresh_69 ⟨Nat.le_of_ble_eq_true rfl, Nat.le_of_ble_eq_true rfl⟩ (fun H locs hM hS => ?_)
          have r45 := bDigits_r (nCell T cnt 6 x)
          refine lv_goto (tgt := 77) hx hb d_Doc_insertFresh_72 (by decide) ?_
          refine lv_istore (lv' := [(7, .int (iI (bDigits (nCell T cnt 6 x)))), (6, .int (iI 1)), (0, .ref (L 0)), (1, .int (iI s0)), (2, .int (iI x)), (3, .int (iI k0)), (4, .int (iI n0)), (5, .int (iI lv))]) hx hb d_Doc_insertFresh_77 hl (by decide) rfl (fun ls hl => ?_)
          refine lv_iconst (v := iI (2)) hx hb d_Doc_insertFresh_79 rfl ?_
          refine lv_iload hx hb d_Doc_insertFresh_80 (lv_at hl 0 rfl) ?_
          refine ia_add hx hb d_Doc_insertFresh_82 ?_
          refine lv_aload_n hx hb d_Doc_insertFresh_83 rfl (lv_at hl 2 rfl) ?_
          refine mw_get (ci := 3) (i := 0) (v := .ref (L 4)) (C := R_Doc) (T := T_Doc) (N := 7) hx hb hts in_Doc hown hK hM hO rfl rfl 2 (by decide) (hts _ m_187) rfl d_Doc_insertFresh_84 ?_
          refine mw_rdV (i := 4) (As := []) (rest := [.int (iI (2 + (bDigits (nCell T cnt 6 x))))]) ⟨hx, hb, hml, hown, hts⟩ hK hM hS rfl hF.1 rfl (c_Bytes_size l D g lo L κ 4 5 2005 nF zF bF hF ) (cwV 0 hts (gV m_211 m_212 m_213 m_52 m_214) rfl rfl rfl (by decide +kernel) ⟨Nat.le_of_ble_eq_true rfl, Nat.le_of_ble_eq_true rfl⟩) rfl hl.1 rfl (Nat.le_of_ble_eq_true rfl) d_Doc_insertFresh_87 ⟨Nat.le_of_ble_eq_true rfl, Nat.le_of_ble_eq_true rfl⟩ (fun H locs hM hS => ?_)
          refine ia_add hx hb d_Doc_insertFresh_90 ?_
          refine lv_istore (lv' := [(8, .int (iI ((2 + (bDigits (nCell T cnt 6 x))) + zF))), (7, .int (iI (bDigits (nCell T cnt 6 x)))), (6, .int (iI 1)), (0, .ref (L 0)), (1, .int (iI s0)), (2, .int (iI x)), (3, .int (iI k0)), (4, .int (iI n0)), (5, .int (iI lv))]) hx hb d_Doc_insertFresh_91 hl (by decide) rfl (fun ls hl => ?_)
          refine lv_aload_n hx hb d_Doc_insertFresh_93 rfl (lv_at hl 3 rfl) ?_
          refine mw_get (ci := 3) (i := 0) (v := .ref (L 1)) (C := R_Doc) (T := T_Doc) (N := 7) hx hb hts in_Doc hown hK hM hO rfl rfl 1 (by decide) (hts _ m_186) rfl d_Doc_insertFresh_94 ?_
          refine lv_iload_n hx hb d_Doc_insertFresh_97 rfl (lv_at hl 4 rfl) ?_
          refine mw_aldq (a := s0) (i := 1) hx hb hK hM 2 hA1 rfl rfl (by omega) (by omega) (hA2 (s0 : Int).toNat (by omega)) d_Doc_insertFresh_98 ?_
          refine mw_rdV (i := 16 + 2 * (s0 : Int).toNat) (As := []) (rest := []) ⟨hx, hb, hml, hown, hts⟩ hK hM hS rfl hB1.1 rfl (c_Bytes_size l D g lo L κ (16 + 2 * (s0 : Int).toNat) (17 + 2 * (s0 : Int).toNat) 2000 (nS (s0 : Int).toNat) (zS (s0 : Int).toNat) (bS (s0 : Int).toNat) hB1 ) (cwV 0 hts (gV m_211 m_212 m_213 m_52 m_214) rfl rfl rfl (by decide +kernel) ⟨Nat.le_of_ble_eq_true rfl, Nat.le_of_ble_eq_true rfl⟩) rfl hl.1 rfl (Nat.le_of_ble_eq_true rfl) d_Doc_insertFresh_99 ⟨Nat.le_of_ble_eq_true rfl, Nat.le_of_ble_eq_true rfl⟩ (fun H locs hM hS => ?_)
          refine lv_iload hx hb d_Doc_insertFresh_102 (lv_at hl 0 rfl) ?_
          refine ia_add hx hb d_Doc_insertFresh_104 ?_
          refine lv_sipush (v := iI (2000)) hx hb d_Doc_insertFresh_105 (by decide) ?_
          refine ia_icmp_le (a := (((zS (s0 : Int).toNat : Nat) : Int)) + ((2 + (bDigits (nCell T cnt 6 x))) + zF)) (b := 2000) (tgt := 114) hx hb d_Doc_insertFresh_108 (by decide) (by omega) (by omega) (fun c46 => ?_) (fun c46 => ?_)
          · refine lv_aload_n hx hb d_Doc_insertFresh_114 rfl (lv_at hl 3 rfl) ?_
            refine mw_get (ci := 3) (i := 0) (v := .ref (L 6)) (C := R_Doc) (T := T_Doc) (N := 7) hx hb hts in_Doc hown hK hM hO rfl rfl 3 (by decide) (hts _ m_188) rfl d_Doc_insertFresh_115 ?_
            refine lv_iload_n hx hb d_Doc_insertFresh_118 rfl (lv_at hl 5 rfl) ?_
            refine mw_rdV (i := 6) (As := [.int (iI x)]) (rest := []) ⟨hx, hb, hml, hown, hts⟩ hK hM hS rfl hN.1 rfl (c_Nodes_behind l D g lo L κ T cnt (16 + 2 * (s0 : Int).toNat) hN x (by omega)) (cwV 1 hts (gV m_496 m_406 m_407 m_56 m_408) rfl rfl rfl (by decide +kernel) ⟨Nat.le_of_ble_eq_true rfl, Nat.le_of_ble_eq_true rfl⟩) rfl hl.1 rfl (Nat.le_of_ble_eq_true rfl) d_Doc_insertFresh_119 ⟨Nat.le_of_ble_eq_true rfl, Nat.le_of_ble_eq_true rfl⟩ (fun H locs hM hS => ?_)
            have r47 := nBeh_r T cnt x
            refine lv_istore (lv' := [(9, .int (iI (nBeh T cnt x))), (8, .int (iI ((2 + (bDigits (nCell T cnt 6 x))) + zF))), (7, .int (iI (bDigits (nCell T cnt 6 x)))), (6, .int (iI 1)), (0, .ref (L 0)), (1, .int (iI s0)), (2, .int (iI x)), (3, .int (iI k0)), (4, .int (iI n0)), (5, .int (iI lv))]) hx hb d_Doc_insertFresh_122 hl (by decide) rfl (fun ls hl => ?_)
            refine lv_aload_n hx hb d_Doc_insertFresh_124 rfl (lv_at hl 4 rfl) ?_
            refine lv_aload_n hx hb d_Doc_insertFresh_125 rfl (lv_at hl 4 rfl) ?_
            refine mw_get (ci := 3) (i := 0) (v := .ref (L 1)) (C := R_Doc) (T := T_Doc) (N := 7) hx hb hts in_Doc hown hK hM hO rfl rfl 1 (by decide) (hts _ m_186) rfl d_Doc_insertFresh_126 ?_
            refine lv_iload_n hx hb d_Doc_insertFresh_129 rfl (lv_at hl 5 rfl) ?_
            refine mw_aldq (a := s0) (i := 1) hx hb hK hM 2 hA1 rfl rfl (by omega) (by omega) (hA2 (s0 : Int).toNat (by omega)) d_Doc_insertFresh_130 ?_
            refine lv_iload_n hx hb d_Doc_insertFresh_131 rfl (lv_at hl 6 rfl) ?_
            refine lv_iload_n hx hb d_Doc_insertFresh_132 rfl (lv_at hl 7 rfl) ?_
            refine lv_iload hx hb d_Doc_insertFresh_133 (lv_at hl 2 rfl) ?_
            refine mw_callV (i := 0) (As := [.ref (L (16 + 2 * (s0 : Int).toNat)), .int (iI x), .int (iI k0), .int (iI (bDigits (nCell T cnt 6 x)))]) (rest := []) ⟨hx, hb, hml, hown, hts⟩ hK hM hS rfl hO rfl (c_Doc_writeFresh l D g lo L κ s0 fpl hO T cnt (16 + 2 * (s0 : Int).toNat) hN (16 + 2 * (s0 : Int).toNat) (17 + 2 * (s0 : Int).toNat) 2000 (nS (s0 : Int).toNat) (zS (s0 : Int).toNat) (bS (s0 : Int).toNat) hB1 2000 nT zT bT hT 2005 nF zF bF hF x k0 (bDigits (nCell T cnt 6 x)) (by omega) (by omega) (by omega) (by omega) (by omega) (by omega) (by omega) (by omega)) (cwV 4 hts (gV m_497 m_499 m_14 m_51 m_500) rfl rfl rfl (by decide +kernel) ⟨Nat.le_of_ble_eq_true rfl, Nat.le_of_ble_eq_true rfl⟩) rfl hl.1 rfl (Nat.le_of_ble_eq_true rfl) d_Doc_insertFresh_135 ⟨Nat.le_of_ble_eq_true rfl, Nat.le_of_ble_eq_true rfl⟩ (fun v48 L48 κ48 H locs hp48 hM hS => ?_)
            obtain ⟨n48, rfl, hL48, hB48, hk48⟩ := hp48
            have hB48 : bxs g L48 κ48 (16 + 2 * (s0 : Int).toNat) (17 + 2 * (s0 : Int).toNat) 2000 n48 (zS (s0 : Int).toNat + (2 + (bDigits (nCell T cnt 6 x)) + zF : Int).toNat) (dWrite T cnt (bS (s0 : Int).toNat) (zS (s0 : Int).toNat) bT bF zF x k0 (bDigits (nCell T cnt 6 x))) := hB48
            have r49 := hB48.2.2.1
            have hB50 := bxs_keep hT (hk48 2 (by omega) (by omega)) (hk48 3 (by omega) (by omega)) (hL48 3 (by omega))
            have hB51 := bxs_keep hF (hk48 4 (by omega) (by omega)) (hk48 5 (by omega) (by omega)) (hL48 5 (by omega))
            have hN52 := nds_keep hN (fun r h1 h2 => hk48 r (by omega) (by omega)) (fun r h1 h2 => hL48 r (by omega)) (hL48 (16 + 2 * (s0 : Int).toNat) (by omega))
            have hO53 := dob_keep hO (hk48 0 (by omega) (by omega)) (hL48 2 (by omega)) (hL48 1 (by omega)) (hL48 4 (by omega)) (hL48 6 (by omega)) (hL48 14 (by omega))
            have hR54 := rds_keep hR (hk48 14 (by omega) (by omega)) (hL48 6 (by omega)) (hL48 2 (by omega))
            have hF55 : ∀ k, k < 8 → k ≠ (s0 : Int).toNat → bxs g L48 κ48 (16 + 2 * k) (17 + 2 * k) 2000 (nS k) (zS k) (bS k) := fun k h1 h2 => bxs_keep (hF3 k h1 h2) (hk48 ((16 + 2 * k)) (by omega) (by omega)) (hk48 ((17 + 2 * k)) (by omega) (by omega)) (hL48 ((17 + 2 * k)) (by omega))
            have hA56 : ∀ k, k < 8 → fA k = some (L48 (16 + 2 * k)) := fun k h1 => by rw [hL48 ((16 + 2 * k)) (by omega)]; exact hA2 k h1
            have e57 := (hk48 1 (by omega) (by omega)).trans hA1
            refine lv_aload_n hx hb d_Doc_insertFresh_138 rfl (lv_at hl 4 rfl) ?_
            refine lv_aload_n hx hb d_Doc_insertFresh_139 rfl (lv_at hl 4 rfl) ?_
            refine mw_get (ci := 3) (i := 0) (v := .ref (L48 1)) (C := R_Doc) (T := T_Doc) (N := 7) hx hb hts in_Doc hown hK hM hO53 (hL48 0 (by omega)) rfl 1 (by decide) (hts _ m_186) rfl d_Doc_insertFresh_140 ?_
            refine lv_iload_n hx hb d_Doc_insertFresh_143 rfl (lv_at hl 5 rfl) ?_
            refine mw_aldq (a := s0) (i := 1) hx hb hK hM 2 e57 rfl rfl (by omega) (by omega) (hA56 (s0 : Int).toNat (by omega)) d_Doc_insertFresh_144 ?_
            refine lv_iload_n hx hb d_Doc_insertFresh_145 rfl (lv_at hl 6 rfl) ?_
            refine lv_iload hx hb d_Doc_insertFresh_146 (lv_at hl 1 rfl) ?_
            refine mw_callV (i := 0) (As := [.ref (L48 (16 + 2 * (s0 : Int).toNat)), .int (iI x), .int (iI ((2 + (bDigits (nCell T cnt 6 x))) + zF))]) (rest := []) ⟨hx, hb, hml, hown, hts⟩ hK hM hS (hL48 0 (by omega)) hO53 rfl (c_Doc_resizeUpwards l D g lo L48 κ48 s0 fpl hO53 T cnt (16 + 2 * (s0 : Int).toNat) hN52 (16 + 2 * (s0 : Int).toNat) (17 + 2 * (s0 : Int).toNat) 2000 n48 (zS (s0 : Int).toNat + (2 + (bDigits (nCell T cnt 6 x)) + zF : Int).toNat) (dWrite T cnt (bS (s0 : Int).toNat) (zS (s0 : Int).toNat) bT bF zF x k0 (bDigits (nCell T cnt 6 x))) hB48 x ((2 + (bDigits (nCell T cnt 6 x))) + zF) (by omega) (by omega) (by omega)) (cwV 3 hts (gV m_509 m_511 m_15 m_51 m_512) rfl rfl rfl (by decide +kernel) ⟨Nat.le_of_ble_eq_true rfl, Nat.le_of_ble_eq_true rfl⟩) rfl hl.1 rfl (Nat.le_of_ble_eq_true rfl) d_Doc_insertFresh_148 ⟨Nat.le_of_ble_eq_true rfl, Nat.le_of_ble_eq_true rfl⟩ (fun v58 L58 κ58 H locs hp58 hM hS => ?_)
            obtain ⟨rfl, rfl, hB58, hk58⟩ := hp58
            have r59 := hB58.2.2.1
            have hB60 := bxs_keep hB50 (hk58 2 (by omega) (by omega)) (hk58 3 (by omega) (by omega)) rfl
            have hB61 := bxs_keep hB51 (hk58 4 (by omega) (by omega)) (hk58 5 (by omega) (by omega)) rfl
            have hN62 := nds_keep hN52 (fun r h1 h2 => hk58 r (by omega) (by omega)) (fun r h1 h2 => rfl) rfl
            have hO63 := dob_keep hO53 (hk58 0 (by omega) (by omega)) rfl rfl rfl rfl rfl
            have hR64 := rds_keep hR54 (hk58 14 (by omega) (by omega)) rfl rfl
            have hF65 : ∀ k, k < 8 → k ≠ (s0 : Int).toNat → bxs g L48 κ58 (16 + 2 * k) (17 + 2 * k) 2000 (nS k) (zS k) (bS k) := fun k h1 h2 => bxs_keep (hF55 k h1 h2) (hk58 ((16 + 2 * k)) (by omega) (by omega)) (hk58 ((17 + 2 * k)) (by omega) (by omega)) rfl
            have e66 := (hk58 1 (by omega) (by omega)).trans e57
            refine lv_aload_n hx hb d_Doc_insertFresh_151 rfl (lv_at hl 4 rfl) ?_
            refine lv_iconst (v := iI (-1)) hx hb d_Doc_insertFresh_152 rfl ?_
            refine mw_put (ci := 3) (i := 0) (v := .int (iI (-1))) (C := R_Doc) (T := T_Doc) (N := 7) hx hb hts in_Doc ty_Doc ty_Doc_ok nm_Doc hown hK hM hS hO63 (hL48 0 (by omega)) rfl 5 (by decide) (hts _ m_190) rfl (ty_Doc_ok 5 (by decide)) rfl rfl (Nat.le_of_ble_eq_true rfl) d_Doc_insertFresh_153 (fun κ67 H locs e67 hk67 hM hS => ?_)
            have e67 : κ67 0 = some (.inr (3, [.ref (L48 2), .ref (L48 1), .ref (L48 4), .ref (L48 6), .ref (L48 14), .int (iI (-1)), .int (iI fpl)])) := e67
            have hB68 := bxs_keep hB60 (hk67 2 (by omega)) (hk67 3 (by omega)) rfl
            have hB69 := bxs_keep hB61 (hk67 4 (by omega)) (hk67 5 (by omega)) rfl
            have hN70 := nds_keep hN62 (fun r h1 h2 => hk67 r (by omega)) (fun r h1 h2 => rfl) rfl
            have hB71 := bxs_keep hB58 (hk67 (16 + 2 * (s0 : Int).toNat) (by omega)) (hk67 (17 + 2 * (s0 : Int).toNat) (by omega)) rfl
            have hR72 := rds_keep hR64 (hk67 14 (by omega)) rfl rfl
            have hF73 : ∀ k, k < 8 → k ≠ (s0 : Int).toNat → bxs g L48 κ67 (16 + 2 * k) (17 + 2 * k) 2000 (nS k) (zS k) (bS k) := fun k h1 h2 => bxs_keep (hF65 k h1 h2) (hk67 ((16 + 2 * k)) (by omega)) (hk67 ((17 + 2 * k)) (by omega)) rfl
            have e74 := (hk67 1 (by omega)).trans e66
            refine lv_iload hx hb d_Doc_insertFresh_156 (lv_at hl 0 rfl) ?_
            exact mw_iret hx hb hr hM hS hlocks d_Doc_insertFresh_158 (by rw [(show dInsA T cnt (bS s0.toNat) (zS s0.toNat) bT zT zF x n0 lv = nBeh T cnt x by unfold dInsA; rw [if_neg (fun q => absurd q.1 (by omega)), if_neg (by omega), show dNl T cnt x n0 = bDigits (nCell T cnt 6 x) by unfold dNl; rw [if_pos (by omega)], if_neg (by omega)])]; unfold dInsB dInsZ; rw [show dNl T cnt x n0 = bDigits (nCell T cnt 6 x) by unfold dNl; rw [if_pos (by omega)]]; exact ⟨⟨by rw [hL48 0 (by omega)], fun r h => by rw [hL48 r (by omega)], fun r h => by rw [hk67 r (by omega), hk58 r (by omega) (by omega), hk48 r (by omega) (by omega)]⟩, Or.inr ⟨by omega, rfl, ⟨e67, ⟨fA, e74, hA56⟩, ⟨_, hB68⟩, ⟨_, hB69⟩, hN70, ⟨_, _, _, _, hR72⟩, ⟨va_up nS (s0 : Int).toNat (n48), fun k h1 => by
    by_cases q : k = (s0 : Int).toNat
    · rw [q, va_up_self, va_up_self, va_up_self]; exact hB71
    · rw [va_up_ne _ _ q, va_up_ne _ _ q, va_up_ne _ _ q]; exact hF73 k h1 q⟩, ⟨fun h => absurd h (by decide), hd.2⟩⟩⟩⟩)
          · refine lv_bipush (v := iI (-5)) hx hb d_Doc_insertFresh_111 (by decide) ?_
            refine W.widen (k := 1) (n := 2005) (Nat.le_of_ble_eq_true rfl) (Nat.le_of_ble_eq_true rfl) ?_
            exact mw_iret hx hb hr hM hS hlocks d_Doc_insertFresh_113 (by rw [(show dInsA T cnt (bS s0.toNat) (zS s0.toNat) bT zT zF x n0 lv = -5 by unfold dInsA; rw [if_neg (fun q => absurd q.1 (by omega)), if_neg (by omega), show dNl T cnt x n0 = bDigits (nCell T cnt 6 x) by unfold dNl; rw [if_pos (by omega)], if_pos (by omega)])]; exact ⟨⟨rfl, fun r h => rfl, fun r h => rfl⟩, Or.inl ⟨by decide, rfl, ⟨hO, ⟨fA, hA1, hA2⟩, ⟨_, hT⟩, ⟨_, hF⟩, hN, ⟨_, _, _, _, hR⟩, ⟨nS, hSl⟩, hd⟩⟩⟩)
      · refine lv_bipush (v := iI (-4)) hx hb d_Doc_insertFresh_53 (by decide) ?_
        refine W.widen (k := 1) (n := 2005) (Nat.le_of_ble_eq_true rfl) (Nat.le_of_ble_eq_true rfl) ?_
        exact mw_iret hx hb hr hM hS hlocks d_Doc_insertFresh_55 (by rw [(show dInsA T cnt (bS s0.toNat) (zS s0.toNat) bT zT zF x n0 lv = -4 by unfold dInsA; rw [if_neg (fun q => absurd q.1 (by omega)), if_pos (by omega)])]; exact ⟨⟨rfl, fun r h => rfl, fun r h => rfl⟩, Or.inl ⟨by decide, rfl, ⟨hO, ⟨fA, hA1, hA2⟩, ⟨_, hT⟩, ⟨_, hF⟩, hN, ⟨_, _, _, _, hR⟩, ⟨nS, hSl⟩, hd⟩⟩⟩)
    · exact absurd (by decide) c40
