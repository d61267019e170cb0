set_option maxHeartbeats 4000000 in
set_option maxRecDepth 100000 in
theorem c_Doc_hasNode (l : Launch) (D : va_G) (g : Nat → ClassId) (lo : Nat) (L : Nat → Nat) (κ : Nat → Option va_E) (scn fpl : Int) (zT : Nat) (bT : Nat → Int) (zF : Nat) (bF : Nat → Int) (T : Nat → Nat → Int) (cnt d : Nat) (zS : Nat → Nat) (bS : Nat → Nat → Int) (hW : dbs g L κ scn fpl zT bT zF bF T cnt d zS bS) (hsc : -1 ≤ scn ∧ scn < 8) (s0 x : Int) (hs0 : -2147483648 ≤ s0 ∧ s0 < 2147483648) (hx : -2147483648 ≤ x ∧ x < 2147483648) (hOK : dOK scn s0 T zS bS) : Met l y_Doc_hasNode w_Doc_hasNode ({ frames := 4, cells := 0, slots := 0, locals := 97 }) (mwP D vwCl (tyL g) lo L κ [.ref (L 0), .int (iI s0), .int (iI x)]) (mwQ D vwCl lo (fun v L1 κ1 => v = some (.int (iI (bI (dHas s0 x (dTab scn s0 T cnt d zS bS).2.2.1)))) ∧ L = L1 ∧ dbs g L κ1 ((dTab scn s0 T cnt d zS bS).1) fpl zT bT zF bF ((dTab scn s0 T cnt d zS bS).2.1) ((dTab scn s0 T cnt d zS bS).2.2.1) ((dTab scn s0 T cnt d zS bS).2.2.2) zS bS ∧ ∀ r, 40 ≤ r → κ1 r = κ r)) 0 0 (fun q => lo ≤ q) := by
  obtain ⟨hO, ⟨fA, hA1, hA2⟩, ⟨nT, hT⟩, ⟨nF, hF⟩, hN, ⟨ra, ri, rf, rp, hR⟩, ⟨nS, hSl⟩, hd⟩ := hW
  have hct := hT.2.2.1
  have hcf := hF.2.2.1
  have hcn := hN.2.2.1
  refine Met.ofW (cc := b_Doc_hasNode) (maxL := 3) (ret := (Option.some Jvm.ClassFile.FieldType.boolean)) (by decide) rfl ?_
  intro p e s m args below meth c s₁ B hml hpre
  obtain ⟨hargs, hM, hK⟩ := hpre
  have hx := B.exec
  have hb := B.bytes
  have hr := B.returns
  have hts : ∀ w ∈ wA, w.before args s = true := fun w h => atoms_spec (ws := w_Doc_hasNode) B.pre w (List.mem_cons_of_mem _ h)
  have hown : s.vm.findClass R_Doc = some m.cls := findClass_of_methodNamed B.named
  have hlocks := B.notSynchronized
  have hS : va_S (fun q => lo ≤ q) s.heap s.heap [] := va_S.rf
  obtain ⟨ls, hls, hl⟩ := mw_entry (m := m) [.ref (L 0), .int (iI s0), .int (iI x)] (n := 3) (Nat.le_of_ble_eq_true rfl) hargs
  refine W.eq hls ?_
  have hl : lv_has ls 3 [(0, .ref (L 0)), (1, .int (iI s0)), (2, .int (iI x))] := hl
  refine lv_iload_n hx hb d_Doc_hasNode_0 rfl (lv_at hl 1 rfl) ?_
  refine mw_rdS (As := [.int (iI s0)]) (rest := []) ⟨hx, hb, hml, hown, hts⟩ hK hM hS (c_Doc_isSlot l D g lo L κ s0 (by omega)) (cwS 1 hts (gS m_223 m_224 m_51 m_225) rfl rfl rfl (by decide +kernel) ⟨Nat.le_of_ble_eq_true rfl, Nat.le_of_ble_eq_true rfl⟩) rfl hl.1 rfl (Nat.le_of_ble_eq_true rfl) d_Doc_hasNode_1 ⟨Nat.le_of_ble_eq_true rfl, Nat.le_of_ble_eq_true rfl⟩ (fun H locs hM hS => ?_)
  refine ia_ifz_ne (x := dSlot s0) (tgt := 9) hx hb d_Doc_hasNode_4 (by decide) (fun c1 => ?_) (fun c1 => ?_)
  · have hs1 := dSlot_iff.mp (by assumption)
    refine lv_aload_n hx hb d_Doc_hasNode_9 rfl (lv_at hl 0 rfl) ?_
    refine mw_get (ci := 3) (i := 0) (v := .int (iI scn)) (C := R_Doc) (T := T_Doc) (N := 7) hx hb hts in_Doc hown hK hM hO rfl rfl 5 (by decide) (hts _ m_190) rfl d_Doc_hasNode_10 ?_
    refine lv_iload_n hx hb d_Doc_hasNode_13 rfl (lv_at hl 1 rfl) ?_
    refine ia_icmp_eq (a := scn) (b := s0) (tgt := 35) hx hb d_Doc_hasNode_14 (by decide) (by omega) (by omega) (fun c2 => ?_) (fun c2 => ?_)
    · refine lv_iload_n hx hb d_Doc_hasNode_35 rfl (lv_at hl 2 rfl) ?_
      refine ia_if_lt (a := x) (tgt := 54) hx hb d_Doc_hasNode_36 (by decide) (by omega) (fun c3 => ?_) (fun c3 => ?_)
      · refine lv_iconst (v := iI (0)) hx hb d_Doc_hasNode_54 rfl ?_
        exact mw_zret (v := false) hx hb hr hM hS hlocks d_Doc_hasNode_55 (by rw [(show dTab scn s0 T cnt d zS bS = (scn, T, cnt, d) by unfold dTab; rw [if_neg (by omega)])]; exact ⟨congrArg (fun z => some (Value.int (iI (bI z)))) (show false = dHas s0 x cnt from (decide_eq_false (by omega)).symm), rfl, ⟨hO, ⟨fA, hA1, hA2⟩, ⟨_, hT⟩, ⟨_, hF⟩, hN, ⟨_, _, _, _, hR⟩, ⟨nS, hSl⟩, hd⟩, fun r h => rfl⟩)
      · refine lv_iload_n hx hb d_Doc_hasNode_39 rfl (lv_at hl 2 rfl) ?_
        refine lv_aload_n hx hb d_Doc_hasNode_40 rfl (lv_at hl 0 rfl) ?_
        refine mw_get (ci := 3) (i := 0) (v := .ref (L 6)) (C := R_Doc) (T := T_Doc) (N := 7) hx hb hts in_Doc hown hK hM hO rfl rfl 3 (by decide) (hts _ m_188) rfl d_Doc_hasNode_41 ?_
        refine mw_rdV (i := 6) (As := []) (rest := [.int (iI x)]) ⟨hx, hb, hml, hown, hts⟩ hK hM hS rfl hN.1 rfl (c_Nodes_count l D g lo L κ T cnt d hN ) (cwV 0 hts (gV m_396 m_397 m_398 m_56 m_399) rfl rfl rfl (by decide +kernel) ⟨Nat.le_of_ble_eq_true rfl, Nat.le_of_ble_eq_true rfl⟩) rfl hl.1 rfl (Nat.le_of_ble_eq_true rfl) d_Doc_hasNode_44 ⟨Nat.le_of_ble_eq_true rfl, Nat.le_of_ble_eq_true rfl⟩ (fun H locs hM hS => ?_)
        refine ia_icmp_ge (a := x) (b := cnt) (tgt := 54) hx hb d_Doc_hasNode_47 (by decide) (by omega) (by omega) (fun c4 => ?_) (fun c4 => ?_)
        · refine lv_iconst (v := iI (0)) hx hb d_Doc_hasNode_54 rfl ?_
          exact mw_zret (v := false) hx hb hr hM hS hlocks d_Doc_hasNode_55 (by rw [(show dTab scn s0 T cnt d zS bS = (scn, T, cnt, d) by unfold dTab; rw [if_neg (by omega)])]; exact ⟨congrArg (fun z => some (Value.int (iI (bI z)))) (show false = dHas s0 x cnt from (decide_eq_false (by omega)).symm), rfl, ⟨hO, ⟨fA, hA1, hA2⟩, ⟨_, hT⟩, ⟨_, hF⟩, hN, ⟨_, _, _, _, hR⟩, ⟨nS, hSl⟩, hd⟩, fun r h => rfl⟩)
        · refine lv_iconst (v := iI (1)) hx hb d_Doc_hasNode_50 rfl ?_
          refine lv_goto (tgt := 55) hx hb d_Doc_hasNode_51 (by decide) ?_
          exact mw_zret (v := true) hx hb hr hM hS hlocks d_Doc_hasNode_55 (by rw [(show dTab scn s0 T cnt d zS bS = (scn, T, cnt, d) by unfold dTab; rw [if_neg (by omega)])]; exact ⟨congrArg (fun z => some (Value.int (iI (bI z)))) (show true = dHas s0 x cnt from (decide_eq_true (by omega)).symm), rfl, ⟨hO, ⟨fA, hA1, hA2⟩, ⟨_, hT⟩, ⟨_, hF⟩, hN, ⟨_, _, _, _, hR⟩, ⟨nS, hSl⟩, hd⟩, fun r h => rfl⟩)
    · have hgood := hOK hs1 (by omega)
      refine lv_aload_n hx hb d_Doc_hasNode_17 rfl (lv_at hl 0 rfl) ?_
      refine mw_get (ci := 3) (i := 0) (v := .ref (L 6)) (C := R_Doc) (T := T_Doc) (N := 7) hx hb hts in_Doc hown hK hM hO rfl rfl 3 (by decide) (hts _ m_188) rfl d_Doc_hasNode_18 ?_
      refine lv_aload_n hx hb d_Doc_hasNode_21 rfl (lv_at hl 0 rfl) ?_
      refine mw_get (ci := 3) (i := 0) (v := .ref (L 1)) (C := R_Doc) (T := T_Doc) (N := 7) hx hb hts in_Doc hown hK hM hO rfl rfl 1 (by decide) (hts _ m_186) rfl d_Doc_hasNode_22 ?_
      refine lv_iload_n hx hb d_Doc_hasNode_25 rfl (lv_at hl 1 rfl) ?_
      refine mw_aldq (a := s0) (i := 1) hx hb hK hM 2 hA1 rfl rfl (by omega) (by omega) (hA2 (s0 : Int).toNat (by omega)) d_Doc_hasNode_26 ?_
      have hB5 := hSl (s0 : Int).toNat (by omega)
      have r6 := hB5.2.2.1
      refine mw_callV (i := 6) (As := [.ref (L (16 + 2 * (s0 : Int).toNat))]) (rest := []) ⟨hx, hb, hml, hown, hts⟩ hK hM hS rfl hN.1 rfl (c_Nodes_scan l D g lo L κ T cnt d hN (16 + 2 * (s0 : Int).toNat) (17 + 2 * (s0 : Int).toNat) 2000 (nS (s0 : Int).toNat) (zS (s0 : Int).toNat) (bS (s0 : Int).toNat) hB5 (by omega) hgood) (cwV 1 hts (gV m_382 m_383 m_384 m_56 m_385) rfl rfl rfl (by decide +kernel) ⟨Nat.le_of_ble_eq_true rfl, Nat.le_of_ble_eq_true rfl⟩) rfl hl.1 rfl (Nat.le_of_ble_eq_true rfl) d_Doc_hasNode_27 ⟨Nat.le_of_ble_eq_true rfl, Nat.le_of_ble_eq_true rfl⟩ (fun v7 L7 κ7 H locs hp7 hM hS => ?_)
      obtain ⟨rfl, rfl, hN7, hk7⟩ := hp7
      have hB8 := bxs_keep hT (hk7 2 (by omega)) (hk7 3 (by omega)) rfl
      have hB9 := bxs_keep hF (hk7 4 (by omega)) (hk7 5 (by omega)) rfl
      have hB10 := bxs_keep hB5 (hk7 (16 + 2 * (s0 : Int).toNat) (by omega)) (hk7 (17 + 2 * (s0 : Int).toNat) (by omega)) rfl
      have hO11 := dob_keep hO (hk7 0 (by omega)) rfl rfl rfl rfl rfl
      have hR12 := rds_keep hR (hk7 14 (by omega)) rfl rfl
      have hF13 : ∀ k, k < 8 → bxs g L κ7 (16 + 2 * k) (17 + 2 * k) 2000 (nS k) (zS k) (bS k) := fun k h1 => bxs_keep (hSl k h1) (hk7 ((16 + 2 * k)) (by omega)) (hk7 ((17 + 2 * k)) (by omega)) rfl
      have e14 := (hk7 1 (by omega)).trans hA1
      have r15 := hN7.2.2.1
      refine lv_aload_n hx hb d_Doc_hasNode_30 rfl (lv_at hl 0 rfl) ?_
      refine lv_iload_n hx hb d_Doc_hasNode_31 rfl (lv_at hl 1 rfl) ?_
      refine mw_put (ci := 3) (i := 0) (v := .int (iI s0)) (C := R_Doc) (T := T_Doc) (N := 7) hx hb hts in_Doc ty_Doc ty_Doc_ok nm_Doc hown hK hM hS hO11 rfl rfl 5 (by decide) (hts _ m_190) rfl (ty_Doc_ok 5 (by decide)) rfl rfl (Nat.le_of_ble_eq_true rfl) d_Doc_hasNode_32 (fun κ16 H locs e16 hk16 hM hS => ?_)
      have e16 : κ16 0 = some (.inr (3, [.ref (L 2), .ref (L 1), .ref (L 4), .ref (L 6), .ref (L 14), .int (iI s0), .int (iI fpl)])) := e16
      have hB17 := bxs_keep hB8 (hk16 2 (by omega)) (hk16 3 (by omega)) rfl
      have hB18 := bxs_keep hB9 (hk16 4 (by omega)) (hk16 5 (by omega)) rfl
      have hN19 := nds_keep hN7 (fun r h1 h2 => hk16 r (by omega)) (fun r h1 h2 => rfl) rfl
      have hB20 := bxs_keep hB10 (hk16 (16 + 2 * (s0 : Int).toNat) (by omega)) (hk16 (17 + 2 * (s0 : Int).toNat) (by omega)) rfl
      have hR21 := rds_keep hR12 (hk16 14 (by omega)) rfl rfl
      have hF22 : ∀ k, k < 8 → bxs g L κ16 (16 + 2 * k) (17 + 2 * k) 2000 (nS k) (zS k) (bS k) := fun k h1 => bxs_keep (hF13 k h1) (hk16 ((16 + 2 * k)) (by omega)) (hk16 ((17 + 2 * k)) (by omega)) rfl
      have e23 := (hk16 1 (by omega)).trans e14
      refine lv_iload_n hx hb d_Doc_hasNode_35 rfl (lv_at hl 2 rfl) ?_
      refine ia_if_lt (a := x) (tgt := 54) hx hb d_Doc_hasNode_36 (by decide) (by omega) (fun c24 => ?_) (fun c24 => ?_)
      · refine lv_iconst (v := iI (0)) hx hb d_Doc_hasNode_54 rfl ?_
        exact mw_zret (v := false) hx hb hr hM hS hlocks d_Doc_hasNode_55 (by rw [(show dTab scn s0 T cnt d zS bS = (s0, (scAll (bS s0.toNat) (zS s0.toNat) T).2.2.1, (scAll (bS s0.toNat) (zS s0.toNat) T).2.2.2, 16 + 2 * s0.toNat) by unfold dTab; rw [if_pos (by omega)])]; exact ⟨congrArg (fun z => some (Value.int (iI (bI z)))) (show false = dHas s0 x ((scAll (bS (s0 : Int).toNat) (zS (s0 : Int).toNat) T).2.2.2) from (decide_eq_false (by omega)).symm), rfl, ⟨e16, ⟨fA, e23, hA2⟩, ⟨_, hB17⟩, ⟨_, hB18⟩, hN19, ⟨_, _, _, _, hR21⟩, ⟨nS, hF22⟩, ⟨fun _ => rfl, Or.inr ⟨s0.toNat, by omega, rfl⟩⟩⟩, fun r h => by rw [hk16 r (by omega), hk7 r (by omega)]⟩)
      · refine lv_iload_n hx hb d_Doc_hasNode_39 rfl (lv_at hl 2 rfl) ?_
        refine lv_aload_n hx hb d_Doc_hasNode_40 rfl (lv_at hl 0 rfl) ?_
        refine mw_get (ci := 3) (i := 0) (v := .ref (L 6)) (C := R_Doc) (T := T_Doc) (N := 7) hx hb hts in_Doc hown hK hM e16 rfl rfl 3 (by decide) (hts _ m_188) rfl d_Doc_hasNode_41 ?_
        refine mw_rdV (i := 6) (As := []) (rest := [.int (iI x)]) ⟨hx, hb, hml, hown, hts⟩ hK hM hS rfl hN19.1 rfl (c_Nodes_count l D g lo L κ16 ((scAll (bS (s0 : Int).toNat) (zS (s0 : Int).toNat) T).2.2.1) ((scAll (bS (s0 : Int).toNat) (zS (s0 : Int).toNat) T).2.2.2) (16 + 2 * (s0 : Int).toNat) hN19 ) (cwV 0 hts (gV m_396 m_397 m_398 m_56 m_399) rfl rfl rfl (by decide +kernel) ⟨Nat.le_of_ble_eq_true rfl, Nat.le_of_ble_eq_true rfl⟩) rfl hl.1 rfl (Nat.le_of_ble_eq_true rfl) d_Doc_hasNode_44 ⟨Nat.le_of_ble_eq_true rfl, Nat.le_of_ble_eq_true rfl⟩ (fun H locs hM hS => ?_)
        refine ia_icmp_ge (a := x) (b := (scAll (bS (s0 : Int).toNat) (zS (s0 : Int).toNat) T).2.2.2) (tgt := 54) hx hb d_Doc_hasNode_47 (by decide) (by omega) (by omega) (fun c25 => ?_) (fun c25 => ?_)
        · refine lv_iconst (v := iI (0)) hx hb d_Doc_hasNode_54 rfl ?_
          exact mw_zret (v := false) hx hb hr hM hS hlocks d_Doc_hasNode_55 (by rw [(show dTab scn s0 T cnt d zS bS = (s0, (scAll (bS s0.toNat) (zS s0.toNat) T).2.2.1, (scAll (bS s0.toNat) (zS s0.toNat) T).2.2.2, 16 + 2 * s0.toNat) by unfold dTab; rw [if_pos (by omega)])]; exact ⟨congrArg (fun z => some (Value.int (iI (bI z)))) (show false = dHas s0 x ((scAll (bS (s0 : Int).toNat) (zS (s0 : Int).toNat) T).2.2.2) from (decide_eq_false (by omega)).symm), rfl, ⟨e16, ⟨fA, e23, hA2⟩, ⟨_, hB17⟩, ⟨_, hB18⟩, hN19, ⟨_, _, _, _, hR21⟩, ⟨nS, hF22⟩, ⟨fun _ => rfl, Or.inr ⟨s0.toNat, by omega, rfl⟩⟩⟩, fun r h => by rw [hk16 r (by omega), hk7 r (by omega)]⟩)
        · refine lv_iconst (v := iI (1)) hx hb d_Doc_hasNode_50 rfl ?_
          refine lv_goto (tgt := 55) hx hb d_Doc_hasNode_51 (by decide) ?_
          exact mw_zret (v := true) hx hb hr hM hS hlocks d_Doc_hasNode_55 (by rw [(show dTab scn s0 T cnt d zS bS = (s0, (scAll (bS s0.toNat) (zS s0.toNat) T).2.2.1, (scAll (bS s0.toNat) (zS s0.toNat) T).2.2.2, 16 + 2 * s0.toNat) by unfold dTab; rw [if_pos (by omega)])]; exact ⟨congrArg (fun z => some (Value.int (iI (bI z)))) (show true = dHas s0 x ((scAll (bS (s0 : Int).toNat) (zS (s0 : Int).toNat) T).2.2.2) from (decide_eq_true (by omega)).symm), rfl, ⟨e16, ⟨fA, e23, hA2⟩, ⟨_, hB17⟩, ⟨_, hB18⟩, hN19, ⟨_, _, _, _, hR21⟩, ⟨nS, hF22⟩, ⟨fun _ => rfl, Or.inr ⟨s0.toNat, by omega, rfl⟩⟩⟩, fun r h => by rw [hk16 r (by omega), hk7 r (by omega)]⟩)
  · have hs1 := dSlot_ff.mp (by assumption)
    refine lv_iconst (v := iI (0)) hx hb d_Doc_hasNode_7 rfl ?_
    exact mw_zret (v := false) hx hb hr hM hS hlocks d_Doc_hasNode_8 (by rw [(show dTab scn s0 T cnt d zS bS = (scn, T, cnt, d) by unfold dTab; rw [if_neg (by omega)])]; exact ⟨congrArg (fun z => some (Value.int (iI (bI z)))) (show false = dHas s0 x cnt from (decide_eq_false (by omega)).symm), rfl, ⟨hO, ⟨fA, hA1, hA2⟩, ⟨_, hT⟩, ⟨_, hF⟩, hN, ⟨_, _, _, _, hR⟩, ⟨nS, hSl⟩, hd⟩, fun r h => rfl⟩)
set_option maxHeartbeats 4000000 in
set_option maxRecDepth 100000 in
theorem c_Doc_mayHold (l : Launch) (D : va_G) (g : Nat → ClassId) (lo : Nat) (L : Nat → Nat) (κ : Nat → Option va_E) (scn fpl : Int) (zT : Nat) (bT : Nat → Int) (zF : Nat) (bF : Nat → Int) (T : Nat → Nat → Int) (cnt d : Nat) (zS : Nat → Nat) (bS : Nat → Nat → Int) (hW : dbs g L κ scn fpl zT bT zF bF T cnt d zS bS) (hsc : -1 ≤ scn ∧ scn < 8) (s0 x : Int) (hs0 : -2147483648 ≤ s0 ∧ s0 < 2147483648) (hx : -2147483648 ≤ x ∧ x < 2147483648) (hOK : dOK scn s0 T zS bS) : Met l y_Doc_mayHold w_Doc_mayHold ({ frames := 5, cells := 0, slots := 0, locals := 119 }) (mwP D vwCl (tyL g) lo L κ [.ref (L 0), .int (iI s0), .int (iI x)]) (mwQ D vwCl lo (fun v L1 κ1 => v = some (.int (iI (bI (dMay s0 x (dTab scn s0 T cnt d zS bS).2.1 (dTab scn s0 T cnt d zS bS).2.2.1)))) ∧ L = L1 ∧ dbs g L κ1 ((dTab scn s0 T cnt d zS bS).1) fpl zT bT zF bF ((dTab scn s0 T cnt d zS bS).2.1) ((dTab scn s0 T cnt d zS bS).2.2.1) ((dTab scn s0 T cnt d zS bS).2.2.2) zS bS ∧ ∀ r, 40 ≤ r → κ1 r = κ r)) 0 0 (fun q => lo ≤ q) := by
  obtain ⟨hO, ⟨fA, hA1, hA2⟩, ⟨nT, hT⟩, ⟨nF, hF⟩, hN, ⟨ra, ri, rf, rp, hR⟩, ⟨nS, hSl⟩, hd⟩ := hW
  have hct := hT.2.2.1
  have hcf := hF.2.2.1
  have hcn := hN.2.2.1
  refine Met.ofW (cc := b_Doc_mayHold) (maxL := 3) (ret := (Option.some Jvm.ClassFile.FieldType.boolean)) (by decide) rfl ?_
  intro p e s m args below meth c s₁ B hml hpre
  obtain ⟨hargs, hM, hK⟩ := hpre
  have hx := B.exec
  have hb := B.bytes
  have hr := B.returns
  have hts : ∀ w ∈ wA, w.before args s = true := fun w h => atoms_spec (ws := w_Doc_mayHold) B.pre w (List.mem_cons_of_mem _ h)
  have hown : s.vm.findClass R_Doc = some m.cls := findClass_of_methodNamed B.named
  have hlocks := B.notSynchronized
  have hS : va_S (fun q => lo ≤ q) s.heap s.heap [] := va_S.rf
  obtain ⟨ls, hls, hl⟩ := mw_entry (m := m) [.ref (L 0), .int (iI s0), .int (iI x)] (n := 3) (Nat.le_of_ble_eq_true rfl) hargs
  refine W.eq hls ?_
  have hl : lv_has ls 3 [(0, .ref (L 0)), (1, .int (iI s0)), (2, .int (iI x))] := hl
  refine lv_aload_n hx hb d_Doc_mayHold_0 rfl (lv_at hl 0 rfl) ?_
  refine lv_iload_n hx hb d_Doc_mayHold_1 rfl (lv_at hl 1 rfl) ?_
  refine lv_iload_n hx hb d_Doc_mayHold_2 rfl (lv_at hl 2 rfl) ?_
  refine mw_callV (i := 0) (As := [.int (iI s0), .int (iI x)]) (rest := []) ⟨hx, hb, hml, hown, hts⟩ hK hM hS rfl hO rfl (c_Doc_hasNode l D g lo L κ scn fpl zT bT zF bF T cnt d zS bS ⟨hO, ⟨fA, hA1, hA2⟩, ⟨_, hT⟩, ⟨_, hF⟩, hN, ⟨_, _, _, _, hR⟩, ⟨nS, hSl⟩, hd⟩ (by omega) s0 x (by omega) (by omega) hOK) (cwV 2 hts (gV m_378 m_380 m_8 m_51 m_381) rfl rfl rfl (by decide +kernel) ⟨Nat.le_of_ble_eq_true rfl, Nat.le_of_ble_eq_true rfl⟩) rfl hl.1 rfl (Nat.le_of_ble_eq_true rfl) d_Doc_mayHold_3 ⟨Nat.le_of_ble_eq_true rfl, Nat.le_of_ble_eq_true rfl⟩ (fun v1 L1 κ1 H locs hp1 hM hS => ?_)
  obtain ⟨sc1, T1, cn1, d1, hTb1⟩ : ∃ (za : Int) (zb : Nat → Nat → Int) (zc : Nat) (zd : Nat), dTab scn s0 T cnt d zS bS = (za, zb, zc, zd) := ⟨_, _, _, _, rfl⟩
  have hsc1 := dTab_r hTb1 (by omega)
  rw [hTb1] at hp1
  obtain ⟨rfl, rfl, hW1, hk1⟩ := hp1
  have hW1 : dbs g L κ1 sc1 fpl zT bT zF bF T1 cn1 d1 zS bS := hW1
  obtain ⟨hO_1, ⟨fA, hA1_1, hA2_1⟩, ⟨nT_1, hT_1⟩, ⟨nF_1, hF_1⟩, hN_1, ⟨ra_1, ri_1, rf_1, rp_1, hR_1⟩, ⟨nS_1, hSl_1⟩, hd_1⟩ := hW1
  have hct_1 := hT_1.2.2.1
  have hcf_1 := hF_1.2.2.1
  have hcn_1 := hN_1.2.2.1
  refine ia_ifz_eq (x := dHas s0 x cn1) (tgt := 27) hx hb d_Doc_mayHold_6 (by decide) (fun c2 => ?_) (fun c2 => ?_)
  · refine lv_iconst (v := iI (0)) hx hb d_Doc_mayHold_27 rfl ?_
    exact mw_zret (v := false) hx hb hr hM hS hlocks d_Doc_mayHold_28 (by rw [hTb1]; exact ⟨congrArg (fun z => some (Value.int (iI (bI z)))) (show false = dMay s0 x T1 cn1 by unfold dMay; first | (rw [show dHas s0 x cn1 = false by assumption]; rfl) | (rw [show dHas s0 x cn1 = true by assumption, show kHold (nCell T1 cn1 0 x) = false by assumption]; rfl)), rfl, ⟨hO_1, ⟨fA, hA1_1, hA2_1⟩, ⟨_, hT_1⟩, ⟨_, hF_1⟩, hN_1, ⟨_, _, _, _, hR_1⟩, ⟨nS_1, hSl_1⟩, hd_1⟩, fun r h => by rw [hk1 r (by omega)]⟩)
  · have hh1 := dHas_iff.mp (by assumption)
    refine lv_aload_n hx hb d_Doc_mayHold_9 rfl (lv_at hl 0 rfl) ?_
    refine mw_get (ci := 3) (i := 0) (v := .ref (L 6)) (C := R_Doc) (T := T_Doc) (N := 7) hx hb hts in_Doc hown hK hM hO_1 rfl rfl 3 (by decide) (hts _ m_188) rfl d_Doc_mayHold_10 ?_
    refine lv_iload_n hx hb d_Doc_mayHold_13 rfl (lv_at hl 2 rfl) ?_
    refine mw_rdV (i := 6) (As := [.int (iI x)]) (rest := []) ⟨hx, hb, hml, hown, hts⟩ hK hM hS rfl hN_1.1 rfl (c_Nodes_kind l D g lo L κ1 T1 cn1 d1 hN_1 x (by omega)) (cwV 1 hts (gV m_421 m_313 m_314 m_56 m_315) rfl rfl rfl (by decide +kernel) ⟨Nat.le_of_ble_eq_true rfl, Nat.le_of_ble_eq_true rfl⟩) rfl hl.1 rfl (Nat.le_of_ble_eq_true rfl) d_Doc_mayHold_14 ⟨Nat.le_of_ble_eq_true rfl, Nat.le_of_ble_eq_true rfl⟩ (fun H locs hM hS => ?_)
    have r3 := nCell_r (cnt := cn1) hN_1.2.2.2.1 0 x
    refine mw_rdS (As := [.int (iI (nCell T1 cn1 0 x))]) (rest := []) ⟨hx, hb, hml, hown, hts⟩ hK hM hS (c_Kinds_hold l D g lo L κ1 (nCell T1 cn1 0 x) (by omega)) (va_cwS 1 hts (gT m_466 m_268 m_59 m_269) rfl rfl rfl (by decide +kernel) ⟨Nat.le_of_ble_eq_true rfl, Nat.le_of_ble_eq_true rfl⟩) rfl hl.1 rfl (Nat.le_of_ble_eq_true rfl) d_Doc_mayHold_17 ⟨Nat.le_of_ble_eq_true rfl, Nat.le_of_ble_eq_true rfl⟩ (fun H locs hM hS => ?_)
    refine ia_ifz_eq (x := kHold (nCell T1 cn1 0 x)) (tgt := 27) hx hb d_Doc_mayHold_20 (by decide) (fun c4 => ?_) (fun c4 => ?_)
    · refine lv_iconst (v := iI (0)) hx hb d_Doc_mayHold_27 rfl ?_
      exact mw_zret (v := false) hx hb hr hM hS hlocks d_Doc_mayHold_28 (by rw [hTb1]; exact ⟨congrArg (fun z => some (Value.int (iI (bI z)))) (show false = dMay s0 x T1 cn1 by unfold dMay; first | (rw [show dHas s0 x cn1 = false by assumption]; rfl) | (rw [show dHas s0 x cn1 = true by assumption, show kHold (nCell T1 cn1 0 x) = false by assumption]; rfl)), rfl, ⟨hO_1, ⟨fA, hA1_1, hA2_1⟩, ⟨_, hT_1⟩, ⟨_, hF_1⟩, hN_1, ⟨_, _, _, _, hR_1⟩, ⟨nS_1, hSl_1⟩, hd_1⟩, fun r h => by rw [hk1 r (by omega)]⟩)
    · refine lv_iconst (v := iI (1)) hx hb d_Doc_mayHold_23 rfl ?_
      refine lv_goto (tgt := 28) hx hb d_Doc_mayHold_24 (by decide) ?_
      exact mw_zret (v := true) hx hb hr hM hS hlocks d_Doc_mayHold_28 (by rw [hTb1]; exact ⟨congrArg (fun z => some (Value.int (iI (bI z)))) (show true = dMay s0 x T1 cn1 by unfold dMay; first | (rw [show dHas s0 x cn1 = false by assumption]; rfl) | (rw [show dHas s0 x cn1 = true by assumption, show kHold (nCell T1 cn1 0 x) = true by assumption]; rfl)), rfl, ⟨hO_1, ⟨fA, hA1_1, hA2_1⟩, ⟨_, hT_1⟩, ⟨_, hF_1⟩, hN_1, ⟨_, _, _, _, hR_1⟩, ⟨nS_1, hSl_1⟩, hd_1⟩, fun r h => by rw [hk1 r (by omega)]⟩)
