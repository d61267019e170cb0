set_option maxHeartbeats 4000000 in
set_option maxRecDepth 100000 in
theorem c_Reader_readElement (l : Launch) (D : va_G) (g : Nat → ClassId) (lo : Nat) (L : Nat → Nat) (κ : Nat → Option va_E) (T : Nat → Nat → Int) (cnt : Nat) (hN : nds g L κ T cnt 2) (mo n sz : Nat) (b : Nat → Int) (hB : bxs g L κ 2 3 mo n sz b) (ra ri rf rp : Int) (hR : rds L κ ra ri rf rp) (hra : 0 ≤ ra ∧ ra ≤ 100000) (hri : -1 ≤ ri ∧ ri ≤ 1000) (last : Int) (hf0 : rf = 0) (hcn : cnt < 700) (hri0 : 0 ≤ ri ∧ ri < cnt) (hla : ra < last ∧ last ≤ 90000) : Met l y_Reader_readElement w_Reader_readElement ({ frames := 4, cells := 0, slots := 0, locals := 99 }) (mwP D vwCl (tyL g) lo L κ [.ref (L 14), .int (iI last)]) (mwQ D vwCl lo (rdQ g L κ (rElem b sz last ra ri rf rp T cnt))) 0 0 (fun q => lo ≤ q) := by
  have hc0 := hN.2.2.1
  obtain ⟨hz1, hz2, hz3⟩ := hB.2.2.1
  refine Met.ofW (cc := b_Reader_readElement) (maxL := 5) (ret := (Option.none : Option Jvm.ClassFile.FieldType)) (by decide) rfl ?_
  intro p e s m args below meth c s₁ B hml hpre
  obtain ⟨hargs, hM, hK⟩ := hpre
  have hx := B.exec
  have hb := B.bytes
  have hr := B.returns
  have hts : ∀ w ∈ wA, w.before args s = true := fun w h => atoms_spec (ws := w_Reader_readElement) B.pre w (List.mem_cons_of_mem _ h)
  have hown : s.vm.findClass R_Reader = some m.cls := findClass_of_methodNamed B.named
  have hlocks := B.notSynchronized
  have hS : va_S (fun q => lo ≤ q) s.heap s.heap [] := va_S.rf
  obtain ⟨ls, hls, hl⟩ := mw_entry (m := m) [.ref (L 14), .int (iI last)] (n := 5) (Nat.le_of_ble_eq_true rfl) hargs
  refine W.eq hls ?_
  have hl : lv_has ls 5 [(0, .ref (L 14)), (1, .int (iI last))] := hl
  refine lv_aload_n hx hb d_Reader_readElement_0 rfl (lv_at hl 0 rfl) ?_
  refine mw_get (ci := 2) (i := 14) (v := .ref (L 2)) (C := R_Reader) (T := T_Reader) (N := 6) hx hb hts in_Reader hown hK hM hR rfl rfl 1 (by decide) (hts _ m_167) rfl d_Reader_readElement_1 ?_
  refine lv_aload_n hx hb d_Reader_readElement_4 rfl (lv_at hl 0 rfl) ?_
  refine mw_get (ci := 2) (i := 14) (v := .int (iI ra)) (C := R_Reader) (T := T_Reader) (N := 6) hx hb hts in_Reader hown hK hM hR rfl rfl 2 (by decide) (hts _ m_168) rfl d_Reader_readElement_5 ?_
  refine mw_rdV (i := 2) (As := [.int (iI ra)]) (rest := []) ⟨hx, hb, hml, hown, hts⟩ hK hM hS rfl hB.1 rfl (c_Bytes_get l D g lo L κ 2 3 mo n sz b hB ra (by omega)) (cwV 1 hts (gV m_278 m_251 m_252 m_52 m_253) rfl rfl rfl (by decide +kernel) ⟨Nat.le_of_ble_eq_true rfl, Nat.le_of_ble_eq_true rfl⟩) rfl hl.1 rfl (Nat.le_of_ble_eq_true rfl) d_Reader_readElement_8 ⟨Nat.le_of_ble_eq_true rfl, Nat.le_of_ble_eq_true rfl⟩ (fun H locs hM hS => ?_)
  have r1 := bGet_r (sz := sz) hB.2.2.2.1 ra
  refine lv_istore_n (lv' := [(2, .int (iI (bGet b sz ra))), (0, .ref (L 14)), (1, .int (iI last))]) hx hb d_Reader_readElement_11 rfl hl (by decide) rfl (fun ls hl => ?_)
  refine lv_iload_n hx hb d_Reader_readElement_12 rfl (lv_at hl 0 rfl) ?_
  refine mw_rdS (As := [.int (iI (bGet b sz ra))]) (rest := []) ⟨hx, hb, hml, hown, hts⟩ hK hM hS (c_Kinds_isKind l D g lo L κ (bGet b sz ra) (by omega)) (va_cwS 1 hts (gT m_287 m_288 m_59 m_289) rfl rfl rfl (by decide +kernel) ⟨Nat.le_of_ble_eq_true rfl, Nat.le_of_ble_eq_true rfl⟩) rfl hl.1 rfl (Nat.le_of_ble_eq_true rfl) d_Reader_readElement_13 ⟨Nat.le_of_ble_eq_true rfl, Nat.le_of_ble_eq_true rfl⟩ (fun H locs hM hS => ?_)
  refine ia_ifz_ne (x := kIs (bGet b sz ra)) (tgt := 37) hx hb d_Reader_readElement_16 (by decide) (fun c2 => ?_) (fun c2 => ?_)
  · refine lv_aload_n hx hb d_Reader_readElement_37 rfl (lv_at hl 1 rfl) ?_
    refine lv_dup hx hb d_Reader_readElement_38 rfl ?_
    refine mw_get (ci := 2) (i := 14) (v := .int (iI ra)) (C := R_Reader) (T := T_Reader) (N := 6) hx hb hts in_Reader hown hK hM hR rfl rfl 2 (by decide) (hts _ m_168) rfl d_Reader_readElement_39 ?_
    refine lv_iconst (v := iI (1)) hx hb d_Reader_readElement_42 rfl ?_
    refine ia_add hx hb d_Reader_readElement_43 ?_
    refine mw_put (ci := 2) (i := 14) (v := .int (iI (ra + 1))) (C := R_Reader) (T := T_Reader) (N := 6) hx hb hts in_Reader ty_Reader ty_Reader_ok nm_Reader hown hK hM hS hR rfl rfl 2 (by decide) (hts _ m_168) rfl (ty_Reader_ok 2 (by decide)) rfl rfl (Nat.le_of_ble_eq_true rfl) d_Reader_readElement_44 (fun κ3 H locs e3 hk3 hM hS => ?_)
    have e3 : κ3 14 = some (.inr (2, [.ref (L 6), .ref (L 2), .int (iI (ra + 1)), .int (iI ri), .int (iI rf), .int (iI rp)])) := e3
    have hN4 := nds_keep hN (fun r h1 h2 => hk3 r (by omega)) (fun r h1 h2 => rfl) rfl
    have hB5 := bxs_keep hB (hk3 2 (by omega)) (hk3 3 (by omega)) rfl
    refine lv_aload_n hx hb d_Reader_readElement_47 rfl (lv_at hl 1 rfl) ?_
    refine mw_get (ci := 2) (i := 14) (v := .int (iI (ra + 1))) (C := R_Reader) (T := T_Reader) (N := 6) hx hb hts in_Reader hown hK hM e3 rfl rfl 2 (by decide) (hts _ m_168) rfl d_Reader_readElement_48 ?_
    refine lv_istore_n (lv' := [(3, .int (iI (ra + 1))), (2, .int (iI (bGet b sz ra))), (0, .ref (L 14)), (1, .int (iI last))]) hx hb d_Reader_readElement_51 rfl hl (by decide) rfl (fun ls hl => ?_)
    refine lv_aload_n hx hb d_Reader_readElement_52 rfl (lv_at hl 2 rfl) ?_
    refine lv_iload_n hx hb d_Reader_readElement_53 rfl (lv_at hl 3 rfl) ?_
    refine mw_callV (i := 14) (As := [.int (iI last)]) (rest := []) ⟨hx, hb, hml, hown, hts⟩ hK hM hS rfl e3 rfl (c_Reader_readName l D g lo L κ3 T cnt hN4 mo n sz b hB5 (ra + 1) ri rf rp e3 (by omega) (by omega) last (by omega) (by omega)) (cwV 1 hts (gV m_294 m_296 m_5 m_57 m_297) rfl rfl rfl (by decide +kernel) ⟨Nat.le_of_ble_eq_true rfl, Nat.le_of_ble_eq_true rfl⟩) rfl hl.1 rfl (Nat.le_of_ble_eq_true rfl) d_Reader_readElement_54 ⟨Nat.le_of_ble_eq_true rfl, Nat.le_of_ble_eq_true rfl⟩ (fun v6 L6 κ6 H locs hp6 hM hS => ?_)
    obtain ⟨a6, f6, p6, hE6, hF6⟩ := rName_c b sz last (ra + 1) ri rf rp T cnt
    rw [hE6] at hp6
    obtain ⟨rfl, rfl, hR6, hN6, hk6⟩ := hp6
    have hR6 : rds L κ6 a6 ri f6 p6 := hR6
    have hN6 : nds g L κ6 T cnt 2 := hN6
    have hB7 := bxs_keep hB5 (hk6 2 (by omega)) (hk6 3 (by omega)) rfl
    refine lv_aload_n hx hb d_Reader_readElement_57 rfl (lv_at hl 2 rfl) ?_
    refine mw_get (ci := 2) (i := 14) (v := .int (iI f6)) (C := R_Reader) (T := T_Reader) (N := 6) hx hb hts in_Reader hown hK hM hR6 rfl rfl 4 (by decide) (hts _ m_170) rfl d_Reader_readElement_58 ?_
    refine ia_if_eq (a := f6) (tgt := 65) hx hb d_Reader_readElement_61 (by decide) (by omega) (fun c8 => ?_) (fun c8 => ?_)
    · refine lv_iload_n hx hb d_Reader_readElement_65 rfl (lv_at hl 1 rfl) ?_
      refine mw_rdS (As := [.int (iI (bGet b sz ra))]) (rest := []) ⟨hx, hb, hml, hown, hts⟩ hK hM hS (c_Kinds_hold l D g lo L κ6 (bGet b sz ra) (by omega)) (va_cwS 1 hts (gT m_344 m_268 m_59 m_269) rfl rfl rfl (by decide +kernel) ⟨Nat.le_of_ble_eq_true rfl, Nat.le_of_ble_eq_true rfl⟩) rfl hl.1 rfl (Nat.le_of_ble_eq_true rfl) d_Reader_readElement_66 ⟨Nat.le_of_ble_eq_true rfl, Nat.le_of_ble_eq_true rfl⟩ (fun H locs hM hS => ?_)
      refine ia_ifz_eq (x := kHold (bGet b sz ra)) (tgt := 85) hx hb d_Reader_readElement_69 (by decide) (fun c9 => ?_) (fun c9 => ?_)
      · refine lv_aload_n hx hb d_Reader_readElement_85 rfl (lv_at hl 2 rfl) ?_
        refine mw_get (ci := 2) (i := 14) (v := .int (iI a6)) (C := R_Reader) (T := T_Reader) (N := 6) hx hb hts in_Reader hown hK hM hR6 rfl rfl 2 (by decide) (hts _ m_168) rfl d_Reader_readElement_86 ?_
        refine lv_istore (lv' := [(4, .int (iI a6)), (3, .int (iI (ra + 1))), (2, .int (iI (bGet b sz ra))), (0, .ref (L 14)), (1, .int (iI last))]) hx hb d_Reader_readElement_89 hl (by decide) rfl (fun ls hl => ?_)
        refine lv_iload_n hx hb d_Reader_readElement_91 rfl (lv_at hl 2 rfl) ?_
        refine lv_iconst (v := iI (2)) hx hb d_Reader_readElement_92 rfl ?_
        refine ia_icmp_ne (a := bGet b sz ra) (b := 2) (tgt := 109) hx hb d_Reader_readElement_93 (by decide) (by omega) (by omega) (fun c10 => ?_) (fun c10 => ?_)
        · refine lv_aload_n hx hb d_Reader_readElement_109 rfl (lv_at hl 3 rfl) ?_
          refine lv_iload_n hx hb d_Reader_readElement_110 rfl (lv_at hl 2 rfl) ?_
          refine lv_iload_n hx hb d_Reader_readElement_111 rfl (lv_at hl 4 rfl) ?_
          refine lv_aload_n hx hb d_Reader_readElement_112 rfl (lv_at hl 3 rfl) ?_
          refine mw_get (ci := 2) (i := 14) (v := .int (iI a6)) (C := R_Reader) (T := T_Reader) (N := 6) hx hb hts in_Reader hown hK hM hR6 rfl rfl 2 (by decide) (hts _ m_168) rfl d_Reader_readElement_113 ?_
          refine ia_sub hx hb d_Reader_readElement_116 ?_
          refine mw_callV (i := 14) (As := [.int (iI (bGet b sz ra)), .int (iI (last - a6))]) (rest := []) ⟨hx, hb, hml, hown, hts⟩ hK hM hS rfl hR6 rfl (c_Reader_readNumber l D g lo L κ6 T cnt hN6 mo n sz b hB7 a6 ri f6 p6 hR6 (by omega) (by omega) (bGet b sz ra) (last - a6) (by omega) (by omega)) (cwV 2 hts (gV m_349 m_351 m_7 m_57 m_352) rfl rfl rfl (by decide +kernel) ⟨Nat.le_of_ble_eq_true rfl, Nat.le_of_ble_eq_true rfl⟩) rfl hl.1 rfl (Nat.le_of_ble_eq_true rfl) d_Reader_readElement_117 ⟨Nat.le_of_ble_eq_true rfl, Nat.le_of_ble_eq_true rfl⟩ (fun v11 L11 κ11 H locs hp11 hM hS => ?_)
          obtain ⟨a11, f11, p11, hE11, hF11⟩ := rNum_c b sz (bGet b sz ra) (last - a6) a6 ri f6 p6 T cnt
          rw [hE11] at hp11
          obtain ⟨rfl, rfl, hR11, hN11, hk11⟩ := hp11
          have hR11 : rds L κ11 a11 ri f11 p11 := hR11
          have hN11 : nds g L κ11 T cnt 2 := hN11
          have hB12 := bxs_keep hB7 (hk11 2 (by omega)) (hk11 3 (by omega)) rfl
          refine lv_aload_n hx hb d_Reader_readElement_120 rfl (lv_at hl 3 rfl) ?_
          refine mw_get (ci := 2) (i := 14) (v := .ref (L 6)) (C := R_Reader) (T := T_Reader) (N := 6) hx hb hts in_Reader hown hK hM hR11 rfl rfl 0 (by decide) (hts _ m_166) rfl d_Reader_readElement_121 ?_
          refine lv_iload_n hx hb d_Reader_readElement_124 rfl (lv_at hl 2 rfl) ?_
          refine lv_aload_n hx hb d_Reader_readElement_125 rfl (lv_at hl 3 rfl) ?_
          refine mw_get (ci := 2) (i := 14) (v := .int (iI ri)) (C := R_Reader) (T := T_Reader) (N := 6) hx hb hts in_Reader hown hK hM hR11 rfl rfl 3 (by decide) (hts _ m_169) rfl d_Reader_readElement_126 ?_
          refine lv_iload_n hx hb d_Reader_readElement_129 rfl (lv_at hl 1 rfl) ?_
          refine lv_iload hx hb d_Reader_readElement_130 (lv_at hl 0 rfl) ?_
          refine lv_aload_n hx hb d_Reader_readElement_132 rfl (lv_at hl 3 rfl) ?_
          refine mw_get (ci := 2) (i := 14) (v := .int (iI a11)) (C := R_Reader) (T := T_Reader) (N := 6) hx hb hts in_Reader hown hK hM hR11 rfl rfl 2 (by decide) (hts _ m_168) rfl d_Reader_readElement_133 ?_
          refine lv_iload hx hb d_Reader_readElement_136 (lv_at hl 0 rfl) ?_
          refine ia_sub hx hb d_Reader_readElement_138 ?_
          refine mw_callV (i := 6) (As := [.int (iI (bGet b sz ra)), .int (iI ri), .int (iI (ra + 1)), .int (iI a6), .int (iI (a11 - a6))]) (rest := []) ⟨hx, hb, hml, hown, hts⟩ hK hM hS rfl hN11.1 rfl (c_Nodes_append l D g lo L κ11 T cnt 2 hN11 (bGet b sz ra) ri (ra + 1) a6 (a11 - a6) hcn (by omega) (by omega) (by omega) (by omega) (by omega)) (cwV 5 hts (gV m_263 m_264 m_265 m_56 m_266) rfl rfl rfl (by decide +kernel) ⟨Nat.le_of_ble_eq_true rfl, Nat.le_of_ble_eq_true rfl⟩) rfl hl.1 rfl (Nat.le_of_ble_eq_true rfl) d_Reader_readElement_139 ⟨Nat.le_of_ble_eq_true rfl, Nat.le_of_ble_eq_true rfl⟩ (fun v13 L13 κ13 H locs hp13 hM hS => ?_)
          obtain ⟨rfl, rfl, hN13, hk13⟩ := hp13
          have hB14 := bxs_keep hB12 (hk13 2 (by omega)) (hk13 3 (by omega)) rfl
          have e15 := (hk13 14 (by omega)).trans hR11
          refine lv_pop hx hb d_Reader_readElement_142 rfl ?_
          exact mw_vret hx hb hr hM hS hlocks d_Reader_readElement_143 (by rw [show rElem b sz last ra ri rf rp T cnt = ((a11 : Int), (ri : Int), (f11 : Int), (p11 : Int), nApp T cnt (bGet b sz ra) ri (ra + 1) a6 (a11 - a6), cnt + 1) by unfold rElem; rw [if_neg (znf (by assumption)), hE6]; dsimp only; rw [if_neg (by omega), if_neg (zne (by assumption)), if_neg (by omega), hE11]]; exact ⟨rfl, rfl, e15, hN13, fun r h => by rw [hk13 r (by omega), hk11 r (by omega), hk6 r (by omega), hk3 r (by omega)]⟩)
        · refine lv_aload_n hx hb d_Reader_readElement_96 rfl (lv_at hl 3 rfl) ?_
          refine lv_iload_n hx hb d_Reader_readElement_97 rfl (lv_at hl 4 rfl) ?_
          refine lv_aload_n hx hb d_Reader_readElement_98 rfl (lv_at hl 3 rfl) ?_
          refine mw_get (ci := 2) (i := 14) (v := .int (iI a6)) (C := R_Reader) (T := T_Reader) (N := 6) hx hb hts in_Reader hown hK hM hR6 rfl rfl 2 (by decide) (hts _ m_168) rfl d_Reader_readElement_99 ?_
          refine ia_sub hx hb d_Reader_readElement_102 ?_
          refine mw_callV (i := 14) (As := [.int (iI (last - a6))]) (rest := []) ⟨hx, hb, hml, hown, hts⟩ hK hM hS rfl hR6 rfl (c_Reader_readText l D g lo L κ6 T cnt hN6 mo n sz b hB7 a6 ri f6 p6 hR6 (by omega) (by omega) (last - a6) (by omega)) (cwV 1 hts (gV m_345 m_347 m_6 m_57 m_348) rfl rfl rfl (by decide +kernel) ⟨Nat.le_of_ble_eq_true rfl, Nat.le_of_ble_eq_true rfl⟩) rfl hl.1 rfl (Nat.le_of_ble_eq_true rfl) d_Reader_readElement_103 ⟨Nat.le_of_ble_eq_true rfl, Nat.le_of_ble_eq_true rfl⟩ (fun v16 L16 κ16 H locs hp16 hM hS => ?_)
          obtain ⟨a16, f16, p16, hE16, hF16⟩ := rText_c b sz (last - a6) a6 ri f6 p6 T cnt
          rw [hE16] at hp16
          obtain ⟨rfl, rfl, hR16, hN16, hk16⟩ := hp16
          have hR16 : rds L κ16 a16 ri f16 p16 := hR16
          have hN16 : nds g L κ16 T cnt 2 := hN16
          have hB17 := bxs_keep hB7 (hk16 2 (by omega)) (hk16 3 (by omega)) rfl
          refine lv_goto (tgt := 120) hx hb d_Reader_readElement_106 (by decide) ?_
          refine lv_aload_n hx hb d_Reader_readElement_120 rfl (lv_at hl 3 rfl) ?_
          refine mw_get (ci := 2) (i := 14) (v := .ref (L 6)) (C := R_Reader) (T := T_Reader) (N := 6) hx hb hts in_Reader hown hK hM hR16 rfl rfl 0 (by decide) (hts _ m_166) rfl d_Reader_readElement_121 ?_
          refine lv_iload_n hx hb d_Reader_readElement_124 rfl (lv_at hl 2 rfl) ?_
          refine lv_aload_n hx hb d_Reader_readElement_125 rfl (lv_at hl 3 rfl) ?_
          refine mw_get (ci := 2) (i := 14) (v := .int (iI ri)) (C := R_Reader) (T := T_Reader) (N := 6) hx hb hts in_Reader hown hK hM hR16 rfl rfl 3 (by decide) (hts _ m_169) rfl d_Reader_readElement_126 ?_
          refine lv_iload_n hx hb d_Reader_readElement_129 rfl (lv_at hl 1 rfl) ?_
          refine lv_iload hx hb d_Reader_readElement_130 (lv_at hl 0 rfl) ?_
          refine lv_aload_n hx hb d_Reader_readElement_132 rfl (lv_at hl 3 rfl) ?_
          refine mw_get (ci := 2) (i := 14) (v := .int (iI a16)) (C := R_Reader) (T := T_Reader) (N := 6) hx hb hts in_Reader hown hK hM hR16 rfl rfl 2 (by decide) (hts _ m_168) rfl d_Reader_readElement_133 ?_
          refine lv_iload hx hb d_Reader_readElement_136 (lv_at hl 0 rfl) ?_
          refine ia_sub hx hb d_Reader_readElement_138 ?_
          refine mw_callV (i := 6) (As := [.int (iI (bGet b sz ra)), .int (iI ri), .int (iI (ra + 1)), .int (iI a6), .int (iI (a16 - a6))]) (rest := []) ⟨hx, hb, hml, hown, hts⟩ hK hM hS rfl hN16.1 rfl (c_Nodes_append l D g lo L κ16 T cnt 2 hN16 (bGet b sz ra) ri (ra + 1) a6 (a16 - a6) hcn (by omega) (by omega) (by omega) (by omega) (by omega)) (cwV 5 hts (gV m_263 m_264 m_265 m_56 m_266) rfl rfl rfl (by decide +kernel) ⟨Nat.le_of_ble_eq_true rfl, Nat.le_of_ble_eq_true rfl⟩) rfl hl.1 rfl (Nat.le_of_ble_eq_true rfl) d_Reader_readElement_139 ⟨Nat.le_of_ble_eq_true rfl, Nat.le_of_ble_eq_true rfl⟩ (fun v18 L18 κ18 H locs hp18 hM hS => ?_)
          obtain ⟨rfl, rfl, hN18, hk18⟩ := hp18
          have hB19 := bxs_keep hB17 (hk18 2 (by omega)) (hk18 3 (by omega)) rfl
          have e20 := (hk18 14 (by omega)).trans hR16
          refine lv_pop hx hb d_Reader_readElement_142 rfl ?_
          exact mw_vret hx hb hr hM hS hlocks d_Reader_readElement_143 (by rw [show rElem b sz last ra ri rf rp T cnt = ((a16 : Int), (ri : Int), (f16 : Int), (p16 : Int), nApp T cnt (bGet b sz ra) ri (ra + 1) a6 (a16 - a6), cnt + 1) by unfold rElem; rw [if_neg (znf (by assumption)), hE6]; dsimp only; rw [if_neg (by omega), if_neg (zne (by assumption)), if_pos (by omega), hE16]]; exact ⟨rfl, rfl, e20, hN18, fun r h => by rw [hk18 r (by omega), hk16 r (by omega), hk6 r (by omega), hk3 r (by omega)]⟩)
      · refine lv_aload_n hx hb d_Reader_readElement_72 rfl (lv_at hl 2 rfl) ?_
        refine lv_iload_n hx hb d_Reader_readElement_73 rfl (lv_at hl 1 rfl) ?_
        refine lv_iload_n hx hb d_Reader_readElement_74 rfl (lv_at hl 0 rfl) ?_
        refine lv_iload_n hx hb d_Reader_readElement_75 rfl (lv_at hl 3 rfl) ?_
        refine lv_aload_n hx hb d_Reader_readElement_76 rfl (lv_at hl 2 rfl) ?_
        refine mw_get (ci := 2) (i := 14) (v := .int (iI a6)) (C := R_Reader) (T := T_Reader) (N := 6) hx hb hts in_Reader hown hK hM hR6 rfl rfl 2 (by decide) (hts _ m_168) rfl d_Reader_readElement_77 ?_
        refine ia_sub hx hb d_Reader_readElement_80 ?_
        refine mw_callV (i := 14) (As := [.int (iI (bGet b sz ra)), .int (iI (ra + 1)), .int (iI (last - a6))]) (rest := []) ⟨hx, hb, hml, hown, hts⟩ hK hM hS rfl hR6 rfl (c_Reader_readSize l D g lo L κ6 T cnt hN6 mo n sz b hB7 a6 ri f6 p6 hR6 (by omega) (by omega) (bGet b sz ra) (ra + 1) (last - a6) hcn (by omega) (by omega) (by omega)) (cwV 3 hts (gV m_238 m_240 m_0 m_57 m_241) rfl rfl rfl (by decide +kernel) ⟨Nat.le_of_ble_eq_true rfl, Nat.le_of_ble_eq_true rfl⟩) rfl hl.1 rfl (Nat.le_of_ble_eq_true rfl) d_Reader_readElement_81 ⟨Nat.le_of_ble_eq_true rfl, Nat.le_of_ble_eq_true rfl⟩ (fun v21 L21 κ21 H locs hp21 hM hS => ?_)
        obtain ⟨rfl, rfl, hR21, hN21, hk21⟩ := hp21
        have hR21 : rds L κ21 ((rSize b sz (bGet b sz ra) (ra + 1) (last - a6) a6 ri f6 p6 T cnt).1) ((rSize b sz (bGet b sz ra) (ra + 1) (last - a6) a6 ri f6 p6 T cnt).2.1) ((rSize b sz (bGet b sz ra) (ra + 1) (last - a6) a6 ri f6 p6 T cnt).2.2.1) ((rSize b sz (bGet b sz ra) (ra + 1) (last - a6) a6 ri f6 p6 T cnt).2.2.2.1) := hR21
        have hN21 : nds g L κ21 ((rSize b sz (bGet b sz ra) (ra + 1) (last - a6) a6 ri f6 p6 T cnt).2.2.2.2.1) ((rSize b sz (bGet b sz ra) (ra + 1) (last - a6) a6 ri f6 p6 T cnt).2.2.2.2.2) 2 := hN21
        have hB22 := bxs_keep hB7 (hk21 2 (by omega)) (hk21 3 (by omega)) rfl
        exact mw_vret hx hb hr hM hS hlocks d_Reader_readElement_84 (by rw [show rElem b sz last ra ri rf rp T cnt = (((rSize b sz (bGet b sz ra) (ra + 1) (last - a6) a6 ri f6 p6 T cnt).1 : Int), ((rSize b sz (bGet b sz ra) (ra + 1) (last - a6) a6 ri f6 p6 T cnt).2.1 : Int), ((rSize b sz (bGet b sz ra) (ra + 1) (last - a6) a6 ri f6 p6 T cnt).2.2.1 : Int), ((rSize b sz (bGet b sz ra) (ra + 1) (last - a6) a6 ri f6 p6 T cnt).2.2.2.1 : Int), (rSize b sz (bGet b sz ra) (ra + 1) (last - a6) a6 ri f6 p6 T cnt).2.2.2.2.1, (rSize b sz (bGet b sz ra) (ra + 1) (last - a6) a6 ri f6 p6 T cnt).2.2.2.2.2) by unfold rElem; rw [if_neg (znf (by assumption)), hE6]; dsimp only; (rw [if_neg (by omega), if_pos (by assumption)]) <;> rfl]; exact ⟨rfl, rfl, hR21, hN21, fun r h => by rw [hk21 r (by omega), hk6 r (by omega), hk3 r (by omega)]⟩)
    · exact mw_vret hx hb hr hM hS hlocks d_Reader_readElement_64 (by rw [show rElem b sz last ra ri rf rp T cnt = ((a6 : Int), (ri : Int), (f6 : Int), (p6 : Int), T, cnt) by unfold rElem; rw [if_neg (znf (by assumption)), hE6]; dsimp only; rw [if_pos (by omega)]]; exact ⟨rfl, rfl, hR6, hN6, fun r h => by rw [hk6 r (by omega), hk3 r (by omega)]⟩)
  · refine lv_aload_n hx hb d_Reader_readElement_19 rfl (lv_at hl 1 rfl) ?_
    refine lv_iload_n hx hb d_Reader_readElement_20 rfl (lv_at hl 0 rfl) ?_
    refine ia_if_ne (a := bGet b sz ra) (tgt := 28) hx hb d_Reader_readElement_21 (by decide) (by omega) (fun c23 => ?_) (fun c23 => ?_)
    · refine lv_iconst (v := iI (3)) hx hb d_Reader_readElement_28 rfl ?_
      refine lv_aload_n hx hb d_Reader_readElement_29 rfl (lv_at hl 1 rfl) ?_
      refine mw_get (ci := 2) (i := 14) (v := .int (iI ra)) (C := R_Reader) (T := T_Reader) (N := 6) hx hb hts in_Reader hown hK hM hR rfl rfl 2 (by decide) (hts _ m_168) rfl d_Reader_readElement_30 ?_
      refine mw_callV (i := 14) (As := [.int (iI 3), .int (iI ra)]) (rest := []) ⟨hx, hb, hml, hown, hts⟩ hK hM hS rfl hR rfl (c_Reader_refuse l D g lo L κ T cnt hN mo n sz b hB ra ri rf rp hR (by omega) (by omega) 3 ra) (cwV 2 hts (gV m_242 m_244 m_1 m_57 m_245) rfl rfl rfl (by decide +kernel) ⟨Nat.le_of_ble_eq_true rfl, Nat.le_of_ble_eq_true rfl⟩) rfl hl.1 rfl (Nat.le_of_ble_eq_true rfl) d_Reader_readElement_33 ⟨Nat.le_of_ble_eq_true rfl, Nat.le_of_ble_eq_true rfl⟩ (fun v24 L24 κ24 H locs hp24 hM hS => ?_)
      obtain ⟨rfl, rfl, hR24, hN24, hk24⟩ := hp24
      have hR24 : rds L κ24 ra ri 3 ra := hR24
      have hN24 : nds g L κ24 T cnt 2 := hN24
      have hB25 := bxs_keep hB (hk24 2 (by omega)) (hk24 3 (by omega)) rfl
      exact mw_vret hx hb hr hM hS hlocks d_Reader_readElement_36 (by rw [show rElem b sz last ra ri rf rp T cnt = ((ra : Int), (ri : Int), (3 : Int), (ra : Int), T, cnt) by unfold rElem; rw [if_pos (by assumption), if_neg (by omega)]]; exact ⟨rfl, rfl, hR24, hN24, fun r h => by rw [hk24 r (by omega)]⟩)
    · refine lv_iconst (v := iI (2)) hx hb d_Reader_readElement_24 rfl ?_
      refine lv_goto (tgt := 29) hx hb d_Reader_readElement_25 (by decide) ?_
      refine lv_aload_n hx hb d_Reader_readElement_29 rfl (lv_at hl 1 rfl) ?_
      refine mw_get (ci := 2) (i := 14) (v := .int (iI ra)) (C := R_Reader) (T := T_Reader) (N := 6) hx hb hts in_Reader hown hK hM hR rfl rfl 2 (by decide) (hts _ m_168) rfl d_Reader_readElement_30 ?_
      refine mw_callV (i := 14) (As := [.int (iI 2), .int (iI ra)]) (rest := []) ⟨hx, hb, hml, hown, hts⟩ hK hM hS rfl hR rfl (c_Reader_refuse l D g lo L κ T cnt hN mo n sz b hB ra ri rf rp hR (by omega) (by omega) 2 ra) (cwV 2 hts (gV m_242 m_244 m_1 m_57 m_245) rfl rfl rfl (by decide +kernel) ⟨Nat.le_of_ble_eq_true rfl, Nat.le_of_ble_eq_true rfl⟩) rfl hl.1 rfl (Nat.le_of_ble_eq_true rfl) d_Reader_readElement_33 ⟨Nat.le_of_ble_eq_true rfl, Nat.le_of_ble_eq_true rfl⟩ (fun v26 L26 κ26 H locs hp26 hM hS => ?_)
      obtain ⟨rfl, rfl, hR26, hN26, hk26⟩ := hp26
      have hR26 : rds L κ26 ra ri 2 ra := hR26
      have hN26 : nds g L κ26 T cnt 2 := hN26
      have hB27 := bxs_keep hB (hk26 2 (by omega)) (hk26 3 (by omega)) rfl
      exact mw_vret hx hb hr hM hS hlocks d_Reader_readElement_36 (by rw [show rElem b sz last ra ri rf rp T cnt = ((ra : Int), (ri : Int), (2 : Int), (ra : Int), T, cnt) by unfold rElem; rw [if_pos (by assumption), if_pos (by omega)]]; exact ⟨rfl, rfl, hR26, hN26, fun r h => by rw [hk26 r (by omega)]⟩)
set_option maxHeartbeats 4000000 in
set_option maxRecDepth 100000 in
theorem c_Reader_readAll (l : Launch) (D : va_G) (g : Nat → ClassId) (lo : Nat) (L : Nat → Nat) (κ : Nat → Option va_E) (T : Nat → Nat → Int) (cnt d0 : Nat) (hN : nds g L κ T cnt d0) (mo n sz : Nat) (b : Nat → Int) (hB : bxs g L κ 2 3 mo n sz b) (ra ri rf rp : Int) (hR : rds L κ ra ri rf rp)  (n0 : Int) (hn0 : 0 ≤ n0 ∧ n0 ≤ 90000) (hgood : rGood b sz 2000 (rStart b sz n0 T)) : Met l y_Reader_readAll w_Reader_readAll ({ frames := 5, cells := 0, slots := 0, locals := 123 }) (mwP D vwCl (tyL g) lo L κ [.ref (L 14), .int (iI n0)]) (mwQ D vwCl lo (fun v L1 κ1 => v = some (.int (iI (rGo b sz 2000 (rStart b sz n0 T)).2.2.1)) ∧ rdQ g L κ (rGo b sz 2000 (rStart b sz n0 T)) none L1 κ1)) 0 0 (fun q => lo ≤ q) := by
  have hc0 := hN.2.2.1
  obtain ⟨hz1, hz2, hz3⟩ := hB.2.2.1
  have hcn : 0 < 700 := by decide
  refine Met.ofW (cc := b_Reader_readAll) (maxL := 4) (ret := (Option.some Jvm.ClassFile.FieldType.int)) (by decide) rfl ?_
  intro p e s m args below meth c s₁ B hml hpre
  obtain ⟨hargs, hM, hK⟩ := hpre
  have hx := B.exec
  have hb := B.bytes
  have hr := B.returns
  have hts : ∀ w ∈ wA, w.before args s = true := fun w h => atoms_spec (ws := w_Reader_readAll) B.pre w (List.mem_cons_of_mem _ h)
  have hown : s.vm.findClass R_Reader = some m.cls := findClass_of_methodNamed B.named
  have hlocks := B.notSynchronized
  have hS : va_S (fun q => lo ≤ q) s.heap s.heap [] := va_S.rf
  have loop40 : ∀ (N : Nat) (k : Int) (a1 : Int) (i1 : Int) (f1 : Int) (p1 : Int) (T1 : Nat → Nat → Int) (cn1 : Nat) (κ1 : Nat → Option va_E), (2000 - k).toNat < N → (0 ≤ k ∧ k ≤ 2000) → (rds L κ1 a1 i1 f1 p1) → (nds g L κ1 T1 cn1 2) → (bxs g L κ1 2 3 mo n sz b) → (∀ r, (r < 6 ∨ 14 < r) → κ1 r = κ r) → (rGo b sz 2000 (rStart b sz n0 T) = rGo b sz (2000 - k).toNat (a1, i1, f1, p1, T1, cn1)) → (rGood b sz (2000 - k).toNat (a1, i1, f1, p1, T1, cn1)) → ∀ (H : Heap) (locs : List Loc) (ls : Array Slot), mw D vwCl lo L κ1 H → va_S (fun q => lo ≤ q) s.heap H locs → lv_has ls 4 [(2, .int (iI k)), (0, .ref (L 14)), (1, .int (iI n0))] → W p l e (headSpec w_Reader_readAll ({ frames := 5, cells := 0, slots := 0, locals := 123 })).room s m args below meth c H locs 0 0 (MQ below (mwQ D vwCl lo (fun v L1 κ1 => v = some (.int (iI (rGo b sz 2000 (rStart b sz n0 T)).2.2.1)) ∧ rdQ g L κ (rGo b sz 2000 (rStart b sz n0 T)) none L1 κ1)) args s 0 0 (fun q => lo ≤ q)) (F0 m 40 ls []) := by
    intro N
    induction N with
    | zero => intro k a1 i1 f1 p1 T1 cn1 κ1 hms; exact absurd hms (Nat.not_lt_zero _)
    | succ N ih =>
      intro k a1 i1 f1 p1 T1 cn1 κ1 hms hk hR1 hN1 hB1 hf hres hgd H locs ls hM hS hl
      have hin := rGood_in hgd
      have hin1 : (-1000 ≤ f1 ∧ f1 ≤ 1000) ∧ (-1000000 ≤ i1 ∧ i1 ≤ 1000000) := hin
      refine lv_iload_n hx hb d_Reader_readAll_40 rfl (lv_at hl 0 rfl) ?_
      refine lv_sipush (v := iI (2000)) hx hb d_Reader_readAll_41 (by decide) ?_
      refine ia_icmp_ge (a := k) (b := 2000) (tgt := 99) hx hb d_Reader_readAll_44 (by decide) (by omega) (by omega) (fun c1 => ?_) (fun c1 => ?_)
      · refine lv_aload_n hx hb d_Reader_readAll_99 rfl (lv_at hl 1 rfl) ?_
        refine mw_get (ci := 2) (i := 14) (v := .int (iI f1)) (C := R_Reader) (T := T_Reader) (N := 6) hx hb hts in_Reader hown hK hM hR1 rfl rfl 4 (by decide) (hts _ m_170) rfl d_Reader_readAll_100 ?_
        have hS0 : rGo b sz 2000 (rStart b sz n0 T) = (a1, i1, f1, p1, T1, cn1) := hres.trans (rGo_0 (N := (2000 - k).toNat) (by omega))
        exact mw_iret hx hb hr hM hS hlocks d_Reader_readAll_103 (by rw [hS0]; exact ⟨rfl, rfl, rfl, hR1, hN1, hf⟩)
      · refine lv_aload_n hx hb d_Reader_readAll_47 rfl (lv_at hl 1 rfl) ?_
        refine mw_get (ci := 2) (i := 14) (v := .int (iI f1)) (C := R_Reader) (T := T_Reader) (N := 6) hx hb hts in_Reader hown hK hM hR1 rfl rfl 4 (by decide) (hts _ m_170) rfl d_Reader_readAll_48 ?_
        refine ia_if_ne (a := f1) (tgt := 99) hx hb d_Reader_readAll_51 (by decide) (by omega) (fun c2 => ?_) (fun c2 => ?_)
        · refine lv_aload_n hx hb d_Reader_readAll_99 rfl (lv_at hl 1 rfl) ?_
          refine mw_get (ci := 2) (i := 14) (v := .int (iI f1)) (C := R_Reader) (T := T_Reader) (N := 6) hx hb hts in_Reader hown hK hM hR1 rfl rfl 4 (by decide) (hts _ m_170) rfl d_Reader_readAll_100 ?_
          have hS0 : rGo b sz 2000 (rStart b sz n0 T) = (a1, i1, f1, p1, T1, cn1) := hres.trans (rGo_e (s := (a1, i1, f1, p1, T1, cn1)) (fun q => absurd q (by show ¬ (f1 = 0 ∧ 0 ≤ i1); omega)))
          exact mw_iret hx hb hr hM hS hlocks d_Reader_readAll_103 (by rw [hS0]; exact ⟨rfl, rfl, rfl, hR1, hN1, hf⟩)
        · refine lv_aload_n hx hb d_Reader_readAll_54 rfl (lv_at hl 1 rfl) ?_
          refine mw_get (ci := 2) (i := 14) (v := .int (iI i1)) (C := R_Reader) (T := T_Reader) (N := 6) hx hb hts in_Reader hown hK hM hR1 rfl rfl 3 (by decide) (hts _ m_169) rfl d_Reader_readAll_55 ?_
          refine ia_if_lt (a := i1) (tgt := 99) hx hb d_Reader_readAll_58 (by decide) (by omega) (fun c3 => ?_) (fun c3 => ?_)
          · refine lv_aload_n hx hb d_Reader_readAll_99 rfl (lv_at hl 1 rfl) ?_
            refine mw_get (ci := 2) (i := 14) (v := .int (iI f1)) (C := R_Reader) (T := T_Reader) (N := 6) hx hb hts in_Reader hown hK hM hR1 rfl rfl 4 (by decide) (hts _ m_170) rfl d_Reader_readAll_100 ?_
            have hS0 : rGo b sz 2000 (rStart b sz n0 T) = (a1, i1, f1, p1, T1, cn1) := hres.trans (rGo_e (s := (a1, i1, f1, p1, T1, cn1)) (fun q => absurd q (by show ¬ (f1 = 0 ∧ 0 ≤ i1); omega)))
            exact mw_iret hx hb hr hM hS hlocks d_Reader_readAll_103 (by rw [hS0]; exact ⟨rfl, rfl, rfl, hR1, hN1, hf⟩)
          · have hfu : (2000 - k).toNat = (2000 - (k + 1)).toNat + 1 := by omega
            have hgo : ((a1, i1, f1, p1, T1, cn1) : rS).2.2.1 = 0 ∧ 0 ≤ ((a1, i1, f1, p1, T1, cn1) : rS).2.1 := ⟨by show f1 = 0; omega, by show 0 ≤ i1; omega⟩
            have hgd0 : rGood b sz ((2000 - (k + 1)).toNat + 1) (a1, i1, f1, p1, T1, cn1) := by rw [← hfu]; exact hgd
            have hgd2 := hgd0.2 hgo
            have hgd3 : (0 ≤ a1 ∧ a1 ≤ 90000) ∧ i1 < cn1 ∧ cn1 < 700 ∧ (0 ≤ nLast T1 cn1 i1 ∧ nLast T1 cn1 i1 ≤ 90000) := hgd2.1
            refine lv_aload_n hx hb d_Reader_readAll_61 rfl (lv_at hl 1 rfl) ?_
            refine mw_get (ci := 2) (i := 14) (v := .ref (L 6)) (C := R_Reader) (T := T_Reader) (N := 6) hx hb hts in_Reader hown hK hM hR1 rfl rfl 0 (by decide) (hts _ m_166) rfl d_Reader_readAll_62 ?_
            refine lv_aload_n hx hb d_Reader_readAll_65 rfl (lv_at hl 1 rfl) ?_
            refine mw_get (ci := 2) (i := 14) (v := .int (iI i1)) (C := R_Reader) (T := T_Reader) (N := 6) hx hb hts in_Reader hown hK hM hR1 rfl rfl 3 (by decide) (hts _ m_169) rfl d_Reader_readAll_66 ?_
            refine mw_rdV (i := 6) (As := [.int (iI i1)]) (rest := []) ⟨hx, hb, hml, hown, hts⟩ hK hM hS rfl hN1.1 rfl (c_Nodes_lastByte l D g lo L κ1 T1 cn1 2 hN1 i1 (by omega)) (cwV 1 hts (gV m_270 m_271 m_272 m_56 m_273) rfl rfl rfl (by decide +kernel) ⟨Nat.le_of_ble_eq_true rfl, Nat.le_of_ble_eq_true rfl⟩) rfl hl.1 rfl (Nat.le_of_ble_eq_true rfl) d_Reader_readAll_69 ⟨Nat.le_of_ble_eq_true rfl, Nat.le_of_ble_eq_true rfl⟩ (fun H locs hM hS => ?_)
            have r4 := nCell_r (cnt := cn1) hN1.2.2.2.1 4 i1
            have r5 := nCell_r (cnt := cn1) hN1.2.2.2.1 5 i1
            have r6 := (show nLast T1 cn1 i1 = nCell T1 cn1 4 i1 + nCell T1 cn1 5 i1 - 1 from rfl)
            refine lv_istore_n (lv' := [(3, .int (iI (nLast T1 cn1 i1))), (2, .int (iI k)), (0, .ref (L 14)), (1, .int (iI n0))]) hx hb d_Reader_readAll_72 rfl hl (by decide) rfl (fun ls hl => ?_)
            refine lv_aload_n hx hb d_Reader_readAll_73 rfl (lv_at hl 2 rfl) ?_
            refine mw_get (ci := 2) (i := 14) (v := .int (iI a1)) (C := R_Reader) (T := T_Reader) (N := 6) hx hb hts in_Reader hown hK hM hR1 rfl rfl 2 (by decide) (hts _ m_168) rfl d_Reader_readAll_74 ?_
            refine lv_iload_n hx hb d_Reader_readAll_77 rfl (lv_at hl 0 rfl) ?_
            refine ia_icmp_lt (a := a1) (b := nLast T1 cn1 i1) (tgt := 88) hx hb d_Reader_readAll_78 (by decide) (by omega) (by omega) (fun c7 => ?_) (fun c7 => ?_)
            · refine lv_aload_n hx hb d_Reader_readAll_88 rfl (lv_at hl 2 rfl) ?_
              refine lv_iload_n hx hb d_Reader_readAll_89 rfl (lv_at hl 0 rfl) ?_
              refine mw_callV (i := 14) (As := [.int (iI (nLast T1 cn1 i1))]) (rest := []) ⟨hx, hb, hml, hown, hts⟩ hK hM hS rfl hR1 rfl (c_Reader_readElement l D g lo L κ1 T1 cn1 hN1 mo n sz b hB1 a1 i1 f1 p1 hR1 (by omega) (by omega) (nLast T1 cn1 i1) (by omega) (by omega) (by omega) (by omega)) (cwV 1 hts (gV m_283 m_285 m_4 m_57 m_286) rfl rfl rfl (by decide +kernel) ⟨Nat.le_of_ble_eq_true rfl, Nat.le_of_ble_eq_true rfl⟩) rfl hl.1 rfl (Nat.le_of_ble_eq_true rfl) d_Reader_readAll_90 ⟨Nat.le_of_ble_eq_true rfl, Nat.le_of_ble_eq_true rfl⟩ (fun v8 L8 κ8 H locs hp8 hM hS => ?_)
              obtain ⟨rfl, rfl, hR8, hN8, hk8⟩ := hp8
              have hR8 : rds L κ8 ((rElem b sz (nLast T1 cn1 i1) a1 i1 f1 p1 T1 cn1).1) ((rElem b sz (nLast T1 cn1 i1) a1 i1 f1 p1 T1 cn1).2.1) ((rElem b sz (nLast T1 cn1 i1) a1 i1 f1 p1 T1 cn1).2.2.1) ((rElem b sz (nLast T1 cn1 i1) a1 i1 f1 p1 T1 cn1).2.2.2.1) := hR8
              have hN8 : nds g L κ8 ((rElem b sz (nLast T1 cn1 i1) a1 i1 f1 p1 T1 cn1).2.2.2.2.1) ((rElem b sz (nLast T1 cn1 i1) a1 i1 f1 p1 T1 cn1).2.2.2.2.2) 2 := hN8
              have hB9 := bxs_keep hB1 (hk8 2 (by omega)) (hk8 3 (by omega)) rfl
              refine lv_iinc (v := iI (k + 1)) (lv' := [(2, .int (iI (k + 1))), (3, .int (iI (nLast T1 cn1 i1))), (0, .ref (L 14)), (1, .int (iI n0))]) hx hb d_Reader_readAll_93 hl (k := 1) rfl (iI_inc _ _) (by decide) rfl (fun ls hl => ?_)
              refine lv_goto (tgt := 40) hx hb d_Reader_readAll_96 (by decide) ?_
              exact ih (k + 1) ((rElem b sz (nLast T1 cn1 i1) a1 i1 f1 p1 T1 cn1).1) ((rElem b sz (nLast T1 cn1 i1) a1 i1 f1 p1 T1 cn1).2.1) ((rElem b sz (nLast T1 cn1 i1) a1 i1 f1 p1 T1 cn1).2.2.1) ((rElem b sz (nLast T1 cn1 i1) a1 i1 f1 p1 T1 cn1).2.2.2.1) ((rElem b sz (nLast T1 cn1 i1) a1 i1 f1 p1 T1 cn1).2.2.2.2.1) ((rElem b sz (nLast T1 cn1 i1) a1 i1 f1 p1 T1 cn1).2.2.2.2.2) κ8 (by omega) (by omega) hR8 hN8 hB9 (fun r h => by rw [hk8 r (by omega), hf r h]) (by rw [hres, hfu, rGo_s hgo, (show rStep b sz a1 i1 f1 p1 T1 cn1 = rElem b sz (nLast T1 cn1 i1) a1 i1 f1 p1 T1 cn1 by unfold rStep; rw [if_neg (by omega)])]) (by have hq : rGood b sz (2000 - (k + 1)).toNat (rStep b sz a1 i1 f1 p1 T1 cn1) := hgd2.2; rw [(show rStep b sz a1 i1 f1 p1 T1 cn1 = rElem b sz (nLast T1 cn1 i1) a1 i1 f1 p1 T1 cn1 by unfold rStep; rw [if_neg (by omega)])] at hq; exact hq) _ _ ls hM hS (lv_sub hl [0, 2, 3] rfl)
            · refine lv_aload_n hx hb d_Reader_readAll_81 rfl (lv_at hl 2 rfl) ?_
              refine mw_callV (i := 14) (As := []) (rest := []) ⟨hx, hb, hml, hown, hts⟩ hK hM hS rfl hR1 rfl (c_Reader_readLastByte l D g lo L κ1 T1 cn1 hN1 mo n sz b hB1 a1 i1 f1 p1 hR1 (by omega) (by omega) ) (cwV 0 hts (gV m_274 m_276 m_3 m_57 m_277) rfl rfl rfl (by decide +kernel) ⟨Nat.le_of_ble_eq_true rfl, Nat.le_of_ble_eq_true rfl⟩) rfl hl.1 rfl (Nat.le_of_ble_eq_true rfl) d_Reader_readAll_82 ⟨Nat.le_of_ble_eq_true rfl, Nat.le_of_ble_eq_true rfl⟩ (fun v10 L10 κ10 H locs hp10 hM hS => ?_)
              obtain ⟨rfl, rfl, hR10, hN10, hk10⟩ := hp10
              have hR10 : rds L κ10 ((rLastB b sz a1 i1 f1 p1 T1 cn1).1) ((rLastB b sz a1 i1 f1 p1 T1 cn1).2.1) ((rLastB b sz a1 i1 f1 p1 T1 cn1).2.2.1) ((rLastB b sz a1 i1 f1 p1 T1 cn1).2.2.2.1) := hR10
              have hN10 : nds g L κ10 ((rLastB b sz a1 i1 f1 p1 T1 cn1).2.2.2.2.1) ((rLastB b sz a1 i1 f1 p1 T1 cn1).2.2.2.2.2) 2 := hN10
              have hB11 := bxs_keep hB1 (hk10 2 (by omega)) (hk10 3 (by omega)) rfl
              refine lv_goto (tgt := 93) hx hb d_Reader_readAll_85 (by decide) ?_
              refine lv_iinc (v := iI (k + 1)) (lv' := [(2, .int (iI (k + 1))), (3, .int (iI (nLast T1 cn1 i1))), (0, .ref (L 14)), (1, .int (iI n0))]) hx hb d_Reader_readAll_93 hl (k := 1) rfl (iI_inc _ _) (by decide) rfl (fun ls hl => ?_)
              refine lv_goto (tgt := 40) hx hb d_Reader_readAll_96 (by decide) ?_
              exact ih (k + 1) ((rLastB b sz a1 i1 f1 p1 T1 cn1).1) ((rLastB b sz a1 i1 f1 p1 T1 cn1).2.1) ((rLastB b sz a1 i1 f1 p1 T1 cn1).2.2.1) ((rLastB b sz a1 i1 f1 p1 T1 cn1).2.2.2.1) ((rLastB b sz a1 i1 f1 p1 T1 cn1).2.2.2.2.1) ((rLastB b sz a1 i1 f1 p1 T1 cn1).2.2.2.2.2) κ10 (by omega) (by omega) hR10 hN10 hB11 (fun r h => by rw [hk10 r (by omega), hf r h]) (by rw [hres, hfu, rGo_s hgo, (show rStep b sz a1 i1 f1 p1 T1 cn1 = rLastB b sz a1 i1 f1 p1 T1 cn1 by unfold rStep; rw [if_pos (by omega)])]) (by have hq : rGood b sz (2000 - (k + 1)).toNat (rStep b sz a1 i1 f1 p1 T1 cn1) := hgd2.2; rw [(show rStep b sz a1 i1 f1 p1 T1 cn1 = rLastB b sz a1 i1 f1 p1 T1 cn1 by unfold rStep; rw [if_pos (by omega)])] at hq; exact hq) _ _ ls hM hS (lv_sub hl [0, 2, 3] rfl)
  obtain ⟨ls, hls, hl⟩ := mw_entry (m := m) [.ref (L 14), .int (iI n0)] (n := 4) (Nat.le_of_ble_eq_true rfl) hargs
  refine W.eq hls ?_
  have hl : lv_has ls 4 [(0, .ref (L 14)), (1, .int (iI n0))] := hl
  refine lv_aload_n hx hb d_Reader_readAll_0 rfl (lv_at hl 0 rfl) ?_
  refine lv_iconst (v := iI (0)) hx hb d_Reader_readAll_1 rfl ?_
  refine mw_put (ci := 2) (i := 14) (v := .int (iI 0)) (C := R_Reader) (T := T_Reader) (N := 6) hx hb hts in_Reader ty_Reader ty_Reader_ok nm_Reader hown hK hM hS hR rfl rfl 4 (by decide) (hts _ m_170) rfl (ty_Reader_ok 4 (by decide)) rfl rfl (Nat.le_of_ble_eq_true rfl) d_Reader_readAll_2 (fun κ12 H locs e12 hk12 hM hS => ?_)
  have e12 : κ12 14 = some (.inr (2, [.ref (L 6), .ref (L 2), .int (iI ra), .int (iI ri), .int (iI 0), .int (iI rp)])) := e12
  have hN13 := nds_keep hN (fun r h1 h2 => hk12 r (by omega)) (fun r h1 h2 => rfl) rfl
  have hB14 := bxs_keep hB (hk12 2 (by omega)) (hk12 3 (by omega)) rfl
  refine lv_aload_n hx hb d_Reader_readAll_5 rfl (lv_at hl 0 rfl) ?_
  refine lv_iconst (v := iI (-1)) hx hb d_Reader_readAll_6 rfl ?_
  refine mw_put (ci := 2) (i := 14) (v := .int (iI (-1))) (C := R_Reader) (T := T_Reader) (N := 6) hx hb hts in_Reader ty_Reader ty_Reader_ok nm_Reader hown hK hM hS e12 rfl rfl 5 (by decide) (hts _ m_171) rfl (ty_Reader_ok 5 (by decide)) rfl rfl (Nat.le_of_ble_eq_true rfl) d_Reader_readAll_7 (fun κ15 H locs e15 hk15 hM hS => ?_)
  have e15 : κ15 14 = some (.inr (2, [.ref (L 6), .ref (L 2), .int (iI ra), .int (iI ri), .int (iI 0), .int (iI (-1))])) := e15
  have hN16 := nds_keep hN13 (fun r h1 h2 => hk15 r (by omega)) (fun r h1 h2 => rfl) rfl
  have hB17 := bxs_keep hB14 (hk15 2 (by omega)) (hk15 3 (by omega)) rfl
  refine lv_aload_n hx hb d_Reader_readAll_10 rfl (lv_at hl 0 rfl) ?_
  refine lv_iconst (v := iI (0)) hx hb d_Reader_readAll_11 rfl ?_
  refine mw_put (ci := 2) (i := 14) (v := .int (iI 0)) (C := R_Reader) (T := T_Reader) (N := 6) hx hb hts in_Reader ty_Reader ty_Reader_ok nm_Reader hown hK hM hS e15 rfl rfl 2 (by decide) (hts _ m_168) rfl (ty_Reader_ok 2 (by decide)) rfl rfl (Nat.le_of_ble_eq_true rfl) d_Reader_readAll_12 (fun κ18 H locs e18 hk18 hM hS => ?_)
  have e18 : κ18 14 = some (.inr (2, [.ref (L 6), .ref (L 2), .int (iI 0), .int (iI ri), .int (iI 0), .int (iI (-1))])) := e18
  have hN19 := nds_keep hN16 (fun r h1 h2 => hk18 r (by omega)) (fun r h1 h2 => rfl) rfl
  have hB20 := bxs_keep hB17 (hk18 2 (by omega)) (hk18 3 (by omega)) rfl
  refine lv_aload_n hx hb d_Reader_readAll_15 rfl (lv_at hl 0 rfl) ?_
  refine lv_iconst (v := iI (-1)) hx hb d_Reader_readAll_16 rfl ?_
  refine mw_put (ci := 2) (i := 14) (v := .int (iI (-1))) (C := R_Reader) (T := T_Reader) (N := 6) hx hb hts in_Reader ty_Reader ty_Reader_ok nm_Reader hown hK hM hS e18 rfl rfl 3 (by decide) (hts _ m_169) rfl (ty_Reader_ok 3 (by decide)) rfl rfl (Nat.le_of_ble_eq_true rfl) d_Reader_readAll_17 (fun κ21 H locs e21 hk21 hM hS => ?_)
  have e21 : κ21 14 = some (.inr (2, [.ref (L 6), .ref (L 2), .int (iI 0), .int (iI (-1)), .int (iI 0), .int (iI (-1))])) := e21
  have hN22 := nds_keep hN19 (fun r h1 h2 => hk21 r (by omega)) (fun r h1 h2 => rfl) rfl
  have hB23 := bxs_keep hB20 (hk21 2 (by omega)) (hk21 3 (by omega)) rfl
  refine lv_aload_n hx hb d_Reader_readAll_20 rfl (lv_at hl 0 rfl) ?_
  refine mw_get (ci := 2) (i := 14) (v := .ref (L 6)) (C := R_Reader) (T := T_Reader) (N := 6) hx hb hts in_Reader hown hK hM e21 rfl rfl 0 (by decide) (hts _ m_166) rfl d_Reader_readAll_21 ?_
  refine lv_aload_n hx hb d_Reader_readAll_24 rfl (lv_at hl 0 rfl) ?_
  refine mw_get (ci := 2) (i := 14) (v := .ref (L 2)) (C := R_Reader) (T := T_Reader) (N := 6) hx hb hts in_Reader hown hK hM e21 rfl rfl 1 (by decide) (hts _ m_167) rfl d_Reader_readAll_25 ?_
  refine mw_callV (i := 6) (As := [.ref (L 2)]) (rest := []) ⟨hx, hb, hml, hown, hts⟩ hK hM hS rfl hN22.1 rfl (c_Nodes_begin l D g lo L κ21 T cnt d0 hN22 2) (cwV 1 hts (gV m_234 m_235 m_236 m_56 m_237) rfl rfl rfl (by decide +kernel) ⟨Nat.le_of_ble_eq_true rfl, Nat.le_of_ble_eq_true rfl⟩) rfl hl.1 rfl (Nat.le_of_ble_eq_true rfl) d_Reader_readAll_28 ⟨Nat.le_of_ble_eq_true rfl, Nat.le_of_ble_eq_true rfl⟩ (fun v24 L24 κ24 H locs hp24 hM hS => ?_)
  obtain ⟨rfl, rfl, hN24, hk24⟩ := hp24
  have hB25 := bxs_keep hB23 (hk24 2 (by omega)) (hk24 3 (by omega)) rfl
  have e26 := (hk24 14 (by omega)).trans e21
  refine lv_aload_n hx hb d_Reader_readAll_31 rfl (lv_at hl 0 rfl) ?_
  refine lv_iconst (v := iI (3)) hx hb d_Reader_readAll_32 rfl ?_
  refine lv_iconst (v := iI (-1)) hx hb d_Reader_readAll_33 rfl ?_
  refine lv_iload_n hx hb d_Reader_readAll_34 rfl (lv_at hl 1 rfl) ?_
  refine mw_callV (i := 14) (As := [.int (iI 3), .int (iI (-1)), .int (iI n0)]) (rest := []) ⟨hx, hb, hml, hown, hts⟩ hK hM hS rfl e26 rfl (c_Reader_readSize l D g lo L κ24 T 0 hN24 mo n sz b hB25 0 (-1) 0 (-1) e26 (by omega) (by omega) 3 (-1) n0 hcn (by omega) (by omega) (by omega)) (cwV 3 hts (gV m_238 m_240 m_0 m_57 m_241) rfl rfl rfl (by decide +kernel) ⟨Nat.le_of_ble_eq_true rfl, Nat.le_of_ble_eq_true rfl⟩) rfl hl.1 rfl (Nat.le_of_ble_eq_true rfl) d_Reader_readAll_35 ⟨Nat.le_of_ble_eq_true rfl, Nat.le_of_ble_eq_true rfl⟩ (fun v27 L27 κ27 H locs hp27 hM hS => ?_)
  obtain ⟨rfl, rfl, hR27, hN27, hk27⟩ := hp27
  have hR27 : rds L κ27 ((rSize b sz 3 (-1) n0 0 (-1) 0 (-1) T 0).1) ((rSize b sz 3 (-1) n0 0 (-1) 0 (-1) T 0).2.1) ((rSize b sz 3 (-1) n0 0 (-1) 0 (-1) T 0).2.2.1) ((rSize b sz 3 (-1) n0 0 (-1) 0 (-1) T 0).2.2.2.1) := hR27
  have hN27 : nds g L κ27 ((rSize b sz 3 (-1) n0 0 (-1) 0 (-1) T 0).2.2.2.2.1) ((rSize b sz 3 (-1) n0 0 (-1) 0 (-1) T 0).2.2.2.2.2) 2 := hN27
  have hB28 := bxs_keep hB25 (hk27 2 (by omega)) (hk27 3 (by omega)) rfl
  refine lv_iconst (v := iI (0)) hx hb d_Reader_readAll_38 rfl ?_
  refine lv_istore_n (lv' := [(2, .int (iI 0)), (0, .ref (L 14)), (1, .int (iI n0))]) hx hb d_Reader_readAll_39 rfl hl (by decide) rfl (fun ls hl => ?_)
  exact loop40 _ 0 ((rSize b sz 3 (-1) n0 0 (-1) 0 (-1) T 0).1) ((rSize b sz 3 (-1) n0 0 (-1) 0 (-1) T 0).2.1) ((rSize b sz 3 (-1) n0 0 (-1) 0 (-1) T 0).2.2.1) ((rSize b sz 3 (-1) n0 0 (-1) 0 (-1) T 0).2.2.2.1) ((rSize b sz 3 (-1) n0 0 (-1) 0 (-1) T 0).2.2.2.2.1) ((rSize b sz 3 (-1) n0 0 (-1) 0 (-1) T 0).2.2.2.2.2) κ27 (Nat.lt_succ_self _) (by omega) hR27 hN27 hB28 (fun r h => by rw [hk27 r (by omega), hk24 r (by omega), hk21 r (by omega), hk18 r (by omega), hk15 r (by omega), hk12 r (by omega)]) rfl hgood _ _ ls hM hS (lv_sub hl [0, 1, 2] rfl)
