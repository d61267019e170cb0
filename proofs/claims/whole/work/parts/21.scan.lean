set_option maxHeartbeats 4000000 in
set_option maxRecDepth 100000 in
theorem c_Nodes_scan (l : Launch) (D : va_G) (g : Nat → ClassId) (lo : Nat) (L : Nat → Nat) (κ : Nat → Option va_E) (T : Nat → Nat → Int) (cnt d : Nat) (hN : nds g L κ T cnt d) (i j mo n sz : Nat) (b : Nat → Int) (hB : bxs g L κ i j mo n sz b) (hi : (i < 6 ∨ 14 < i) ∧ (j < 6 ∨ 14 < j)) (hgood : scGood b sz 2000 (scStart sz T)) : Met l y_Nodes_scan w_Nodes_scan ({ frames := 3, cells := 0, slots := 0, locals := 68 }) (mwP D vwCl (tyL g) lo L κ [.ref (L 6), .ref (L i)]) (mwQ D vwCl lo (fun v L1 κ1 => v = none ∧ L = L1 ∧ nds g L κ1 (scAll b sz T).2.2.1 (scAll b sz T).2.2.2 i ∧ ∀ r, (r < 6 ∨ 14 ≤ r) → κ1 r = κ r)) 0 0 (fun q => lo ≤ q) := by
  have hc0 := hN.2.2.1
  obtain ⟨hz1, hz2, hz3⟩ := hB.2.2.1
  have hij := bxs_ne hB
  refine Met.ofW (cc := b_Nodes_scan) (maxL := 10) (ret := (Option.none : Option Jvm.ClassFile.FieldType)) (by decide) rfl ?_
  intro p e s m args below meth c s₁ B hml hpre
  obtain ⟨hargs, hM, hK⟩ := hpre
  have hx := B.exec
  have hb := B.bytes
  have hr := B.returns
  have hts : ∀ w ∈ wA, w.before args s = true := fun w h => atoms_spec (ws := w_Nodes_scan) B.pre w (List.mem_cons_of_mem _ h)
  have hown : s.vm.findClass R_Nodes = some m.cls := findClass_of_methodNamed B.named
  have hlocks := B.notSynchronized
  have hS : va_S (fun q => lo ≤ q) s.heap s.heap [] := va_S.rf
  have loop23 : ∀ (N : Nat) (k : Int) (a1 : Int) (i1 : Int) (T1 : Nat → Nat → Int) (cn1 : Nat) (κ1 : Nat → Option va_E), (2000 - k).toNat < N → (0 ≤ k ∧ k ≤ 2000) → (nds g L κ1 T1 cn1 i) → (bxs g L κ1 i j mo n sz b) → (∀ r, (r < 6 ∨ 14 ≤ r) → κ1 r = κ r) → (scAll b sz T = scGo b sz (2000 - k).toNat (a1, i1, T1, cn1)) → (scGood b sz (2000 - k).toNat (a1, i1, T1, cn1)) → ∀ (H : Heap) (locs : List Loc) (ls : Array Slot), mw D vwCl lo L κ1 H → va_S (fun q => lo ≤ q) s.heap H locs → lv_has ls 10 [(4, .int (iI k)), (3, .int (iI a1)), (2, .int (iI i1)), (0, .ref (L 6)), (1, .ref (L i))] → W p l e (headSpec w_Nodes_scan ({ frames := 3, cells := 0, slots := 0, locals := 68 })).room s m args below meth c H locs 0 0 (MQ below (mwQ D vwCl lo (fun v L1 κ1 => v = none ∧ L = L1 ∧ nds g L κ1 (scAll b sz T).2.2.1 (scAll b sz T).2.2.2 i ∧ ∀ r, (r < 6 ∨ 14 ≤ r) → κ1 r = κ r)) args s 0 0 (fun q => lo ≤ q)) (F0 m 23 ls []) := by
    intro N
    induction N with
    | zero => intro k a1 i1 T1 cn1 κ1 hms; exact absurd hms (Nat.not_lt_zero _)
    | succ N ih =>
      intro k a1 i1 T1 cn1 κ1 hms hk hN1 hB1 hf hres hgd H locs ls hM hS hl
      have hin := scGood_in hgd
      have hin1 : -1000000 ≤ i1 ∧ i1 ≤ 1000000 := hin
      refine lv_iload hx hb d_Nodes_scan_23 (lv_at hl 0 rfl) ?_
      refine lv_sipush (v := iI (2000)) hx hb d_Nodes_scan_25 (by decide) ?_
      refine ia_icmp_ge (a := k) (b := 2000) (tgt := 144) hx hb d_Nodes_scan_28 (by decide) (by omega) (by omega) (fun c1 => ?_) (fun c1 => ?_)
      · have hS0 : scAll b sz T = (a1, i1, T1, cn1) := hres.trans (scGo_0 (N := (2000 - k).toNat) (by omega))
        exact mw_vret hx hb hr hM hS hlocks d_Nodes_scan_144 (by rw [hS0]; exact ⟨rfl, rfl, hN1, hf⟩)
      · refine lv_iload_n hx hb d_Nodes_scan_31 rfl (lv_at hl 2 rfl) ?_
        refine ia_if_lt (a := i1) (tgt := 144) hx hb d_Nodes_scan_32 (by decide) (by omega) (fun c2 => ?_) (fun c2 => ?_)
        · have hS0 : scAll b sz T = (a1, i1, T1, cn1) := hres.trans (scGo_e (s := (a1, i1, T1, cn1)) (fun q => absurd q (by show ¬ (0 ≤ i1); omega)))
          exact mw_vret hx hb hr hM hS hlocks d_Nodes_scan_144 (by rw [hS0]; exact ⟨rfl, rfl, hN1, hf⟩)
        · have hfu : (2000 - k).toNat = (2000 - (k + 1)).toNat + 1 := by omega
          have hgo : 0 ≤ ((a1, i1, T1, cn1) : sS).2.1 := by show 0 ≤ i1; omega
          have hgd0 : scGood b sz ((2000 - (k + 1)).toNat + 1) (a1, i1, T1, cn1) := by rw [← hfu]; exact hgd
          have hgd2 := hgd0.2 hgo
          have hgd3 : (0 ≤ a1 ∧ a1 ≤ 90000) ∧ i1 < cn1 ∧ cn1 < 700 ∧ (0 ≤ nLast T1 cn1 i1 ∧ nLast T1 cn1 i1 ≤ 90000) ∧ (0 ≤ scLen b sz a1 ∧ scLen b sz a1 ≤ 90000) := hgd2.1
          refine lv_iload_n hx hb d_Nodes_scan_35 rfl (lv_at hl 1 rfl) ?_
          refine lv_aload_n hx hb d_Nodes_scan_36 rfl (lv_at hl 3 rfl) ?_
          refine lv_iload_n hx hb d_Nodes_scan_37 rfl (lv_at hl 2 rfl) ?_
          refine mw_rdV (i := 6) (As := [.int (iI i1)]) (rest := [.int (iI a1)]) ⟨hx, hb, hml, hown, hts⟩ hK hM hS rfl hN1.1 rfl (c_Nodes_lastByte l D g lo L κ1 T1 cn1 i hN1 i1 (by omega)) (cwV 1 hts (gV m_389 m_271 m_272 m_56 m_273) rfl rfl rfl (by decide +kernel) ⟨Nat.le_of_ble_eq_true rfl, Nat.le_of_ble_eq_true rfl⟩) rfl hl.1 rfl (Nat.le_of_ble_eq_true rfl) d_Nodes_scan_38 ⟨Nat.le_of_ble_eq_true rfl, Nat.le_of_ble_eq_true rfl⟩ (fun H locs hM hS => ?_)
          have r3 := nCell_r (cnt := cn1) hN1.2.2.2.1 4 i1
          have r4 := nCell_r (cnt := cn1) hN1.2.2.2.1 5 i1
          have r5 := (show nLast T1 cn1 i1 = nCell T1 cn1 4 i1 + nCell T1 cn1 5 i1 - 1 from rfl)
          refine ia_icmp_lt (a := a1) (b := nLast T1 cn1 i1) (tgt := 56) hx hb d_Nodes_scan_41 (by decide) (by omega) (by omega) (fun c6 => ?_) (fun c6 => ?_)
          · refine lv_aload_n hx hb d_Nodes_scan_56 rfl (lv_at hl 4 rfl) ?_
            refine lv_iload_n hx hb d_Nodes_scan_57 rfl (lv_at hl 1 rfl) ?_
            refine mw_rdV (i := i) (As := [.int (iI a1)]) (rest := []) ⟨hx, hb, hml, hown, hts⟩ hK hM hS rfl hB1.1 rfl (c_Bytes_get l D g lo L κ1 i j mo n sz b hB1 a1 (by omega)) (cwV 1 hts (gV m_390 m_251 m_252 m_52 m_253) rfl rfl rfl (by decide +kernel) ⟨Nat.le_of_ble_eq_true rfl, Nat.le_of_ble_eq_true rfl⟩) rfl hl.1 rfl (Nat.le_of_ble_eq_true rfl) d_Nodes_scan_58 ⟨Nat.le_of_ble_eq_true rfl, Nat.le_of_ble_eq_true rfl⟩ (fun H locs hM hS => ?_)
            have r7 := bGet_r (sz := sz) hB1.2.2.2.1 a1
            refine lv_istore (lv' := [(5, .int (iI (bGet b sz a1))), (4, .int (iI k)), (3, .int (iI a1)), (2, .int (iI i1)), (0, .ref (L 6)), (1, .ref (L i))]) hx hb d_Nodes_scan_61 hl (by decide) rfl (fun ls hl => ?_)
            refine lv_aload_n hx hb d_Nodes_scan_63 rfl (lv_at hl 5 rfl) ?_
            refine lv_iload_n hx hb d_Nodes_scan_64 rfl (lv_at hl 2 rfl) ?_
            refine lv_iconst (v := iI (1)) hx hb d_Nodes_scan_65 rfl ?_
            refine ia_add hx hb d_Nodes_scan_66 ?_
            refine lv_aload_n hx hb d_Nodes_scan_67 rfl (lv_at hl 5 rfl) ?_
            refine mw_rdV (i := i) (As := []) (rest := [.int (iI (a1 + 1)), .ref (L i)]) ⟨hx, hb, hml, hown, hts⟩ hK hM hS rfl hB1.1 rfl (c_Bytes_size l D g lo L κ1 i j mo n sz b hB1 ) (cwV 0 hts (gV m_387 m_212 m_213 m_52 m_214) rfl rfl rfl (by decide +kernel) ⟨Nat.le_of_ble_eq_true rfl, Nat.le_of_ble_eq_true rfl⟩) rfl hl.1 rfl (Nat.le_of_ble_eq_true rfl) d_Nodes_scan_68 ⟨Nat.le_of_ble_eq_true rfl, Nat.le_of_ble_eq_true rfl⟩ (fun H locs hM hS => ?_)
            refine mw_rdV (i := i) (As := [.int (iI (a1 + 1)), .int (iI sz)]) (rest := []) ⟨hx, hb, hml, hown, hts⟩ hK hM hS rfl hB1.1 rfl (c_Bytes_firstZero l D g lo L κ1 i j mo n sz b hB1 (a1 + 1) sz (by omega) (by omega)) (cwV 2 hts (gV m_391 m_299 m_300 m_52 m_301) rfl rfl rfl (by decide +kernel) ⟨Nat.le_of_ble_eq_true rfl, Nat.le_of_ble_eq_true rfl⟩) rfl hl.1 rfl (Nat.le_of_ble_eq_true rfl) d_Nodes_scan_71 ⟨Nat.le_of_ble_eq_true rfl, Nat.le_of_ble_eq_true rfl⟩ (fun H locs hM hS => ?_)
            have r8 := bFz_r b sz (a1 + 1) sz
            refine lv_iconst (v := iI (1)) hx hb d_Nodes_scan_74 rfl ?_
            refine ia_add hx hb d_Nodes_scan_75 ?_
            refine lv_istore (lv' := [(6, .int (iI ((bFz b sz (a1 + 1) sz) + 1))), (5, .int (iI (bGet b sz a1))), (4, .int (iI k)), (3, .int (iI a1)), (2, .int (iI i1)), (0, .ref (L 6)), (1, .ref (L i))]) hx hb d_Nodes_scan_76 hl (by decide) rfl (fun ls hl => ?_)
            refine lv_iload hx hb d_Nodes_scan_78 (lv_at hl 1 rfl) ?_
            refine lv_aload_n hx hb d_Nodes_scan_80 rfl (lv_at hl 6 rfl) ?_
            refine lv_iload hx hb d_Nodes_scan_81 (lv_at hl 0 rfl) ?_
            refine mw_rdS (As := [.int (iI (bGet b sz a1)), .ref (L i), .int (iI ((bFz b sz (a1 + 1) sz) + 1))]) (rest := []) ⟨hx, hb, hml, hown, hts⟩ hK hM hS (c_Kinds_valueLength l D g lo L κ1 i j mo n sz b hB1 (bGet b sz a1) ((bFz b sz (a1 + 1) sz) + 1) (by omega) (by omega)) (va_cwS 3 hts (gT m_392 m_393 m_59 m_394) rfl rfl rfl (by decide +kernel) ⟨Nat.le_of_ble_eq_true rfl, Nat.le_of_ble_eq_true rfl⟩) rfl hl.1 rfl (Nat.le_of_ble_eq_true rfl) d_Nodes_scan_83 ⟨Nat.le_of_ble_eq_true rfl, Nat.le_of_ble_eq_true rfl⟩ (fun H locs hM hS => ?_)
            have r9 : 0 ≤ kVlen (bGet b sz a1) b sz ((bFz b sz (a1 + 1) sz) + 1) ∧ kVlen (bGet b sz a1) b sz ((bFz b sz (a1 + 1) sz) + 1) ≤ 90000 := hgd3.2.2.2.2
            refine lv_istore (lv' := [(7, .int (iI (kVlen (bGet b sz a1) b sz ((bFz b sz (a1 + 1) sz) + 1)))), (6, .int (iI ((bFz b sz (a1 + 1) sz) + 1))), (5, .int (iI (bGet b sz a1))), (4, .int (iI k)), (3, .int (iI a1)), (2, .int (iI i1)), (0, .ref (L 6)), (1, .ref (L i))]) hx hb d_Nodes_scan_86 hl (by decide) rfl (fun ls hl => ?_)
            refine lv_aload_n hx hb d_Nodes_scan_88 rfl (lv_at hl 6 rfl) ?_
            refine lv_iload hx hb d_Nodes_scan_89 (lv_at hl 2 rfl) ?_
            refine lv_iload_n hx hb d_Nodes_scan_91 rfl (lv_at hl 5 rfl) ?_
            refine lv_iload_n hx hb d_Nodes_scan_92 rfl (lv_at hl 4 rfl) ?_
            refine lv_iconst (v := iI (1)) hx hb d_Nodes_scan_93 rfl ?_
            refine ia_add hx hb d_Nodes_scan_94 ?_
            refine lv_iload hx hb d_Nodes_scan_95 (lv_at hl 1 rfl) ?_
            refine lv_iload hx hb d_Nodes_scan_97 (lv_at hl 0 rfl) ?_
            refine mw_callV (i := 6) (As := [.int (iI (bGet b sz a1)), .int (iI i1), .int (iI (a1 + 1)), .int (iI ((bFz b sz (a1 + 1) sz) + 1)), .int (iI (kVlen (bGet b sz a1) b sz ((bFz b sz (a1 + 1) sz) + 1)))]) (rest := []) ⟨hx, hb, hml, hown, hts⟩ hK hM hS rfl hN1.1 rfl (c_Nodes_append l D g lo L κ1 T1 cn1 i hN1 (bGet b sz a1) i1 (a1 + 1) ((bFz b sz (a1 + 1) sz) + 1) (kVlen (bGet b sz a1) b sz ((bFz b sz (a1 + 1) sz) + 1)) (by omega) (by omega) (by omega) (by omega) (by omega) (by omega)) (cwV 5 hts (gV m_388 m_264 m_265 m_56 m_266) rfl rfl rfl (by decide +kernel) ⟨Nat.le_of_ble_eq_true rfl, Nat.le_of_ble_eq_true rfl⟩) rfl hl.1 rfl (Nat.le_of_ble_eq_true rfl) d_Nodes_scan_99 ⟨Nat.le_of_ble_eq_true rfl, Nat.le_of_ble_eq_true rfl⟩ (fun v10 L10 κ10 H locs hp10 hM hS => ?_)
            obtain ⟨rfl, rfl, hN10, hk10⟩ := hp10
            have hB11 := bxs_keep hB1 (hk10 i (by omega)) (hk10 j (by omega)) rfl
            refine lv_istore (lv' := [(8, .int (iI cn1)), (7, .int (iI (kVlen (bGet b sz a1) b sz ((bFz b sz (a1 + 1) sz) + 1)))), (6, .int (iI ((bFz b sz (a1 + 1) sz) + 1))), (5, .int (iI (bGet b sz a1))), (4, .int (iI k)), (3, .int (iI a1)), (2, .int (iI i1)), (0, .ref (L 6)), (1, .ref (L i))]) hx hb d_Nodes_scan_102 hl (by decide) rfl (fun ls hl => ?_)
            refine lv_iload hx hb d_Nodes_scan_104 (lv_at hl 3 rfl) ?_
            refine mw_rdS (As := [.int (iI (bGet b sz a1))]) (rest := []) ⟨hx, hb, hml, hown, hts⟩ hK hM hS (c_Kinds_hold l D g lo L κ10 (bGet b sz a1) (by omega)) (va_cwS 1 hts (gT m_267 m_268 m_59 m_269) rfl rfl rfl (by decide +kernel) ⟨Nat.le_of_ble_eq_true rfl, Nat.le_of_ble_eq_true rfl⟩) rfl hl.1 rfl (Nat.le_of_ble_eq_true rfl) d_Nodes_scan_106 ⟨Nat.le_of_ble_eq_true rfl, Nat.le_of_ble_eq_true rfl⟩ (fun H locs hM hS => ?_)
            refine lv_istore (lv' := [(9, .int (iI (bI (kHold (bGet b sz a1))))), (8, .int (iI cn1)), (7, .int (iI (kVlen (bGet b sz a1) b sz ((bFz b sz (a1 + 1) sz) + 1)))), (6, .int (iI ((bFz b sz (a1 + 1) sz) + 1))), (5, .int (iI (bGet b sz a1))), (4, .int (iI k)), (3, .int (iI a1)), (2, .int (iI i1)), (0, .ref (L 6)), (1, .ref (L i))]) hx hb d_Nodes_scan_109 hl (by decide) rfl (fun ls hl => ?_)
            refine lv_iload hx hb d_Nodes_scan_111 (lv_at hl 3 rfl) ?_
            refine lv_iload hx hb d_Nodes_scan_113 (lv_at hl 0 rfl) ?_
            refine ia_ifz_eq (x := kHold (bGet b sz a1)) (tgt := 122) hx hb d_Nodes_scan_115 (by decide) (fun c12 => ?_) (fun c12 => ?_)
            · refine lv_iload hx hb d_Nodes_scan_122 (lv_at hl 2 rfl) ?_
              refine ia_add hx hb d_Nodes_scan_124 ?_
              refine lv_istore_n (lv' := [(3, .int (iI (((bFz b sz (a1 + 1) sz) + 1) + (kVlen (bGet b sz a1) b sz ((bFz b sz (a1 + 1) sz) + 1))))), (9, .int (iI (bI (kHold (bGet b sz a1))))), (8, .int (iI cn1)), (7, .int (iI (kVlen (bGet b sz a1) b sz ((bFz b sz (a1 + 1) sz) + 1)))), (6, .int (iI ((bFz b sz (a1 + 1) sz) + 1))), (5, .int (iI (bGet b sz a1))), (4, .int (iI k)), (2, .int (iI i1)), (0, .ref (L 6)), (1, .ref (L i))]) hx hb d_Nodes_scan_125 rfl hl (by decide) rfl (fun ls hl => ?_)
              refine lv_iload hx hb d_Nodes_scan_126 (lv_at hl 1 rfl) ?_
              refine ia_ifz_eq (x := kHold (bGet b sz a1)) (tgt := 136) hx hb d_Nodes_scan_128 (by decide) (fun c13 => ?_) (fun c13 => ?_)
              · refine lv_iload_n hx hb d_Nodes_scan_136 rfl (lv_at hl 7 rfl) ?_
                refine lv_istore_n (lv' := [(2, .int (iI i1)), (3, .int (iI (((bFz b sz (a1 + 1) sz) + 1) + (kVlen (bGet b sz a1) b sz ((bFz b sz (a1 + 1) sz) + 1))))), (9, .int (iI (bI (kHold (bGet b sz a1))))), (8, .int (iI cn1)), (7, .int (iI (kVlen (bGet b sz a1) b sz ((bFz b sz (a1 + 1) sz) + 1)))), (6, .int (iI ((bFz b sz (a1 + 1) sz) + 1))), (5, .int (iI (bGet b sz a1))), (4, .int (iI k)), (0, .ref (L 6)), (1, .ref (L i))]) hx hb d_Nodes_scan_137 rfl hl (by decide) rfl (fun ls hl => ?_)
                refine lv_iinc (v := iI (k + 1)) (lv' := [(4, .int (iI (k + 1))), (2, .int (iI i1)), (3, .int (iI (((bFz b sz (a1 + 1) sz) + 1) + (kVlen (bGet b sz a1) b sz ((bFz b sz (a1 + 1) sz) + 1))))), (9, .int (iI (bI (kHold (bGet b sz a1))))), (8, .int (iI cn1)), (7, .int (iI (kVlen (bGet b sz a1) b sz ((bFz b sz (a1 + 1) sz) + 1)))), (6, .int (iI ((bFz b sz (a1 + 1) sz) + 1))), (5, .int (iI (bGet b sz a1))), (0, .ref (L 6)), (1, .ref (L i))]) hx hb d_Nodes_scan_138 hl (k := 7) rfl (iI_inc _ _) (by decide) rfl (fun ls hl => ?_)
                refine lv_goto (tgt := 23) hx hb d_Nodes_scan_141 (by decide) ?_
                exact ih (k + 1) (((bFz b sz (a1 + 1) sz) + 1) + (kVlen (bGet b sz a1) b sz ((bFz b sz (a1 + 1) sz) + 1))) i1 (nApp T1 cn1 (bGet b sz a1) i1 (a1 + 1) ((bFz b sz (a1 + 1) sz) + 1) (kVlen (bGet b sz a1) b sz ((bFz b sz (a1 + 1) sz) + 1))) (cn1 + 1) κ10 (by omega) (by omega) hN10 hB11 (fun r h => by rw [hk10 r (by omega), hf r h]) (by rw [hres, hfu, scGo_s hgo, (show scStep b sz a1 i1 T1 cn1 = ((((bFz b sz (a1 + 1) sz) + 1) + (kVlen (bGet b sz a1) b sz ((bFz b sz (a1 + 1) sz) + 1)) : Int), (i1 : Int), nApp T1 cn1 (bGet b sz a1) i1 (a1 + 1) ((bFz b sz (a1 + 1) sz) + 1) (kVlen (bGet b sz a1) b sz ((bFz b sz (a1 + 1) sz) + 1)), cn1 + 1) by unfold scStep; rw [if_neg (by omega), if_neg (zne (by assumption)), if_neg (zne (by assumption))] <;> rfl)]) (by have hq : scGood b sz (2000 - (k + 1)).toNat (scStep b sz a1 i1 T1 cn1) := hgd2.2; rw [(show scStep b sz a1 i1 T1 cn1 = ((((bFz b sz (a1 + 1) sz) + 1) + (kVlen (bGet b sz a1) b sz ((bFz b sz (a1 + 1) sz) + 1)) : Int), (i1 : Int), nApp T1 cn1 (bGet b sz a1) i1 (a1 + 1) ((bFz b sz (a1 + 1) sz) + 1) (kVlen (bGet b sz a1) b sz ((bFz b sz (a1 + 1) sz) + 1)), cn1 + 1) by unfold scStep; rw [if_neg (by omega), if_neg (zne (by assumption)), if_neg (zne (by assumption))] <;> rfl)] at hq; exact hq) _ _ ls hM hS (lv_sub hl [0, 2, 1, 8, 9] rfl)
              · exact absurd (c12.symm.trans c13) (by decide)
            · refine lv_iconst (v := iI (4)) hx hb d_Nodes_scan_118 rfl ?_
              refine lv_goto (tgt := 124) hx hb d_Nodes_scan_119 (by decide) ?_
              refine ia_add hx hb d_Nodes_scan_124 ?_
              refine lv_istore_n (lv' := [(3, .int (iI (((bFz b sz (a1 + 1) sz) + 1) + 4))), (9, .int (iI (bI (kHold (bGet b sz a1))))), (8, .int (iI cn1)), (7, .int (iI (kVlen (bGet b sz a1) b sz ((bFz b sz (a1 + 1) sz) + 1)))), (6, .int (iI ((bFz b sz (a1 + 1) sz) + 1))), (5, .int (iI (bGet b sz a1))), (4, .int (iI k)), (2, .int (iI i1)), (0, .ref (L 6)), (1, .ref (L i))]) hx hb d_Nodes_scan_125 rfl hl (by decide) rfl (fun ls hl => ?_)
              refine lv_iload hx hb d_Nodes_scan_126 (lv_at hl 1 rfl) ?_
              refine ia_ifz_eq (x := kHold (bGet b sz a1)) (tgt := 136) hx hb d_Nodes_scan_128 (by decide) (fun c14 => ?_) (fun c14 => ?_)
              · exact absurd (c12.symm.trans c14) (by decide)
              · refine lv_iload hx hb d_Nodes_scan_131 (lv_at hl 2 rfl) ?_
                refine lv_goto (tgt := 137) hx hb d_Nodes_scan_133 (by decide) ?_
                refine lv_istore_n (lv' := [(2, .int (iI cn1)), (3, .int (iI (((bFz b sz (a1 + 1) sz) + 1) + 4))), (9, .int (iI (bI (kHold (bGet b sz a1))))), (8, .int (iI cn1)), (7, .int (iI (kVlen (bGet b sz a1) b sz ((bFz b sz (a1 + 1) sz) + 1)))), (6, .int (iI ((bFz b sz (a1 + 1) sz) + 1))), (5, .int (iI (bGet b sz a1))), (4, .int (iI k)), (0, .ref (L 6)), (1, .ref (L i))]) hx hb d_Nodes_scan_137 rfl hl (by decide) rfl (fun ls hl => ?_)
                refine lv_iinc (v := iI (k + 1)) (lv' := [(4, .int (iI (k + 1))), (2, .int (iI cn1)), (3, .int (iI (((bFz b sz (a1 + 1) sz) + 1) + 4))), (9, .int (iI (bI (kHold (bGet b sz a1))))), (8, .int (iI cn1)), (7, .int (iI (kVlen (bGet b sz a1) b sz ((bFz b sz (a1 + 1) sz) + 1)))), (6, .int (iI ((bFz b sz (a1 + 1) sz) + 1))), (5, .int (iI (bGet b sz a1))), (0, .ref (L 6)), (1, .ref (L i))]) hx hb d_Nodes_scan_138 hl (k := 7) rfl (iI_inc _ _) (by decide) rfl (fun ls hl => ?_)
                refine lv_goto (tgt := 23) hx hb d_Nodes_scan_141 (by decide) ?_
                exact ih (k + 1) (((bFz b sz (a1 + 1) sz) + 1) + 4) cn1 (nApp T1 cn1 (bGet b sz a1) i1 (a1 + 1) ((bFz b sz (a1 + 1) sz) + 1) (kVlen (bGet b sz a1) b sz ((bFz b sz (a1 + 1) sz) + 1))) (cn1 + 1) κ10 (by omega) (by omega) hN10 hB11 (fun r h => by rw [hk10 r (by omega), hf r h]) (by rw [hres, hfu, scGo_s hgo, (show scStep b sz a1 i1 T1 cn1 = ((((bFz b sz (a1 + 1) sz) + 1) + 4 : Int), (cn1 : Int), nApp T1 cn1 (bGet b sz a1) i1 (a1 + 1) ((bFz b sz (a1 + 1) sz) + 1) (kVlen (bGet b sz a1) b sz ((bFz b sz (a1 + 1) sz) + 1)), cn1 + 1) by unfold scStep; rw [if_neg (by omega), if_pos (by assumption), if_pos (by assumption)] <;> rfl)]) (by have hq : scGood b sz (2000 - (k + 1)).toNat (scStep b sz a1 i1 T1 cn1) := hgd2.2; rw [(show scStep b sz a1 i1 T1 cn1 = ((((bFz b sz (a1 + 1) sz) + 1) + 4 : Int), (cn1 : Int), nApp T1 cn1 (bGet b sz a1) i1 (a1 + 1) ((bFz b sz (a1 + 1) sz) + 1) (kVlen (bGet b sz a1) b sz ((bFz b sz (a1 + 1) sz) + 1)), cn1 + 1) by unfold scStep; rw [if_neg (by omega), if_pos (by assumption), if_pos (by assumption)] <;> rfl)] at hq; exact hq) _ _ ls hM hS (lv_sub hl [0, 2, 1, 8, 9] rfl)
          · refine lv_iinc (v := iI (a1 + 1)) (lv' := [(3, .int (iI (a1 + 1))), (4, .int (iI k)), (2, .int (iI i1)), (0, .ref (L 6)), (1, .ref (L i))]) hx hb d_Nodes_scan_44 hl (k := 1) rfl (iI_inc _ _) (by decide) rfl (fun ls hl => ?_)
            refine lv_aload_n hx hb d_Nodes_scan_47 rfl (lv_at hl 3 rfl) ?_
            refine lv_iload_n hx hb d_Nodes_scan_48 rfl (lv_at hl 2 rfl) ?_
            refine mw_rdV (i := 6) (As := [.int (iI i1)]) (rest := []) ⟨hx, hb, hml, hown, hts⟩ hK hM hS rfl hN1.1 rfl (c_Nodes_parent l D g lo L κ1 T1 cn1 i hN1 i1 (by omega)) (cwV 1 hts (gV m_331 m_280 m_281 m_56 m_282) rfl rfl rfl (by decide +kernel) ⟨Nat.le_of_ble_eq_true rfl, Nat.le_of_ble_eq_true rfl⟩) rfl hl.1 rfl (Nat.le_of_ble_eq_true rfl) d_Nodes_scan_49 ⟨Nat.le_of_ble_eq_true rfl, Nat.le_of_ble_eq_true rfl⟩ (fun H locs hM hS => ?_)
            have r15 := nCell_r (cnt := cn1) hN1.2.2.2.1 1 i1
            refine lv_istore_n (lv' := [(2, .int (iI (nCell T1 cn1 1 i1))), (3, .int (iI (a1 + 1))), (4, .int (iI k)), (0, .ref (L 6)), (1, .ref (L i))]) hx hb d_Nodes_scan_52 rfl hl (by decide) rfl (fun ls hl => ?_)
            refine lv_goto (tgt := 138) hx hb d_Nodes_scan_53 (by decide) ?_
            refine lv_iinc (v := iI (k + 1)) (lv' := [(4, .int (iI (k + 1))), (2, .int (iI (nCell T1 cn1 1 i1))), (3, .int (iI (a1 + 1))), (0, .ref (L 6)), (1, .ref (L i))]) hx hb d_Nodes_scan_138 hl (k := 2) rfl (iI_inc _ _) (by decide) rfl (fun ls hl => ?_)
            refine lv_goto (tgt := 23) hx hb d_Nodes_scan_141 (by decide) ?_
            exact ih (k + 1) (a1 + 1) (nCell T1 cn1 1 i1) T1 cn1 κ1 (by omega) (by omega) hN1 hB1 hf (by rw [hres, hfu, scGo_s hgo, (show scStep b sz a1 i1 T1 cn1 = ((a1 + 1 : Int), (nCell T1 cn1 1 i1 : Int), T1, cn1) by unfold scStep; rw [if_pos (by omega)])]) (by have hq : scGood b sz (2000 - (k + 1)).toNat (scStep b sz a1 i1 T1 cn1) := hgd2.2; rw [(show scStep b sz a1 i1 T1 cn1 = ((a1 + 1 : Int), (nCell T1 cn1 1 i1 : Int), T1, cn1) by unfold scStep; rw [if_pos (by omega)])] at hq; exact hq) _ _ ls hM hS (lv_sub hl [0, 2, 1, 3, 4] rfl)
  obtain ⟨ls, hls, hl⟩ := mw_entry (m := m) [.ref (L 6), .ref (L i)] (n := 10) (Nat.le_of_ble_eq_true rfl) hargs
  refine W.eq hls ?_
  have hl : lv_has ls 10 [(0, .ref (L 6)), (1, .ref (L i))] := hl
  refine lv_aload_n hx hb d_Nodes_scan_0 rfl (lv_at hl 0 rfl) ?_
  refine lv_aload_n hx hb d_Nodes_scan_1 rfl (lv_at hl 1 rfl) ?_
  refine mw_callV (i := 6) (As := [.ref (L i)]) (rest := []) ⟨hx, hb, hml, hown, hts⟩ hK hM hS rfl hN.1 rfl (c_Nodes_begin l D g lo L κ T cnt d hN i) (cwV 1 hts (gV m_386 m_235 m_236 m_56 m_237) rfl rfl rfl (by decide +kernel) ⟨Nat.le_of_ble_eq_true rfl, Nat.le_of_ble_eq_true rfl⟩) rfl hl.1 rfl (Nat.le_of_ble_eq_true rfl) d_Nodes_scan_2 ⟨Nat.le_of_ble_eq_true rfl, Nat.le_of_ble_eq_true rfl⟩ (fun v16 L16 κ16 H locs hp16 hM hS => ?_)
  obtain ⟨rfl, rfl, hN16, hk16⟩ := hp16
  have hB17 := bxs_keep hB (hk16 i (by omega)) (hk16 j (by omega)) rfl
  refine lv_aload_n hx hb d_Nodes_scan_5 rfl (lv_at hl 0 rfl) ?_
  refine lv_iconst (v := iI (3)) hx hb d_Nodes_scan_6 rfl ?_
  refine lv_iconst (v := iI (-1)) hx hb d_Nodes_scan_7 rfl ?_
  refine lv_iconst (v := iI (-1)) hx hb d_Nodes_scan_8 rfl ?_
  refine lv_iconst (v := iI (0)) hx hb d_Nodes_scan_9 rfl ?_
  refine lv_aload_n hx hb d_Nodes_scan_10 rfl (lv_at hl 1 rfl) ?_
  refine mw_rdV (i := i) (As := []) (rest := [.int (iI 0), .int (iI (-1)), .int (iI (-1)), .int (iI 3), .ref (L 6)]) ⟨hx, hb, hml, hown, hts⟩ hK hM hS rfl hB17.1 rfl (c_Bytes_size l D g lo L κ16 i j mo n sz b hB17 ) (cwV 0 hts (gV m_387 m_212 m_213 m_52 m_214) rfl rfl rfl (by decide +kernel) ⟨Nat.le_of_ble_eq_true rfl, Nat.le_of_ble_eq_true rfl⟩) rfl hl.1 rfl (Nat.le_of_ble_eq_true rfl) d_Nodes_scan_11 ⟨Nat.le_of_ble_eq_true rfl, Nat.le_of_ble_eq_true rfl⟩ (fun H locs hM hS => ?_)
  refine mw_callV (i := 6) (As := [.int (iI 3), .int (iI (-1)), .int (iI (-1)), .int (iI 0), .int (iI sz)]) (rest := []) ⟨hx, hb, hml, hown, hts⟩ hK hM hS rfl hN16.1 rfl (c_Nodes_append l D g lo L κ16 T 0 i hN16 3 (-1) (-1) 0 sz (by omega) (by omega) (by omega) (by omega) (by omega) (by omega)) (cwV 5 hts (gV m_388 m_264 m_265 m_56 m_266) rfl rfl rfl (by decide +kernel) ⟨Nat.le_of_ble_eq_true rfl, Nat.le_of_ble_eq_true rfl⟩) rfl hl.1 rfl (Nat.le_of_ble_eq_true rfl) d_Nodes_scan_14 ⟨Nat.le_of_ble_eq_true rfl, Nat.le_of_ble_eq_true rfl⟩ (fun v18 L18 κ18 H locs hp18 hM hS => ?_)
  obtain ⟨rfl, rfl, hN18, hk18⟩ := hp18
  have hB19 := bxs_keep hB17 (hk18 i (by omega)) (hk18 j (by omega)) rfl
  refine lv_istore_n (lv' := [(2, .int (iI 0)), (0, .ref (L 6)), (1, .ref (L i))]) hx hb d_Nodes_scan_17 rfl hl (by decide) rfl (fun ls hl => ?_)
  refine lv_iconst (v := iI (4)) hx hb d_Nodes_scan_18 rfl ?_
  refine lv_istore_n (lv' := [(3, .int (iI 4)), (2, .int (iI 0)), (0, .ref (L 6)), (1, .ref (L i))]) hx hb d_Nodes_scan_19 rfl hl (by decide) rfl (fun ls hl => ?_)
  refine lv_iconst (v := iI (0)) hx hb d_Nodes_scan_20 rfl ?_
  refine lv_istore (lv' := [(4, .int (iI 0)), (3, .int (iI 4)), (2, .int (iI 0)), (0, .ref (L 6)), (1, .ref (L i))]) hx hb d_Nodes_scan_21 hl (by decide) rfl (fun ls hl => ?_)
  exact loop23 _ 0 4 0 (nApp T 0 3 (-1) (-1) 0 sz) 1 κ18 (Nat.lt_succ_self _) (by omega) hN18 hB19 (fun r h => by rw [hk18 r (by omega), hk16 r (by omega)]) rfl hgood _ _ ls hM hS (lv_sub hl [0, 1, 2, 3, 4] rfl)
