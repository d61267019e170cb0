set_option maxHeartbeats 4000000 in
set_option maxRecDepth 100000 in
theorem c_Model_load (l : Launch) (D : va_G) (g : Nat → ClassId) (lo : Nat) (L : Nat → Nat) (κ : Nat → Option va_E) (S : MS) (hV : mds g L κ S) (u : Int) (hs : 0 ≤ u ∧ u < 8) (hL : mLdOK u S) (hz : mSzs S) : Met l y_Model_load w_Model_load ({ frames := 6, cells := 0, slots := 0, locals := 153 }) (mwP D vwCl (tyL g) lo L κ [.ref (L 40), .int (iI u)]) (mwQ D vwCl lo (mdQ g L κ none (mLoad u S))) 0 0 (fun q => lo ≤ q) := by
  refine Met.ofW (cc := b_Model_load) (maxL := 4) (ret := (Option.none : Option Jvm.ClassFile.FieldType)) (by decide) rfl ?_
  intro p e s m args below meth c s₁ B hml hpre
  obtain ⟨hargs, hM, hK⟩ := hpre
  have hx := B.exec
  have hb := B.bytes
  have hr := B.returns
  have hts : ∀ w ∈ wA, w.before args s = true := fun w h => atoms_spec (ws := w_Model_load) B.pre w (List.mem_cons_of_mem _ h)
  have hown : s.vm.findClass R_Model = some m.cls := findClass_of_methodNamed B.named
  have hlocks := B.notSynchronized
  have hS : va_S (fun q => lo ≤ q) s.heap s.heap [] := va_S.rf
  have hzs := hz u.toNat (by omega)
  have loop7 : ∀ (N : Nat) (q : Nat) (k : Int) (S1 : MS) (κ1 : Nat → Option va_E), (S.a 1 u.toNat - k).toNat < N → (mds g L κ1 S1) → (∀ r, (r < 40 ∨ 54 < r) → κ1 r = κ r) → (k = q ∧ k ≤ S.a 1 u.toNat) → (S1 = S.cp 3 0 2 (2000 * u).toNat q) → ∀ (H : Heap) (locs : List Loc) (ls : Array Slot), mw D vwCl lo L κ1 H → va_S (fun q => lo ≤ q) s.heap H locs → lv_has ls 4 [(3, .int (iI k)), (2, .int (iI (S.f 1))), (0, .ref (L 40)), (1, .int (iI u))] → W p l e (headSpec w_Model_load ({ frames := 6, cells := 0, slots := 0, locals := 153 })).room s m args below meth c H locs 0 0 (MQ below (mwQ D vwCl lo (mdQ g L κ none (mLoad u S))) args s 0 0 (fun q => lo ≤ q)) (F0 m 7 ls []) := by
    intro N
    induction N with
    | zero => intro q k S1 κ1 hms; exact absurd hms (Nat.not_lt_zero _)
    | succ N ih =>
      intro q k S1 κ1 hms hV1 hf1 hk hS1 H locs ls hM hS hl
      have hp1 := hV.2.2.2 1
      have hzs := hz u.toNat (by omega)
      have hr1 : S1.a 1 u.toNat = S.a 1 u.toNat := congrFun (cp_r hS1 (by decide)) _
      refine lv_iload_n hx hb d_Model_load_7 rfl (lv_at hl 0 rfl) ?_
      refine lv_aload_n hx hb d_Model_load_8 rfl (lv_at hl 2 rfl) ?_
      refine mw_get (ci := 4) (i := 40) (v := .ref (L 42)) (C := R_Model) (T := T_Model) (N := 23) hx hb hts in_Model hown hK hM hV1.1 rfl rfl 4 (by decide) (hts _ m_549) rfl d_Model_load_9 ?_
      refine lv_iload_n hx hb d_Model_load_12 rfl (lv_at hl 3 rfl) ?_
      refine mw_iald (n := 8) (f := S1.a 1) (a := u) (i := 42) hx hb hK hM 1 (hV1.2.1 1 (by decide)) rfl rfl (by omega) (by decide) d_Model_load_13 ?_
      have r1 : -1000000 ≤ S1.a 1 (u : Int).toNat ∧ S1.a 1 (u : Int).toNat ≤ 1000000 := hV1.2.2.1 1 _
      refine ia_icmp_ge (a := k) (b := S1.a 1 (u : Int).toNat) (tgt := 41) hx hb d_Model_load_14 (by decide) (by omega) (by omega) (fun c2 => ?_) (fun c2 => ?_)
      · have hS2 : S1 = S.cp 3 0 2 (2000 * u).toNat (S.a 1 u.toNat).toNat := by rw [hS1, show q = (S.a 1 u.toNat).toNat by omega]
        subst hS2
        refine lv_aload_n hx hb d_Model_load_41 rfl (lv_at hl 2 rfl) ?_
        refine lv_aload_n hx hb d_Model_load_42 rfl (lv_at hl 2 rfl) ?_
        refine mw_get (ci := 4) (i := 40) (v := .ref (L 42)) (C := R_Model) (T := T_Model) (N := 23) hx hb hts in_Model hown hK hM hV1.1 rfl rfl 4 (by decide) (hts _ m_549) rfl d_Model_load_43 ?_
        refine lv_iload_n hx hb d_Model_load_46 rfl (lv_at hl 3 rfl) ?_
        refine mw_iald (n := 8) (f := (S.cp 3 0 2 (2000 * u).toNat (S.a 1 u.toNat).toNat).a 1) (a := u) (i := 42) hx hb hK hM 1 (hV1.2.1 1 (by decide)) rfl rfl (by omega) (by decide) d_Model_load_47 ?_
        have r3 : -1000000 ≤ (S.cp 3 0 2 (2000 * u).toNat (S.a 1 u.toNat).toNat).a 1 (u : Int).toNat ∧ (S.cp 3 0 2 (2000 * u).toNat (S.a 1 u.toNat).toNat).a 1 (u : Int).toNat ≤ 1000000 := hV1.2.2.1 1 _
        refine mw_put (ci := 4) (i := 40) (v := .int (iI ((S.cp 3 0 2 (2000 * u).toNat (S.a 1 u.toNat).toNat).a 1 (u : Int).toNat))) (C := R_Model) (T := T_Model) (N := 23) hx hb hts in_Model ty_Model ty_Model_ok nm_Model hown hK hM hS hV1.1 rfl rfl 7 (by decide) (hts _ m_552) rfl (ty_Model_ok 7 (by decide)) rfl rfl (Nat.le_of_ble_eq_true rfl) d_Model_load_48 (fun κ4 H locs e4 hk4 hM hS => ?_)
        have e4 : κ4 40 = some (.inr (4, [.int (iI ((S.cp 3 0 2 (2000 * u).toNat (S.a 1 u.toNat).toNat).f 8)), .ref (L 41), .int (iI ((S.cp 3 0 2 (2000 * u).toNat (S.a 1 u.toNat).toNat).f 0)), .int (iI ((S.cp 3 0 2 (2000 * u).toNat (S.a 1 u.toNat).toNat).f 1)), .ref (L 42), .ref (L 43), .ref (L 44), .int (iI ((S.cp 3 0 2 (2000 * u).toNat (S.a 1 u.toNat).toNat).a 1 (u : Int).toNat)), .int (iI ((S.cp 3 0 2 (2000 * u).toNat (S.a 1 u.toNat).toNat).f 3)), .ref (L 45), .ref (L 46), .ref (L 47), .ref (L 48), .ref (L 49), .int (iI ((S.cp 3 0 2 (2000 * u).toNat (S.a 1 u.toNat).toNat).f 4)), .int (iI ((S.cp 3 0 2 (2000 * u).toNat (S.a 1 u.toNat).toNat).f 5)), .int (iI ((S.cp 3 0 2 (2000 * u).toNat (S.a 1 u.toNat).toNat).f 6)), .ref (L 50), .ref (L 51), .ref (L 52), .ref (L 53), .ref (L 54), .int (iI ((S.cp 3 0 2 (2000 * u).toNat (S.a 1 u.toNat).toNat).f 7))])) := e4
        have hV4 : mds g L κ4 ((S.cp 3 0 2 (2000 * u).toNat (S.a 1 u.toNat).toNat).pf 2 ((S.cp 3 0 2 (2000 * u).toNat (S.a 1 u.toNat).toNat).a 1 (u : Int).toNat)) := mds_pf hV1 e4 hk4 (by first | omega | (split <;> omega))
        refine lv_aload_n hx hb d_Model_load_51 rfl (lv_at hl 2 rfl) ?_
        refine lv_aload_n hx hb d_Model_load_52 rfl (lv_at hl 2 rfl) ?_
        refine mw_get (ci := 4) (i := 40) (v := .int (iI ((S.cp 3 0 2 (2000 * u).toNat (S.a 1 u.toNat).toNat).a 1 (u : Int).toNat))) (C := R_Model) (T := T_Model) (N := 23) hx hb hts in_Model hown hK hM hV4.1 rfl rfl 7 (by decide) (hts _ m_552) rfl d_Model_load_53 ?_
        have r5 : -1000000 ≤ (S.cp 3 0 2 (2000 * u).toNat (S.a 1 u.toNat).toNat).a 1 (u : Int).toNat ∧ (S.cp 3 0 2 (2000 * u).toNat (S.a 1 u.toNat).toNat).a 1 (u : Int).toNat ≤ 1000000 := hV4.2.2.2 2
        have r6 : ((S.cp 3 0 2 (2000 * u).toNat (S.a 1 u.toNat).toNat).pf 2 ((S.cp 3 0 2 (2000 * u).toNat (S.a 1 u.toNat).toNat).a 1 (u : Int).toNat)).f 0 = (S.cp 3 0 2 (2000 * u).toNat (S.a 1 u.toNat).toNat).f 0 := rfl
        have r7 : ((S.cp 3 0 2 (2000 * u).toNat (S.a 1 u.toNat).toNat).pf 2 ((S.cp 3 0 2 (2000 * u).toNat (S.a 1 u.toNat).toNat).a 1 (u : Int).toNat)).f 2 = (S.cp 3 0 2 (2000 * u).toNat (S.a 1 u.toNat).toNat).a 1 (u : Int).toNat := rfl
        have r8 : ((S.cp 3 0 2 (2000 * u).toNat (S.a 1 u.toNat).toNat).pf 2 ((S.cp 3 0 2 (2000 * u).toNat (S.a 1 u.toNat).toNat).a 1 (u : Int).toNat)).f 3 = (S.cp 3 0 2 (2000 * u).toNat (S.a 1 u.toNat).toNat).f 3 := rfl
        have r9 : ((S.cp 3 0 2 (2000 * u).toNat (S.a 1 u.toNat).toNat).pf 2 ((S.cp 3 0 2 (2000 * u).toNat (S.a 1 u.toNat).toNat).a 1 (u : Int).toNat)).f 7 = (S.cp 3 0 2 (2000 * u).toNat (S.a 1 u.toNat).toNat).f 7 := rfl
        refine mw_callV (i := 40) (As := [.int (iI ((S.cp 3 0 2 (2000 * u).toNat (S.a 1 u.toNat).toNat).a 1 (u : Int).toNat))]) (rest := []) ⟨hx, hb, hml, hown, hts⟩ hK hM hS rfl hV4.1 rfl (c_Model_goOver l D g lo L κ4 ((S.cp 3 0 2 (2000 * u).toNat (S.a 1 u.toNat).toNat).pf 2 ((S.cp 3 0 2 (2000 * u).toNat (S.a 1 u.toNat).toNat).a 1 (u : Int).toNat)) hV4 ((S.cp 3 0 2 (2000 * u).toNat (S.a 1 u.toNat).toNat).a 1 (u : Int).toNat) (by omega) (hL (mSlot_iff.mpr hs)).1) (cwV 1 hts (gV m_630 m_632 m_18 m_58 m_633) rfl rfl rfl (by decide +kernel) ⟨Nat.le_of_ble_eq_true rfl, Nat.le_of_ble_eq_true rfl⟩) rfl hl.1 rfl (Nat.le_of_ble_eq_true rfl) d_Model_load_56 ⟨Nat.le_of_ble_eq_true rfl, Nat.le_of_ble_eq_true rfl⟩ (fun v10 L10 κ10 H locs hp10 hM hS => ?_)
        obtain ⟨rfl, rfl, hV10, hk10⟩ := hp10
        refine lv_aload_n hx hb d_Model_load_59 rfl (lv_at hl 2 rfl) ?_
        refine lv_iload_n hx hb d_Model_load_60 rfl (lv_at hl 1 rfl) ?_
        refine mw_put (ci := 4) (i := 40) (v := .int (iI (S.f 1))) (C := R_Model) (T := T_Model) (N := 23) hx hb hts in_Model ty_Model ty_Model_ok nm_Model hown hK hM hS hV10.1 rfl rfl 3 (by decide) (hts _ m_548) rfl (ty_Model_ok 3 (by decide)) rfl rfl (Nat.le_of_ble_eq_true rfl) d_Model_load_61 (fun κ11 H locs e11 hk11 hM hS => ?_)
        have e11 : κ11 40 = some (.inr (4, [.int (iI ((mGoOver ((S.cp 3 0 2 (2000 * u).toNat (S.a 1 u.toNat).toNat).a 1 (u : Int).toNat) ((S.cp 3 0 2 (2000 * u).toNat (S.a 1 u.toNat).toNat).pf 2 ((S.cp 3 0 2 (2000 * u).toNat (S.a 1 u.toNat).toNat).a 1 (u : Int).toNat))).f 8)), .ref (L 41), .int (iI ((mGoOver ((S.cp 3 0 2 (2000 * u).toNat (S.a 1 u.toNat).toNat).a 1 (u : Int).toNat) ((S.cp 3 0 2 (2000 * u).toNat (S.a 1 u.toNat).toNat).pf 2 ((S.cp 3 0 2 (2000 * u).toNat (S.a 1 u.toNat).toNat).a 1 (u : Int).toNat))).f 0)), .int (iI (S.f 1)), .ref (L 42), .ref (L 43), .ref (L 44), .int (iI ((mGoOver ((S.cp 3 0 2 (2000 * u).toNat (S.a 1 u.toNat).toNat).a 1 (u : Int).toNat) ((S.cp 3 0 2 (2000 * u).toNat (S.a 1 u.toNat).toNat).pf 2 ((S.cp 3 0 2 (2000 * u).toNat (S.a 1 u.toNat).toNat).a 1 (u : Int).toNat))).f 2)), .int (iI ((mGoOver ((S.cp 3 0 2 (2000 * u).toNat (S.a 1 u.toNat).toNat).a 1 (u : Int).toNat) ((S.cp 3 0 2 (2000 * u).toNat (S.a 1 u.toNat).toNat).pf 2 ((S.cp 3 0 2 (2000 * u).toNat (S.a 1 u.toNat).toNat).a 1 (u : Int).toNat))).f 3)), .ref (L 45), .ref (L 46), .ref (L 47), .ref (L 48), .ref (L 49), .int (iI ((mGoOver ((S.cp 3 0 2 (2000 * u).toNat (S.a 1 u.toNat).toNat).a 1 (u : Int).toNat) ((S.cp 3 0 2 (2000 * u).toNat (S.a 1 u.toNat).toNat).pf 2 ((S.cp 3 0 2 (2000 * u).toNat (S.a 1 u.toNat).toNat).a 1 (u : Int).toNat))).f 4)), .int (iI ((mGoOver ((S.cp 3 0 2 (2000 * u).toNat (S.a 1 u.toNat).toNat).a 1 (u : Int).toNat) ((S.cp 3 0 2 (2000 * u).toNat (S.a 1 u.toNat).toNat).pf 2 ((S.cp 3 0 2 (2000 * u).toNat (S.a 1 u.toNat).toNat).a 1 (u : Int).toNat))).f 5)), .int (iI ((mGoOver ((S.cp 3 0 2 (2000 * u).toNat (S.a 1 u.toNat).toNat).a 1 (u : Int).toNat) ((S.cp 3 0 2 (2000 * u).toNat (S.a 1 u.toNat).toNat).pf 2 ((S.cp 3 0 2 (2000 * u).toNat (S.a 1 u.toNat).toNat).a 1 (u : Int).toNat))).f 6)), .ref (L 50), .ref (L 51), .ref (L 52), .ref (L 53), .ref (L 54), .int (iI ((mGoOver ((S.cp 3 0 2 (2000 * u).toNat (S.a 1 u.toNat).toNat).a 1 (u : Int).toNat) ((S.cp 3 0 2 (2000 * u).toNat (S.a 1 u.toNat).toNat).pf 2 ((S.cp 3 0 2 (2000 * u).toNat (S.a 1 u.toNat).toNat).a 1 (u : Int).toNat))).f 7))])) := e11
        have hV11 : mds g L κ11 ((mGoOver ((S.cp 3 0 2 (2000 * u).toNat (S.a 1 u.toNat).toNat).a 1 (u : Int).toNat) ((S.cp 3 0 2 (2000 * u).toNat (S.a 1 u.toNat).toNat).pf 2 ((S.cp 3 0 2 (2000 * u).toNat (S.a 1 u.toNat).toNat).a 1 (u : Int).toNat))).pf 1 (S.f 1)) := mds_pf hV10 e11 hk11 (by first | omega | (split <;> omega))
        exact mw_vret hx hb hr hM hS hlocks d_Model_load_64 (by rw [show mLoad u S = (mGoOver ((S.cp 3 0 2 (2000 * u).toNat (S.a 1 u.toNat).toNat).a 1 (u : Int).toNat) ((S.cp 3 0 2 (2000 * u).toNat (S.a 1 u.toNat).toNat).pf 2 ((S.cp 3 0 2 (2000 * u).toNat (S.a 1 u.toNat).toNat).a 1 (u : Int).toNat))).pf 1 (S.f 1) by first | (exfalso; omega) | (rfl)]; exact ⟨rfl, rfl, hV11, (fun r h => by rw [hk11 r (by omega), hk10 r (by omega), hk4 r (by omega), hf1 r (by omega)])⟩)
      · refine lv_aload_n hx hb d_Model_load_17 rfl (lv_at hl 2 rfl) ?_
        refine mw_get (ci := 4) (i := 40) (v := .ref (L 44)) (C := R_Model) (T := T_Model) (N := 23) hx hb hts in_Model hown hK hM hV1.1 rfl rfl 6 (by decide) (hts _ m_551) rfl d_Model_load_18 ?_
        refine lv_iload_n hx hb d_Model_load_21 rfl (lv_at hl 0 rfl) ?_
        refine lv_aload_n hx hb d_Model_load_22 rfl (lv_at hl 2 rfl) ?_
        refine mw_get (ci := 4) (i := 40) (v := .ref (L 43)) (C := R_Model) (T := T_Model) (N := 23) hx hb hts in_Model hown hK hM hV1.1 rfl rfl 5 (by decide) (hts _ m_550) rfl d_Model_load_23 ?_
        refine lv_sipush (v := iI (2000)) hx hb d_Model_load_26 (by decide) ?_
        refine lv_iload_n hx hb d_Model_load_29 rfl (lv_at hl 3 rfl) ?_
        refine ia_mul hx hb d_Model_load_30 ?_
        refine lv_iload_n hx hb d_Model_load_31 rfl (lv_at hl 0 rfl) ?_
        refine ia_add hx hb d_Model_load_32 ?_
        refine mw_iald (n := 16000) (f := S1.a 2) (a := (2000 * u) + k) (i := 43) hx hb hK hM 1 (hV1.2.1 2 (by decide)) rfl rfl (by omega) (by decide) d_Model_load_33 ?_
        have r12 : 0 ≤ S1.a 2 ((2000 * u) + k : Int).toNat ∧ S1.a 2 ((2000 * u) + k : Int).toNat ≤ 255 := hV1.2.2.1 2 _
        refine mw_iast (n := 4400) (f := S1.a 3) (a := k) (v := S1.a 2 ((2000 * u) + k : Int).toNat) (i := 44) hx hb hK hM hS 1 (hV1.2.1 3 (by decide)) rfl rfl (by omega) (by decide) d_Model_load_34 (fun κ13 H locs e13 hk13 hM hS => ?_)
        have hV13 : mds g L κ13 (S1.st 3 ((k : Int).toNat) (S1.a 2 ((2000 * u) + k : Int).toNat)) := mds_st (k := 3) hV1 (by decide) e13 hk13 (show (0 : Int) ≤ S1.a 2 ((2000 * u) + k : Int).toNat ∧ S1.a 2 ((2000 * u) + k : Int).toNat ≤ 255 by first | omega | (split <;> omega))
        refine lv_iinc (v := iI (k + 1)) (lv' := [(3, .int (iI (k + 1))), (2, .int (iI (S.f 1))), (0, .ref (L 40)), (1, .int (iI u))]) hx hb d_Model_load_35 hl (k := 0) rfl (iI_inc _ _) (by decide) rfl (fun ls hl => ?_)
        refine lv_goto (tgt := 7) hx hb d_Model_load_38 (by decide) ?_
        exact ih (q + 1) (k + 1) (S1.st 3 ((k : Int).toNat) (S1.a 2 ((2000 * u) + k : Int).toNat)) κ13 (by omega) hV13 (fun r h => by rw [hk13 r (by omega), hf1 r (by omega)]) (by omega) (cp_stp hS1 (by omega) (by omega) (by omega)) _ _ ls hM hS (lv_sub hl [0, 1, 2, 3] rfl)
  obtain ⟨ls, hls, hl⟩ := mw_entry (m := m) [.ref (L 40), .int (iI u)] (n := 4) (Nat.le_of_ble_eq_true rfl) hargs
  refine W.eq hls ?_
  have hl : lv_has ls 4 [(0, .ref (L 40)), (1, .int (iI u))] := hl
  refine lv_aload_n hx hb d_Model_load_0 rfl (lv_at hl 0 rfl) ?_
  refine mw_get (ci := 4) (i := 40) (v := .int (iI (S.f 1))) (C := R_Model) (T := T_Model) (N := 23) hx hb hts in_Model hown hK hM hV.1 rfl rfl 3 (by decide) (hts _ m_548) rfl d_Model_load_1 ?_
  have r14 : -1000000 ≤ S.f 1 ∧ S.f 1 ≤ 1000000 := hV.2.2.2 1
  refine lv_istore_n (lv' := [(2, .int (iI (S.f 1))), (0, .ref (L 40)), (1, .int (iI u))]) hx hb d_Model_load_4 rfl hl (by decide) rfl (fun ls hl => ?_)
  refine lv_iconst (v := iI (0)) hx hb d_Model_load_5 rfl ?_
  refine lv_istore_n (lv' := [(3, .int (iI 0)), (2, .int (iI (S.f 1))), (0, .ref (L 40)), (1, .int (iI u))]) hx hb d_Model_load_6 rfl hl (by decide) rfl (fun ls hl => ?_)
  exact loop7 _ 0 0 S κ (Nat.lt_succ_self _) hV (fun r h => rfl) (by omega) cp_0.symm _ _ ls hM hS (lv_sub hl [0, 1, 2, 3] rfl)
set_option maxHeartbeats 4000000 in
set_option maxRecDepth 100000 in
theorem c_Model_store (l : Launch) (D : va_G) (g : Nat → ClassId) (lo : Nat) (L : Nat → Nat) (κ : Nat → Option va_E) (S : MS) (hV : mds g L κ S) (u : Int) (hs : 0 ≤ u ∧ u < 8) (hw : 0 ≤ S.f 2 ∧ S.f 2 ≤ 2000) : Met l y_Model_store w_Model_store ({ frames := 0, cells := 0, slots := 0, locals := 0 }) (mwP D vwCl (tyL g) lo L κ [.ref (L 40), .int (iI u)]) (mwQ D vwCl lo (mdQ g L κ none (mStore u S))) 0 0 (fun q => lo ≤ q) := by
  refine Met.ofW (cc := b_Model_store) (maxL := 3) (ret := (Option.none : Option Jvm.ClassFile.FieldType)) (by decide) rfl ?_
  intro p e s m args below meth c s₁ B hml hpre
  obtain ⟨hargs, hM, hK⟩ := hpre
  have hx := B.exec
  have hb := B.bytes
  have hr := B.returns
  have hts : ∀ w ∈ wA, w.before args s = true := fun w h => atoms_spec (ws := w_Model_store) B.pre w (List.mem_cons_of_mem _ h)
  have hown : s.vm.findClass R_Model = some m.cls := findClass_of_methodNamed B.named
  have hlocks := B.notSynchronized
  have hS : va_S (fun q => lo ≤ q) s.heap s.heap [] := va_S.rf
  have loop2 : ∀ (N : Nat) (q : Nat) (k : Int) (S1 : MS) (κ1 : Nat → Option va_E), (S.f 2 - k).toNat < N → (mds g L κ1 S1) → (∀ r, (r < 40 ∨ 54 < r) → κ1 r = κ r) → (k = q ∧ k ≤ S.f 2) → (S1 = S.cp 2 (2000 * u).toNat 3 0 q) → ∀ (H : Heap) (locs : List Loc) (ls : Array Slot), mw D vwCl lo L κ1 H → va_S (fun q => lo ≤ q) s.heap H locs → lv_has ls 3 [(2, .int (iI k)), (0, .ref (L 40)), (1, .int (iI u))] → W p l e (headSpec w_Model_store ({ frames := 0, cells := 0, slots := 0, locals := 0 })).room s m args below meth c H locs 0 0 (MQ below (mwQ D vwCl lo (mdQ g L κ none (mStore u S))) args s 0 0 (fun q => lo ≤ q)) (F0 m 2 ls []) := by
    intro N
    induction N with
    | zero => intro q k S1 κ1 hms; exact absurd hms (Nat.not_lt_zero _)
    | succ N ih =>
      intro q k S1 κ1 hms hV1 hf1 hk hS1 H locs ls hM hS hl
      have hr1 : S1.f 2 = S.f 2 := congrFun (cp_f hS1) _
      refine lv_iload_n hx hb d_Model_store_2 rfl (lv_at hl 0 rfl) ?_
      refine lv_aload_n hx hb d_Model_store_3 rfl (lv_at hl 1 rfl) ?_
      refine mw_get (ci := 4) (i := 40) (v := .int (iI (S1.f 2))) (C := R_Model) (T := T_Model) (N := 23) hx hb hts in_Model hown hK hM hV1.1 rfl rfl 7 (by decide) (hts _ m_552) rfl d_Model_store_4 ?_
      have r1 : -1000000 ≤ S1.f 2 ∧ S1.f 2 ≤ 1000000 := hV1.2.2.2 2
      refine ia_icmp_ge (a := k) (b := S1.f 2) (tgt := 34) hx hb d_Model_store_7 (by decide) (by omega) (by omega) (fun c2 => ?_) (fun c2 => ?_)
      · have hS2 : S1 = S.cp 2 (2000 * u).toNat 3 0 (S.f 2).toNat := by rw [hS1, show q = (S.f 2).toNat by omega]
        subst hS2
        refine lv_aload_n hx hb d_Model_store_34 rfl (lv_at hl 1 rfl) ?_
        refine mw_get (ci := 4) (i := 40) (v := .ref (L 42)) (C := R_Model) (T := T_Model) (N := 23) hx hb hts in_Model hown hK hM hV1.1 rfl rfl 4 (by decide) (hts _ m_549) rfl d_Model_store_35 ?_
        refine lv_iload_n hx hb d_Model_store_38 rfl (lv_at hl 2 rfl) ?_
        refine lv_aload_n hx hb d_Model_store_39 rfl (lv_at hl 1 rfl) ?_
        refine mw_get (ci := 4) (i := 40) (v := .int (iI ((S.cp 2 (2000 * u).toNat 3 0 (S.f 2).toNat).f 2))) (C := R_Model) (T := T_Model) (N := 23) hx hb hts in_Model hown hK hM hV1.1 rfl rfl 7 (by decide) (hts _ m_552) rfl d_Model_store_40 ?_
        have r3 : -1000000 ≤ (S.cp 2 (2000 * u).toNat 3 0 (S.f 2).toNat).f 2 ∧ (S.cp 2 (2000 * u).toNat 3 0 (S.f 2).toNat).f 2 ≤ 1000000 := hV1.2.2.2 2
        refine mw_iast (n := 8) (f := (S.cp 2 (2000 * u).toNat 3 0 (S.f 2).toNat).a 1) (a := u) (v := (S.cp 2 (2000 * u).toNat 3 0 (S.f 2).toNat).f 2) (i := 42) hx hb hK hM hS 1 (hV1.2.1 1 (by decide)) rfl rfl (by omega) (by decide) d_Model_store_43 (fun κ4 H locs e4 hk4 hM hS => ?_)
        have hV4 : mds g L κ4 ((S.cp 2 (2000 * u).toNat 3 0 (S.f 2).toNat).st 1 ((u : Int).toNat) ((S.cp 2 (2000 * u).toNat 3 0 (S.f 2).toNat).f 2)) := mds_st (k := 1) hV1 (by decide) e4 hk4 (show (-1000000 : Int) ≤ (S.cp 2 (2000 * u).toNat 3 0 (S.f 2).toNat).f 2 ∧ (S.cp 2 (2000 * u).toNat 3 0 (S.f 2).toNat).f 2 ≤ 1000000 by first | omega | (split <;> omega))
        exact mw_vret hx hb hr hM hS hlocks d_Model_store_44 (by rw [show mStore u S = (S.cp 2 (2000 * u).toNat 3 0 (S.f 2).toNat).st 1 ((u : Int).toNat) ((S.cp 2 (2000 * u).toNat 3 0 (S.f 2).toNat).f 2) by first | (exfalso; omega) | (rfl)]; exact ⟨rfl, rfl, hV4, (fun r h => by rw [hk4 r (by omega), hf1 r (by omega)])⟩)
      · refine lv_aload_n hx hb d_Model_store_10 rfl (lv_at hl 1 rfl) ?_
        refine mw_get (ci := 4) (i := 40) (v := .ref (L 43)) (C := R_Model) (T := T_Model) (N := 23) hx hb hts in_Model hown hK hM hV1.1 rfl rfl 5 (by decide) (hts _ m_550) rfl d_Model_store_11 ?_
        refine lv_sipush (v := iI (2000)) hx hb d_Model_store_14 (by decide) ?_
        refine lv_iload_n hx hb d_Model_store_17 rfl (lv_at hl 2 rfl) ?_
        refine ia_mul hx hb d_Model_store_18 ?_
        refine lv_iload_n hx hb d_Model_store_19 rfl (lv_at hl 0 rfl) ?_
        refine ia_add hx hb d_Model_store_20 ?_
        refine lv_aload_n hx hb d_Model_store_21 rfl (lv_at hl 1 rfl) ?_
        refine mw_get (ci := 4) (i := 40) (v := .ref (L 44)) (C := R_Model) (T := T_Model) (N := 23) hx hb hts in_Model hown hK hM hV1.1 rfl rfl 6 (by decide) (hts _ m_551) rfl d_Model_store_22 ?_
        refine lv_iload_n hx hb d_Model_store_25 rfl (lv_at hl 0 rfl) ?_
        refine mw_iald (n := 4400) (f := S1.a 3) (a := k) (i := 44) hx hb hK hM 1 (hV1.2.1 3 (by decide)) rfl rfl (by omega) (by decide) d_Model_store_26 ?_
        have r5 : 0 ≤ S1.a 3 (k : Int).toNat ∧ S1.a 3 (k : Int).toNat ≤ 255 := hV1.2.2.1 3 _
        refine mw_iast (n := 16000) (f := S1.a 2) (a := (2000 * u) + k) (v := S1.a 3 (k : Int).toNat) (i := 43) hx hb hK hM hS 1 (hV1.2.1 2 (by decide)) rfl rfl (by omega) (by decide) d_Model_store_27 (fun κ6 H locs e6 hk6 hM hS => ?_)
        have hV6 : mds g L κ6 (S1.st 2 (((2000 * u) + k : Int).toNat) (S1.a 3 (k : Int).toNat)) := mds_st (k := 2) hV1 (by decide) e6 hk6 (show (0 : Int) ≤ S1.a 3 (k : Int).toNat ∧ S1.a 3 (k : Int).toNat ≤ 255 by first | omega | (split <;> omega))
        refine lv_iinc (v := iI (k + 1)) (lv' := [(2, .int (iI (k + 1))), (0, .ref (L 40)), (1, .int (iI u))]) hx hb d_Model_store_28 hl (k := 0) rfl (iI_inc _ _) (by decide) rfl (fun ls hl => ?_)
        refine lv_goto (tgt := 2) hx hb d_Model_store_31 (by decide) ?_
        exact ih (q + 1) (k + 1) (S1.st 2 (((2000 * u) + k : Int).toNat) (S1.a 3 (k : Int).toNat)) κ6 (by omega) hV6 (fun r h => by rw [hk6 r (by omega), hf1 r (by omega)]) (by omega) (cp_stp hS1 (by omega) (by omega) (by omega)) _ _ ls hM hS (lv_sub hl [0, 1, 2] rfl)
  obtain ⟨ls, hls, hl⟩ := mw_entry (m := m) [.ref (L 40), .int (iI u)] (n := 3) (Nat.le_of_ble_eq_true rfl) hargs
  refine W.eq hls ?_
  have hl : lv_has ls 3 [(0, .ref (L 40)), (1, .int (iI u))] := hl
  refine lv_iconst (v := iI (0)) hx hb d_Model_store_0 rfl ?_
  refine lv_istore_n (lv' := [(2, .int (iI 0)), (0, .ref (L 40)), (1, .int (iI u))]) hx hb d_Model_store_1 rfl hl (by decide) rfl (fun ls hl => ?_)
  exact loop2 _ 0 0 S κ (Nat.lt_succ_self _) hV (fun r h => rfl) (by omega) cp_0.symm _ _ ls hM hS (lv_sub hl [0, 1, 2] rfl)
set_option maxHeartbeats 4000000 in
set_option maxRecDepth 100000 in
theorem c_Model_read (l : Launch) (D : va_G) (g : Nat → ClassId) (lo : Nat) (L : Nat → Nat) (κ : Nat → Option va_E) (S : MS) (hV : mds g L κ S) (u n : Int) (hu : -2147483648 ≤ u ∧ u < 2147483648) (hn : -2147483648 ≤ n ∧ n < 2147483648) (ht0 : 0 ≤ S.f 0 ∧ S.f 0 ≤ 2000) (hgood : mSlot u = true → 0 ≤ n → n ≤ S.f 0 → mGoGood 4000 (mGoS n (mRd0 n S))) (hrd2 : (0 ≤ u ∧ u < 8) → (0 ≤ n ∧ n ≤ S.f 0) → 0 ≤ (mGoOver n (mRd0 n S)).f 2 ∧ (mGoOver n (mRd0 n S)).f 2 ≤ 2000) : Met l y_Model_read w_Model_read ({ frames := 6, cells := 0, slots := 0, locals := 153 }) (mwP D vwCl (tyL g) lo L κ [.ref (L 40), .int (iI u), .int (iI n)]) (mwQ D vwCl lo (mdQ g L κ (some (.int (iI (mRead u n S).1))) (mRead u n S).2)) 0 0 (fun q => lo ≤ q) := by
  refine Met.ofW (cc := b_Model_read) (maxL := 4) (ret := (Option.some Jvm.ClassFile.FieldType.int)) (by decide) rfl ?_
  intro p e s m args below meth c s₁ B hml hpre
  obtain ⟨hargs, hM, hK⟩ := hpre
  have hx := B.exec
  have hb := B.bytes
  have hr := B.returns
  have hts : ∀ w ∈ wA, w.before args s = true := fun w h => atoms_spec (ws := w_Model_read) B.pre w (List.mem_cons_of_mem _ h)
  have hown : s.vm.findClass R_Model = some m.cls := findClass_of_methodNamed B.named
  have hlocks := B.notSynchronized
  have hS : va_S (fun q => lo ≤ q) s.heap s.heap [] := va_S.rf
  have loop23 : ∀ (N : Nat) (q : Nat) (k : Int) (S1 : MS) (κ1 : Nat → Option va_E), (n - k).toNat < N → (mds g L κ1 S1) → (∀ r, (r < 40 ∨ 54 < r) → κ1 r = κ r) → (k = q ∧ k ≤ n) → (S1 = S.cp 3 0 0 0 q) → (mSlot u = true ∧ 0 ≤ n ∧ n ≤ S.f 0) → ∀ (H : Heap) (locs : List Loc) (ls : Array Slot), mw D vwCl lo L κ1 H → va_S (fun q => lo ≤ q) s.heap H locs → lv_has ls 4 [(3, .int (iI k)), (0, .ref (L 40)), (1, .int (iI u)), (2, .int (iI n))] → W p l e (headSpec w_Model_read ({ frames := 6, cells := 0, slots := 0, locals := 153 })).room s m args below meth c H locs 0 0 (MQ below (mwQ D vwCl lo (mdQ g L κ (some (.int (iI (mRead u n S).1))) (mRead u n S).2)) args s 0 0 (fun q => lo ≤ q)) (F0 m 23 ls []) := by
    intro N
    induction N with
    | zero => intro q k S1 κ1 hms; exact absurd hms (Nat.not_lt_zero _)
    | succ N ih =>
      intro q k S1 κ1 hms hV1 hf1 hk hS1 hg1 H locs ls hM hS hl
      refine lv_iload_n hx hb d_Model_read_23 rfl (lv_at hl 0 rfl) ?_
      refine lv_iload_n hx hb d_Model_read_24 rfl (lv_at hl 3 rfl) ?_
      refine ia_icmp_ge (a := k) (b := n) (tgt := 46) hx hb d_Model_read_25 (by decide) (by omega) (by omega) (fun c1 => ?_) (fun c1 => ?_)
      · have hS2 : S1 = S.cp 3 0 0 0 (n).toNat := by rw [hS1, show q = (n).toNat by omega]
        subst hS2
        refine lv_aload_n hx hb d_Model_read_46 rfl (lv_at hl 1 rfl) ?_
        refine lv_iload_n hx hb d_Model_read_47 rfl (lv_at hl 3 rfl) ?_
        refine mw_put (ci := 4) (i := 40) (v := .int (iI n)) (C := R_Model) (T := T_Model) (N := 23) hx hb hts in_Model ty_Model ty_Model_ok nm_Model hown hK hM hS hV1.1 rfl rfl 7 (by decide) (hts _ m_552) rfl (ty_Model_ok 7 (by decide)) rfl rfl (Nat.le_of_ble_eq_true rfl) d_Model_read_48 (fun κ2 H locs e2 hk2 hM hS => ?_)
        have e2 : κ2 40 = some (.inr (4, [.int (iI ((S.cp 3 0 0 0 (n).toNat).f 8)), .ref (L 41), .int (iI ((S.cp 3 0 0 0 (n).toNat).f 0)), .int (iI ((S.cp 3 0 0 0 (n).toNat).f 1)), .ref (L 42), .ref (L 43), .ref (L 44), .int (iI n), .int (iI ((S.cp 3 0 0 0 (n).toNat).f 3)), .ref (L 45), .ref (L 46), .ref (L 47), .ref (L 48), .ref (L 49), .int (iI ((S.cp 3 0 0 0 (n).toNat).f 4)), .int (iI ((S.cp 3 0 0 0 (n).toNat).f 5)), .int (iI ((S.cp 3 0 0 0 (n).toNat).f 6)), .ref (L 50), .ref (L 51), .ref (L 52), .ref (L 53), .ref (L 54), .int (iI ((S.cp 3 0 0 0 (n).toNat).f 7))])) := e2
        have hV2 : mds g L κ2 ((S.cp 3 0 0 0 (n).toNat).pf 2 n) := mds_pf hV1 e2 hk2 (by first | omega | (split <;> omega))
        refine lv_aload_n hx hb d_Model_read_51 rfl (lv_at hl 1 rfl) ?_
        refine lv_iconst (v := iI (0)) hx hb d_Model_read_52 rfl ?_
        refine mw_put (ci := 4) (i := 40) (v := .int (iI 0)) (C := R_Model) (T := T_Model) (N := 23) hx hb hts in_Model ty_Model ty_Model_ok nm_Model hown hK hM hS hV2.1 rfl rfl 2 (by decide) (hts _ m_547) rfl (ty_Model_ok 2 (by decide)) rfl rfl (Nat.le_of_ble_eq_true rfl) d_Model_read_53 (fun κ3 H locs e3 hk3 hM hS => ?_)
        have e3 : κ3 40 = some (.inr (4, [.int (iI ((S.cp 3 0 0 0 (n).toNat).f 8)), .ref (L 41), .int (iI 0), .int (iI ((S.cp 3 0 0 0 (n).toNat).f 1)), .ref (L 42), .ref (L 43), .ref (L 44), .int (iI n), .int (iI ((S.cp 3 0 0 0 (n).toNat).f 3)), .ref (L 45), .ref (L 46), .ref (L 47), .ref (L 48), .ref (L 49), .int (iI ((S.cp 3 0 0 0 (n).toNat).f 4)), .int (iI ((S.cp 3 0 0 0 (n).toNat).f 5)), .int (iI ((S.cp 3 0 0 0 (n).toNat).f 6)), .ref (L 50), .ref (L 51), .ref (L 52), .ref (L 53), .ref (L 54), .int (iI ((S.cp 3 0 0 0 (n).toNat).f 7))])) := e3
        have hV3 : mds g L κ3 (((S.cp 3 0 0 0 (n).toNat).pf 2 n).pf 0 0) := mds_pf hV2 e3 hk3 (by first | omega | (split <;> omega))
        refine lv_aload_n hx hb d_Model_read_56 rfl (lv_at hl 1 rfl) ?_
        refine lv_iload_n hx hb d_Model_read_57 rfl (lv_at hl 3 rfl) ?_
        have r4 : (((S.cp 3 0 0 0 (n).toNat).pf 2 n).pf 0 0).f 0 = 0 := rfl
        have r5 : (((S.cp 3 0 0 0 (n).toNat).pf 2 n).pf 0 0).f 2 = n := rfl
        have r6 : (((S.cp 3 0 0 0 (n).toNat).pf 2 n).pf 0 0).f 3 = (S.cp 3 0 0 0 (n).toNat).f 3 := rfl
        have r7 : (((S.cp 3 0 0 0 (n).toNat).pf 2 n).pf 0 0).f 7 = (S.cp 3 0 0 0 (n).toNat).f 7 := rfl
        refine mw_callV (i := 40) (As := [.int (iI n)]) (rest := []) ⟨hx, hb, hml, hown, hts⟩ hK hM hS rfl hV3.1 rfl (c_Model_goOver l D g lo L κ3 (((S.cp 3 0 0 0 (n).toNat).pf 2 n).pf 0 0) hV3 n (by omega) (hgood hg1.1 (by omega) (by omega))) (cwV 1 hts (gV m_630 m_632 m_18 m_58 m_633) rfl rfl rfl (by decide +kernel) ⟨Nat.le_of_ble_eq_true rfl, Nat.le_of_ble_eq_true rfl⟩) rfl hl.1 rfl (Nat.le_of_ble_eq_true rfl) d_Model_read_58 ⟨Nat.le_of_ble_eq_true rfl, Nat.le_of_ble_eq_true rfl⟩ (fun v8 L8 κ8 H locs hp8 hM hS => ?_)
        obtain ⟨rfl, rfl, hV8, hk8⟩ := hp8
        refine lv_aload_n hx hb d_Model_read_61 rfl (lv_at hl 1 rfl) ?_
        refine mw_get (ci := 4) (i := 40) (v := .int (iI ((mGoOver n (((S.cp 3 0 0 0 (n).toNat).pf 2 n).pf 0 0)).f 5))) (C := R_Model) (T := T_Model) (N := 23) hx hb hts in_Model hown hK hM hV8.1 rfl rfl 15 (by decide) (hts _ m_560) rfl d_Model_read_62 ?_
        have r9 : -1000000 ≤ (mGoOver n (((S.cp 3 0 0 0 (n).toNat).pf 2 n).pf 0 0)).f 5 ∧ (mGoOver n (((S.cp 3 0 0 0 (n).toNat).pf 2 n).pf 0 0)).f 5 ≤ 1000000 := hV8.2.2.2 5
        refine ia_if_ne (a := (mGoOver n (((S.cp 3 0 0 0 (n).toNat).pf 2 n).pf 0 0)).f 5) (tgt := 73) hx hb d_Model_read_65 (by decide) (by omega) (fun c10 => ?_) (fun c10 => ?_)
        · refine lv_aload_n hx hb d_Model_read_73 rfl (lv_at hl 1 rfl) ?_
          refine mw_get (ci := 4) (i := 40) (v := .int (iI ((mGoOver n (((S.cp 3 0 0 0 (n).toNat).pf 2 n).pf 0 0)).f 5))) (C := R_Model) (T := T_Model) (N := 23) hx hb hts in_Model hown hK hM hV8.1 rfl rfl 15 (by decide) (hts _ m_560) rfl d_Model_read_74 ?_
          have r11 : -1000000 ≤ (mGoOver n (((S.cp 3 0 0 0 (n).toNat).pf 2 n).pf 0 0)).f 5 ∧ (mGoOver n (((S.cp 3 0 0 0 (n).toNat).pf 2 n).pf 0 0)).f 5 ≤ 1000000 := hV8.2.2.2 5
          exact mw_iret hx hb hr hM hS hlocks d_Model_read_77 (by rw [show mRead u n S = ((mGoOver n (((S.cp 3 0 0 0 (n).toNat).pf 2 n).pf 0 0)).f 5, mGoOver n (((S.cp 3 0 0 0 (n).toNat).pf 2 n).pf 0 0)) by first | (exfalso; omega) | (unfold mRead; rw [if_neg (by rintro (z | z); exact absurd hg1.1 (zne z); omega)]; unfold mRd0; (first | (exfalso; omega) | (repeat (first | rw [if_pos (by first | assumption | omega)] | rw [if_neg (by first | assumption | exact zne (by assumption) | omega)]))))]; exact ⟨rfl, rfl, hV8, (fun r h => by rw [hk8 r (by omega), hk3 r (by omega), hk2 r (by omega), hf1 r (by omega)])⟩)
        · refine lv_aload_n hx hb d_Model_read_68 rfl (lv_at hl 1 rfl) ?_
          refine lv_iload_n hx hb d_Model_read_69 rfl (lv_at hl 2 rfl) ?_
          have hw2 := hrd2 (mSlot_iff.mp hg1.1) (by omega)
          refine mw_callV (i := 40) (As := [.int (iI u)]) (rest := []) ⟨hx, hb, hml, hown, hts⟩ hK hM hS rfl hV8.1 rfl (c_Model_store l D g lo L κ8 (mGoOver n (((S.cp 3 0 0 0 (n).toNat).pf 2 n).pf 0 0)) hV8 u (mSlot_iff.mp hg1.1) hw2) (cwV 1 hts (gV m_686 m_688 m_27 m_58 m_689) rfl rfl rfl (by decide +kernel) ⟨Nat.le_of_ble_eq_true rfl, Nat.le_of_ble_eq_true rfl⟩) rfl hl.1 rfl (Nat.le_of_ble_eq_true rfl) d_Model_read_70 ⟨Nat.le_of_ble_eq_true rfl, Nat.le_of_ble_eq_true rfl⟩ (fun v12 L12 κ12 H locs hp12 hM hS => ?_)
          obtain ⟨rfl, rfl, hV12, hk12⟩ := hp12
          refine lv_aload_n hx hb d_Model_read_73 rfl (lv_at hl 1 rfl) ?_
          refine mw_get (ci := 4) (i := 40) (v := .int (iI ((mStore u (mGoOver n (((S.cp 3 0 0 0 (n).toNat).pf 2 n).pf 0 0))).f 5))) (C := R_Model) (T := T_Model) (N := 23) hx hb hts in_Model hown hK hM hV12.1 rfl rfl 15 (by decide) (hts _ m_560) rfl d_Model_read_74 ?_
          have r13 : -1000000 ≤ (mStore u (mGoOver n (((S.cp 3 0 0 0 (n).toNat).pf 2 n).pf 0 0))).f 5 ∧ (mStore u (mGoOver n (((S.cp 3 0 0 0 (n).toNat).pf 2 n).pf 0 0))).f 5 ≤ 1000000 := hV12.2.2.2 5
          exact mw_iret hx hb hr hM hS hlocks d_Model_read_77 (by rw [show mRead u n S = ((mStore u (mGoOver n (((S.cp 3 0 0 0 (n).toNat).pf 2 n).pf 0 0))).f 5, mStore u (mGoOver n (((S.cp 3 0 0 0 (n).toNat).pf 2 n).pf 0 0))) by first | (exfalso; omega) | (unfold mRead; rw [if_neg (by rintro (z | z); exact absurd hg1.1 (zne z); omega)]; unfold mRd0; (first | (exfalso; omega) | (repeat (first | rw [if_pos (by first | assumption | omega)] | rw [if_neg (by first | assumption | exact zne (by assumption) | omega)]))))]; exact ⟨rfl, rfl, hV12, (fun r h => by rw [hk12 r (by omega), hk8 r (by omega), hk3 r (by omega), hk2 r (by omega), hf1 r (by omega)])⟩)
      · refine lv_aload_n hx hb d_Model_read_28 rfl (lv_at hl 1 rfl) ?_
        refine mw_get (ci := 4) (i := 40) (v := .ref (L 44)) (C := R_Model) (T := T_Model) (N := 23) hx hb hts in_Model hown hK hM hV1.1 rfl rfl 6 (by decide) (hts _ m_551) rfl d_Model_read_29 ?_
        refine lv_iload_n hx hb d_Model_read_32 rfl (lv_at hl 0 rfl) ?_
        refine lv_aload_n hx hb d_Model_read_33 rfl (lv_at hl 1 rfl) ?_
        refine mw_get (ci := 4) (i := 40) (v := .ref (L 41)) (C := R_Model) (T := T_Model) (N := 23) hx hb hts in_Model hown hK hM hV1.1 rfl rfl 1 (by decide) (hts _ m_546) rfl d_Model_read_34 ?_
        refine lv_iload_n hx hb d_Model_read_37 rfl (lv_at hl 0 rfl) ?_
        refine mw_iald (n := 2000) (f := S1.a 0) (a := k) (i := 41) hx hb hK hM 1 (hV1.2.1 0 (by decide)) rfl rfl (by omega) (by decide) d_Model_read_38 ?_
        have r14 : 0 ≤ S1.a 0 (k : Int).toNat ∧ S1.a 0 (k : Int).toNat ≤ 255 := hV1.2.2.1 0 _
        refine mw_iast (n := 4400) (f := S1.a 3) (a := k) (v := S1.a 0 (k : Int).toNat) (i := 44) hx hb hK hM hS 1 (hV1.2.1 3 (by decide)) rfl rfl (by omega) (by decide) d_Model_read_39 (fun κ15 H locs e15 hk15 hM hS => ?_)
        have hV15 : mds g L κ15 (S1.st 3 ((k : Int).toNat) (S1.a 0 (k : Int).toNat)) := mds_st (k := 3) hV1 (by decide) e15 hk15 (show (0 : Int) ≤ S1.a 0 (k : Int).toNat ∧ S1.a 0 (k : Int).toNat ≤ 255 by first | omega | (split <;> omega))
        refine lv_iinc (v := iI (k + 1)) (lv' := [(3, .int (iI (k + 1))), (0, .ref (L 40)), (1, .int (iI u)), (2, .int (iI n))]) hx hb d_Model_read_40 hl (k := 0) rfl (iI_inc _ _) (by decide) rfl (fun ls hl => ?_)
        refine lv_goto (tgt := 23) hx hb d_Model_read_43 (by decide) ?_
        exact ih (q + 1) (k + 1) (S1.st 3 ((k : Int).toNat) (S1.a 0 (k : Int).toNat)) κ15 (by omega) hV15 (fun r h => by rw [hk15 r (by omega), hf1 r (by omega)]) (by omega) (cp_stp hS1 (by omega) (by omega) (by omega)) hg1 _ _ ls hM hS (lv_sub hl [0, 1, 2, 3] rfl)
  obtain ⟨ls, hls, hl⟩ := mw_entry (m := m) [.ref (L 40), .int (iI u), .int (iI n)] (n := 4) (Nat.le_of_ble_eq_true rfl) hargs
  refine W.eq hls ?_
  have hl : lv_has ls 4 [(0, .ref (L 40)), (1, .int (iI u)), (2, .int (iI n))] := hl
  refine lv_iload_n hx hb d_Model_read_0 rfl (lv_at hl 1 rfl) ?_
  refine mw_rdS (As := [.int (iI u)]) (rest := []) ⟨hx, hb, hml, hown, hts⟩ hK hM hS (c_Model_isSlot l D g lo L κ u (by omega)) (cwS 1 hts (gS m_627 m_628 m_58 m_629) rfl rfl rfl (by decide +kernel) ⟨Nat.le_of_ble_eq_true rfl, Nat.le_of_ble_eq_true rfl⟩) rfl hl.1 rfl (Nat.le_of_ble_eq_true rfl) d_Model_read_1 ⟨Nat.le_of_ble_eq_true rfl, Nat.le_of_ble_eq_true rfl⟩ (fun H locs hM hS => ?_)
  refine ia_ifz_eq (x := mSlot u) (tgt := 19) hx hb d_Model_read_4 (by decide) (fun c16 => ?_) (fun c16 => ?_)
  · refine lv_iconst (v := iI (-1)) hx hb d_Model_read_19 rfl ?_
    exact mw_iret hx hb hr hM hS hlocks d_Model_read_20 (by rw [show mRead u n S = (-1, S) by first | (exfalso; omega) | (unfold mRead; rw [if_pos (by first | exact Or.inl (by assumption) | exact Or.inr (by omega))])]; exact ⟨rfl, rfl, hV, (fun r h => rfl)⟩)
  · refine lv_iload_n hx hb d_Model_read_7 rfl (lv_at hl 2 rfl) ?_
    refine ia_if_lt (a := n) (tgt := 19) hx hb d_Model_read_8 (by decide) (by omega) (fun c17 => ?_) (fun c17 => ?_)
    · refine lv_iconst (v := iI (-1)) hx hb d_Model_read_19 rfl ?_
      exact mw_iret hx hb hr hM hS hlocks d_Model_read_20 (by rw [show mRead u n S = (-1, S) by first | (exfalso; omega) | (unfold mRead; rw [if_pos (by first | exact Or.inl (by assumption) | exact Or.inr (by omega))])]; exact ⟨rfl, rfl, hV, (fun r h => rfl)⟩)
    · refine lv_iload_n hx hb d_Model_read_11 rfl (lv_at hl 2 rfl) ?_
      refine lv_aload_n hx hb d_Model_read_12 rfl (lv_at hl 0 rfl) ?_
      refine mw_get (ci := 4) (i := 40) (v := .int (iI (S.f 0))) (C := R_Model) (T := T_Model) (N := 23) hx hb hts in_Model hown hK hM hV.1 rfl rfl 2 (by decide) (hts _ m_547) rfl d_Model_read_13 ?_
      have r18 : -1000000 ≤ S.f 0 ∧ S.f 0 ≤ 1000000 := hV.2.2.2 0
      refine ia_icmp_le (a := n) (b := S.f 0) (tgt := 21) hx hb d_Model_read_16 (by decide) (by omega) (by omega) (fun c19 => ?_) (fun c19 => ?_)
      · refine lv_iconst (v := iI (0)) hx hb d_Model_read_21 rfl ?_
        refine lv_istore_n (lv' := [(3, .int (iI 0)), (0, .ref (L 40)), (1, .int (iI u)), (2, .int (iI n))]) hx hb d_Model_read_22 rfl hl (by decide) rfl (fun ls hl => ?_)
        exact loop23 _ 0 0 S κ (Nat.lt_succ_self _) hV (fun r h => rfl) (by omega) cp_0.symm ⟨by assumption, by omega, by omega⟩ _ _ ls hM hS (lv_sub hl [0, 1, 2, 3] rfl)
      · refine lv_iconst (v := iI (-1)) hx hb d_Model_read_19 rfl ?_
        exact mw_iret hx hb hr hM hS hlocks d_Model_read_20 (by rw [show mRead u n S = (-1, S) by first | (exfalso; omega) | (unfold mRead; rw [if_pos (by first | exact Or.inl (by assumption) | exact Or.inr (by omega))])]; exact ⟨rfl, rfl, hV, (fun r h => rfl)⟩)
set_option maxHeartbeats 4000000 in
set_option maxRecDepth 100000 in
theorem c_Model_place (l : Launch) (D : va_G) (g : Nat → ClassId) (lo : Nat) (L : Nat → Nat) (κ : Nat → Option va_E) (S : MS) (hV : mds g L κ S) : Met l y_Model_place w_Model_place ({ frames := 0, cells := 0, slots := 0, locals := 0 }) (mwP D vwCl (tyL g) lo L κ [.ref (L 40)]) (mwQ D vwCl lo (mwR (some (.int (iI (S.f 1)))) L κ)) 0 0 (fun q => lo ≤ q) := by
  refine Met.ofW (cc := b_Model_place) (maxL := 1) (ret := (Option.some Jvm.ClassFile.FieldType.int)) (by decide) rfl ?_
  intro p e s m args below meth c s₁ B hml hpre
  obtain ⟨hargs, hM, hK⟩ := hpre
  have hx := B.exec
  have hb := B.bytes
  have hr := B.returns
  have hts : ∀ w ∈ wA, w.before args s = true := fun w h => atoms_spec (ws := w_Model_place) B.pre w (List.mem_cons_of_mem _ h)
  have hown : s.vm.findClass R_Model = some m.cls := findClass_of_methodNamed B.named
  have hlocks := B.notSynchronized
  have hS : va_S (fun q => lo ≤ q) s.heap s.heap [] := va_S.rf
  obtain ⟨ls, hls, hl⟩ := mw_entry (m := m) [.ref (L 40)] (n := 1) (Nat.le_of_ble_eq_true rfl) hargs
  refine W.eq hls ?_
  have hl : lv_has ls 1 [(0, .ref (L 40))] := hl
  refine lv_aload_n hx hb d_Model_place_0 rfl (lv_at hl 0 rfl) ?_
  refine mw_get (ci := 4) (i := 40) (v := .int (iI (S.f 1))) (C := R_Model) (T := T_Model) (N := 23) hx hb hts in_Model hown hK hM hV.1 rfl rfl 3 (by decide) (hts _ m_548) rfl d_Model_place_1 ?_
  have r1 : -1000000 ≤ S.f 1 ∧ S.f 1 ≤ 1000000 := hV.2.2.2 1
  exact mw_iret hx hb hr hM hS hlocks d_Model_place_4 (mwR_i (by rfl))
set_option maxHeartbeats 4000000 in
set_option maxRecDepth 100000 in
theorem c_Model_many (l : Launch) (D : va_G) (g : Nat → ClassId) (lo : Nat) (L : Nat → Nat) (κ : Nat → Option va_E) (S : MS) (hV : mds g L κ S) (u w : Int) (hu : -2147483648 ≤ u ∧ u < 2147483648) (hw : -2147483648 ≤ w ∧ w < 2147483648) (hL : mLdOK u S) (hz : mSzs S) : Met l y_Model_many w_Model_many ({ frames := 7, cells := 0, slots := 0, locals := 176 }) (mwP D vwCl (tyL g) lo L κ [.ref (L 40), .int (iI u), .int (iI w)]) (mwQ D vwCl lo (mdQ g L κ (some (.int (iI (mMany u w S).1))) (mMany u w S).2)) 0 0 (fun q => lo ≤ q) := by
  refine Met.ofW (cc := b_Model_many) (maxL := 3) (ret := (Option.some Jvm.ClassFile.FieldType.int)) (by decide) rfl ?_
  intro p e s m args below meth c s₁ B hml hpre
  obtain ⟨hargs, hM, hK⟩ := hpre
  have hx := B.exec
  have hb := B.bytes
  have hr := B.returns
  have hts : ∀ w ∈ wA, w.before args s = true := fun w h => atoms_spec (ws := w_Model_many) B.pre w (List.mem_cons_of_mem _ h)
  have hown : s.vm.findClass R_Model = some m.cls := findClass_of_methodNamed B.named
  have hlocks := B.notSynchronized
  have hS : va_S (fun q => lo ≤ q) s.heap s.heap [] := va_S.rf
  obtain ⟨ls, hls, hl⟩ := mw_entry (m := m) [.ref (L 40), .int (iI u), .int (iI w)] (n := 3) (Nat.le_of_ble_eq_true rfl) hargs
  refine W.eq hls ?_
  have hl : lv_has ls 3 [(0, .ref (L 40)), (1, .int (iI u)), (2, .int (iI w))] := hl
  refine lv_iload_n hx hb d_Model_many_0 rfl (lv_at hl 1 rfl) ?_
  refine mw_rdS (As := [.int (iI u)]) (rest := []) ⟨hx, hb, hml, hown, hts⟩ hK hM hS (c_Model_isSlot l D g lo L κ u (by omega)) (cwS 1 hts (gS m_627 m_628 m_58 m_629) rfl rfl rfl (by decide +kernel) ⟨Nat.le_of_ble_eq_true rfl, Nat.le_of_ble_eq_true rfl⟩) rfl hl.1 rfl (Nat.le_of_ble_eq_true rfl) d_Model_many_1 ⟨Nat.le_of_ble_eq_true rfl, Nat.le_of_ble_eq_true rfl⟩ (fun H locs hM hS => ?_)
  refine ia_ifz_eq (x := mSlot u) (tgt := 16) hx hb d_Model_many_4 (by decide) (fun c1 => ?_) (fun c1 => ?_)
  · refine lv_iconst (v := iI (-1)) hx hb d_Model_many_16 rfl ?_
    exact mw_iret hx hb hr hM hS hlocks d_Model_many_17 (by rw [show mMany u w S = (-1, S) by first | (exfalso; omega) | (unfold mMany; rw [if_pos (by first | exact Or.inl (by assumption) | exact Or.inr (by omega))])]; exact ⟨rfl, rfl, hV, (fun r h => rfl)⟩)
  · refine lv_iload_n hx hb d_Model_many_7 rfl (lv_at hl 2 rfl) ?_
    refine ia_if_lt (a := w) (tgt := 16) hx hb d_Model_many_8 (by decide) (by omega) (fun c2 => ?_) (fun c2 => ?_)
    · refine lv_iconst (v := iI (-1)) hx hb d_Model_many_16 rfl ?_
      exact mw_iret hx hb hr hM hS hlocks d_Model_many_17 (by rw [show mMany u w S = (-1, S) by first | (exfalso; omega) | (unfold mMany; rw [if_pos (by first | exact Or.inl (by assumption) | exact Or.inr (by omega))])]; exact ⟨rfl, rfl, hV, (fun r h => rfl)⟩)
    · refine lv_iload_n hx hb d_Model_many_11 rfl (lv_at hl 2 rfl) ?_
      refine lv_iconst (v := iI (2)) hx hb d_Model_many_12 rfl ?_
      refine ia_icmp_le (a := w) (b := 2) (tgt := 18) hx hb d_Model_many_13 (by decide) (by omega) (by omega) (fun c3 => ?_) (fun c3 => ?_)
      · have hs := mSlot_iff.mp (show mSlot u = true by assumption)
        refine lv_aload_n hx hb d_Model_many_18 rfl (lv_at hl 0 rfl) ?_
        refine lv_iload_n hx hb d_Model_many_19 rfl (lv_at hl 1 rfl) ?_
        refine mw_callV (i := 40) (As := [.int (iI u)]) (rest := []) ⟨hx, hb, hml, hown, hts⟩ hK hM hS rfl hV.1 rfl (c_Model_load l D g lo L κ S hV u (by omega) hL hz) (cwV 1 hts (gV m_698 m_700 m_28 m_58 m_701) rfl rfl rfl (by decide +kernel) ⟨Nat.le_of_ble_eq_true rfl, Nat.le_of_ble_eq_true rfl⟩) rfl hl.1 rfl (Nat.le_of_ble_eq_true rfl) d_Model_many_20 ⟨Nat.le_of_ble_eq_true rfl, Nat.le_of_ble_eq_true rfl⟩ (fun v4 L4 κ4 H locs hp4 hM hS => ?_)
        obtain ⟨rfl, rfl, hV4, hk4⟩ := hp4
        refine lv_iload_n hx hb d_Model_many_23 rfl (lv_at hl 2 rfl) ?_
        refine ia_if_ne (a := w) (tgt := 36) hx hb d_Model_many_24 (by decide) (by omega) (fun c5 => ?_) (fun c5 => ?_)
        · refine lv_iload_n hx hb d_Model_many_36 rfl (lv_at hl 2 rfl) ?_
          refine lv_iconst (v := iI (1)) hx hb d_Model_many_37 rfl ?_
          refine ia_icmp_ne (a := w) (b := 1) (tgt := 48) hx hb d_Model_many_38 (by decide) (by omega) (by omega) (fun c6 => ?_) (fun c6 => ?_)
          · refine lv_aload_n hx hb d_Model_many_48 rfl (lv_at hl 0 rfl) ?_
            refine mw_get (ci := 4) (i := 40) (v := .int (iI ((mLoad u S).f 4))) (C := R_Model) (T := T_Model) (N := 23) hx hb hts in_Model hown hK hM hV4.1 rfl rfl 14 (by decide) (hts _ m_559) rfl d_Model_many_49 ?_
            have r7 : -1000000 ≤ (mLoad u S).f 4 ∧ (mLoad u S).f 4 ≤ 1000000 := hV4.2.2.2 4
            exact mw_iret hx hb hr hM hS hlocks d_Model_many_52 (by rw [show mMany u w S = ((mLoad u S).f 4, mLoad u S) by first | (exfalso; omega) | (unfold mMany; rw [if_neg (by rintro (z | z); exact absurd (show mSlot u = true by assumption) (zne z); omega)]; (first | (exfalso; omega) | (repeat (first | rw [if_pos (by first | assumption | omega)] | rw [if_neg (by first | assumption | exact zne (by assumption) | omega)]))))]; exact ⟨rfl, rfl, hV4, (fun r h => by rw [hk4 r (by omega)])⟩)
          · refine lv_aload_n hx hb d_Model_many_41 rfl (lv_at hl 0 rfl) ?_
            refine mw_get (ci := 4) (i := 40) (v := .int (iI ((mLoad u S).f 3))) (C := R_Model) (T := T_Model) (N := 23) hx hb hts in_Model hown hK hM hV4.1 rfl rfl 8 (by decide) (hts _ m_553) rfl d_Model_many_42 ?_
            have r8 : -1000000 ≤ (mLoad u S).f 3 ∧ (mLoad u S).f 3 ≤ 1000000 := hV4.2.2.2 3
            refine lv_goto (tgt := 52) hx hb d_Model_many_45 (by decide) ?_
            exact mw_iret hx hb hr hM hS hlocks d_Model_many_52 (by rw [show mMany u w S = ((mLoad u S).f 3, mLoad u S) by first | (exfalso; omega) | (unfold mMany; rw [if_neg (by rintro (z | z); exact absurd (show mSlot u = true by assumption) (zne z); omega)]; (first | (exfalso; omega) | (repeat (first | rw [if_pos (by first | assumption | omega)] | rw [if_neg (by first | assumption | exact zne (by assumption) | omega)]))))]; exact ⟨rfl, rfl, hV4, (fun r h => by rw [hk4 r (by omega)])⟩)
        · refine lv_aload_n hx hb d_Model_many_27 rfl (lv_at hl 0 rfl) ?_
          refine mw_get (ci := 4) (i := 40) (v := .ref (L 42)) (C := R_Model) (T := T_Model) (N := 23) hx hb hts in_Model hown hK hM hV4.1 rfl rfl 4 (by decide) (hts _ m_549) rfl d_Model_many_28 ?_
          refine lv_iload_n hx hb d_Model_many_31 rfl (lv_at hl 1 rfl) ?_
          refine mw_iald (n := 8) (f := (mLoad u S).a 1) (a := u) (i := 42) hx hb hK hM 1 (hV4.2.1 1 (by decide)) rfl rfl (by omega) (by decide) d_Model_many_32 ?_
          have r9 : -1000000 ≤ (mLoad u S).a 1 (u : Int).toNat ∧ (mLoad u S).a 1 (u : Int).toNat ≤ 1000000 := hV4.2.2.1 1 _
          refine lv_goto (tgt := 52) hx hb d_Model_many_33 (by decide) ?_
          exact mw_iret hx hb hr hM hS hlocks d_Model_many_52 (by rw [show mMany u w S = ((mLoad u S).a 1 (u : Int).toNat, mLoad u S) by first | (exfalso; omega) | (unfold mMany; rw [if_neg (by rintro (z | z); exact absurd (show mSlot u = true by assumption) (zne z); omega)]; (first | (exfalso; omega) | (repeat (first | rw [if_pos (by first | assumption | omega)] | rw [if_neg (by first | assumption | exact zne (by assumption) | omega)]))))]; exact ⟨rfl, rfl, hV4, (fun r h => by rw [hk4 r (by omega)])⟩)
      · refine lv_iconst (v := iI (-1)) hx hb d_Model_many_16 rfl ?_
        exact mw_iret hx hb hr hM hS hlocks d_Model_many_17 (by rw [show mMany u w S = (-1, S) by first | (exfalso; omega) | (unfold mMany; rw [if_pos (by first | exact Or.inl (by assumption) | exact Or.inr (by omega))])]; exact ⟨rfl, rfl, hV, (fun r h => rfl)⟩)
set_option maxHeartbeats 4000000 in
set_option maxRecDepth 100000 in
theorem c_Model_byteAt (l : Launch) (D : va_G) (g : Nat → ClassId) (lo : Nat) (L : Nat → Nat) (κ : Nat → Option va_E) (S : MS) (hV : mds g L κ S) (u i : Int) (hu : -2147483648 ≤ u ∧ u < 2147483648) (hi : -2147483648 ≤ i ∧ i < 2147483648) (hz : mSzs S) : Met l y_Model_byteAt w_Model_byteAt ({ frames := 1, cells := 0, slots := 0, locals := 20 }) (mwP D vwCl (tyL g) lo L κ [.ref (L 40), .int (iI u), .int (iI i)]) (mwQ D vwCl lo (mwR (some (.int (iI (mByteAt u i S)))) L κ)) 0 0 (fun q => lo ≤ q) := by
  refine Met.ofW (cc := b_Model_byteAt) (maxL := 3) (ret := (Option.some Jvm.ClassFile.FieldType.int)) (by decide) rfl ?_
  intro p e s m args below meth c s₁ B hml hpre
  obtain ⟨hargs, hM, hK⟩ := hpre
  have hx := B.exec
  have hb := B.bytes
  have hr := B.returns
  have hts : ∀ w ∈ wA, w.before args s = true := fun w h => atoms_spec (ws := w_Model_byteAt) B.pre w (List.mem_cons_of_mem _ h)
  have hown : s.vm.findClass R_Model = some m.cls := findClass_of_methodNamed B.named
  have hlocks := B.notSynchronized
  have hS : va_S (fun q => lo ≤ q) s.heap s.heap [] := va_S.rf
  obtain ⟨ls, hls, hl⟩ := mw_entry (m := m) [.ref (L 40), .int (iI u), .int (iI i)] (n := 3) (Nat.le_of_ble_eq_true rfl) hargs
  refine W.eq hls ?_
  have hl : lv_has ls 3 [(0, .ref (L 40)), (1, .int (iI u)), (2, .int (iI i))] := hl
  refine lv_iload_n hx hb d_Model_byteAt_0 rfl (lv_at hl 1 rfl) ?_
  refine mw_rdS (As := [.int (iI u)]) (rest := []) ⟨hx, hb, hml, hown, hts⟩ hK hM hS (c_Model_isSlot l D g lo L κ u (by omega)) (cwS 1 hts (gS m_627 m_628 m_58 m_629) rfl rfl rfl (by decide +kernel) ⟨Nat.le_of_ble_eq_true rfl, Nat.le_of_ble_eq_true rfl⟩) rfl hl.1 rfl (Nat.le_of_ble_eq_true rfl) d_Model_byteAt_1 ⟨Nat.le_of_ble_eq_true rfl, Nat.le_of_ble_eq_true rfl⟩ (fun H locs hM hS => ?_)
  refine ia_ifz_eq (x := mSlot u) (tgt := 21) hx hb d_Model_byteAt_4 (by decide) (fun c1 => ?_) (fun c1 => ?_)
  · refine lv_iconst (v := iI (-1)) hx hb d_Model_byteAt_21 rfl ?_
    refine lv_goto (tgt := 37) hx hb d_Model_byteAt_22 (by decide) ?_
    exact mw_iret hx hb hr hM hS hlocks d_Model_byteAt_37 (mwR_i (by unfold mByteAt; rw [if_pos (by first | exact Or.inl (by assumption) | exact Or.inr (by omega))]))
  · refine lv_iload_n hx hb d_Model_byteAt_7 rfl (lv_at hl 2 rfl) ?_
    refine ia_if_lt (a := i) (tgt := 21) hx hb d_Model_byteAt_8 (by decide) (by omega) (fun c2 => ?_) (fun c2 => ?_)
    · refine lv_iconst (v := iI (-1)) hx hb d_Model_byteAt_21 rfl ?_
      refine lv_goto (tgt := 37) hx hb d_Model_byteAt_22 (by decide) ?_
      exact mw_iret hx hb hr hM hS hlocks d_Model_byteAt_37 (mwR_i (by unfold mByteAt; rw [if_pos (by first | exact Or.inl (by assumption) | exact Or.inr (by omega))]))
    · have hs := mSlot_iff.mp (show mSlot u = true by assumption)
      have hzs := hz u.toNat (by omega)
      refine lv_iload_n hx hb d_Model_byteAt_11 rfl (lv_at hl 2 rfl) ?_
      refine lv_aload_n hx hb d_Model_byteAt_12 rfl (lv_at hl 0 rfl) ?_
      refine mw_get (ci := 4) (i := 40) (v := .ref (L 42)) (C := R_Model) (T := T_Model) (N := 23) hx hb hts in_Model hown hK hM hV.1 rfl rfl 4 (by decide) (hts _ m_549) rfl d_Model_byteAt_13 ?_
      refine lv_iload_n hx hb d_Model_byteAt_16 rfl (lv_at hl 1 rfl) ?_
      refine mw_iald (n := 8) (f := S.a 1) (a := u) (i := 42) hx hb hK hM 1 (hV.2.1 1 (by decide)) rfl rfl (by omega) (by decide) d_Model_byteAt_17 ?_
      have r3 : -1000000 ≤ S.a 1 (u : Int).toNat ∧ S.a 1 (u : Int).toNat ≤ 1000000 := hV.2.2.1 1 _
      refine ia_icmp_lt (a := i) (b := S.a 1 (u : Int).toNat) (tgt := 25) hx hb d_Model_byteAt_18 (by decide) (by omega) (by omega) (fun c4 => ?_) (fun c4 => ?_)
      · refine lv_aload_n hx hb d_Model_byteAt_25 rfl (lv_at hl 0 rfl) ?_
        refine mw_get (ci := 4) (i := 40) (v := .ref (L 43)) (C := R_Model) (T := T_Model) (N := 23) hx hb hts in_Model hown hK hM hV.1 rfl rfl 5 (by decide) (hts _ m_550) rfl d_Model_byteAt_26 ?_
        refine lv_sipush (v := iI (2000)) hx hb d_Model_byteAt_29 (by decide) ?_
        refine lv_iload_n hx hb d_Model_byteAt_32 rfl (lv_at hl 1 rfl) ?_
        refine ia_mul hx hb d_Model_byteAt_33 ?_
        refine lv_iload_n hx hb d_Model_byteAt_34 rfl (lv_at hl 2 rfl) ?_
        refine ia_add hx hb d_Model_byteAt_35 ?_
        refine mw_iald (n := 16000) (f := S.a 2) (a := (2000 * u) + i) (i := 43) hx hb hK hM 1 (hV.2.1 2 (by decide)) rfl rfl (by omega) (by decide) d_Model_byteAt_36 ?_
        have r5 : 0 ≤ S.a 2 ((2000 * u) + i : Int).toNat ∧ S.a 2 ((2000 * u) + i : Int).toNat ≤ 255 := hV.2.2.1 2 _
        exact mw_iret hx hb hr hM hS hlocks d_Model_byteAt_37 (mwR_i (by unfold mByteAt; rw [if_neg (by rintro (z | z); exact absurd (show mSlot u = true by assumption) (zne z); omega)]))
      · refine lv_iconst (v := iI (-1)) hx hb d_Model_byteAt_21 rfl ?_
        refine lv_goto (tgt := 37) hx hb d_Model_byteAt_22 (by decide) ?_
        exact mw_iret hx hb hr hM hS hlocks d_Model_byteAt_37 (mwR_i (by unfold mByteAt; rw [if_pos (by first | exact Or.inl (by assumption) | exact Or.inr (by omega))]))
set_option maxHeartbeats 4000000 in
set_option maxRecDepth 100000 in
theorem c_Model_isNode (l : Launch) (D : va_G) (g : Nat → ClassId) (lo : Nat) (L : Nat → Nat) (κ : Nat → Option va_E) (S : MS) (hV : mds g L κ S) (u x : Int) (hu : -2147483648 ≤ u ∧ u < 2147483648) (hx : -2147483648 ≤ x ∧ x < 2147483648) (hL : mLdOK u S) (hz : mSzs S) : Met l y_Model_isNode w_Model_isNode ({ frames := 7, cells := 0, slots := 0, locals := 176 }) (mwP D vwCl (tyL g) lo L κ [.ref (L 40), .int (iI u), .int (iI x)]) (mwQ D vwCl lo (mdQ g L κ (some (.int (iI (bI (mIsNode u x S).1)))) (mIsNode u x S).2)) 0 0 (fun q => lo ≤ q) := by
  refine Met.ofW (cc := b_Model_isNode) (maxL := 3) (ret := (Option.some Jvm.ClassFile.FieldType.boolean)) (by decide) rfl ?_
  intro p e s m args below meth c s₁ B hml hpre
  obtain ⟨hargs, hM, hK⟩ := hpre
  have hx := B.exec
  have hb := B.bytes
  have hr := B.returns
  have hts : ∀ w ∈ wA, w.before args s = true := fun w h => atoms_spec (ws := w_Model_isNode) B.pre w (List.mem_cons_of_mem _ h)
  have hown : s.vm.findClass R_Model = some m.cls := findClass_of_methodNamed B.named
  have hlocks := B.notSynchronized
  have hS : va_S (fun q => lo ≤ q) s.heap s.heap [] := va_S.rf
  obtain ⟨ls, hls, hl⟩ := mw_entry (m := m) [.ref (L 40), .int (iI u), .int (iI x)] (n := 3) (Nat.le_of_ble_eq_true rfl) hargs
  refine W.eq hls ?_
  have hl : lv_has ls 3 [(0, .ref (L 40)), (1, .int (iI u)), (2, .int (iI x))] := hl
  refine lv_iload_n hx hb d_Model_isNode_0 rfl (lv_at hl 1 rfl) ?_
  refine mw_rdS (As := [.int (iI u)]) (rest := []) ⟨hx, hb, hml, hown, hts⟩ hK hM hS (c_Model_isSlot l D g lo L κ u (by omega)) (cwS 1 hts (gS m_627 m_628 m_58 m_629) rfl rfl rfl (by decide +kernel) ⟨Nat.le_of_ble_eq_true rfl, Nat.le_of_ble_eq_true rfl⟩) rfl hl.1 rfl (Nat.le_of_ble_eq_true rfl) d_Model_isNode_1 ⟨Nat.le_of_ble_eq_true rfl, Nat.le_of_ble_eq_true rfl⟩ (fun H locs hM hS => ?_)
  refine ia_ifz_ne (x := mSlot u) (tgt := 9) hx hb d_Model_isNode_4 (by decide) (fun c1 => ?_) (fun c1 => ?_)
  · have hs := mSlot_iff.mp (show mSlot u = true by assumption)
    refine lv_aload_n hx hb d_Model_isNode_9 rfl (lv_at hl 0 rfl) ?_
    refine lv_iload_n hx hb d_Model_isNode_10 rfl (lv_at hl 1 rfl) ?_
    refine mw_callV (i := 40) (As := [.int (iI u)]) (rest := []) ⟨hx, hb, hml, hown, hts⟩ hK hM hS rfl hV.1 rfl (c_Model_load l D g lo L κ S hV u (by omega) hL hz) (cwV 1 hts (gV m_698 m_700 m_28 m_58 m_701) rfl rfl rfl (by decide +kernel) ⟨Nat.le_of_ble_eq_true rfl, Nat.le_of_ble_eq_true rfl⟩) rfl hl.1 rfl (Nat.le_of_ble_eq_true rfl) d_Model_isNode_11 ⟨Nat.le_of_ble_eq_true rfl, Nat.le_of_ble_eq_true rfl⟩ (fun v2 L2 κ2 H locs hp2 hM hS => ?_)
    obtain ⟨rfl, rfl, hV2, hk2⟩ := hp2
    refine lv_iload_n hx hb d_Model_isNode_14 rfl (lv_at hl 2 rfl) ?_
    refine ia_if_lt (a := x) (tgt := 30) hx hb d_Model_isNode_15 (by decide) (by omega) (fun c3 => ?_) (fun c3 => ?_)
    · refine lv_iconst (v := iI (0)) hx hb d_Model_isNode_30 rfl ?_
      exact mw_zret (v := false) hx hb hr hM hS hlocks d_Model_isNode_31 (by rw [show mIsNode u x S = (false, mLoad u S) by first | (exfalso; omega) | (unfold mIsNode; rw [if_neg (zne2 (by assumption)), decide_eq_false (by omega)])]; exact ⟨rfl, rfl, hV2, (fun r h => by rw [hk2 r (by omega)])⟩)
    · refine lv_iload_n hx hb d_Model_isNode_18 rfl (lv_at hl 2 rfl) ?_
      refine lv_aload_n hx hb d_Model_isNode_19 rfl (lv_at hl 0 rfl) ?_
      refine mw_get (ci := 4) (i := 40) (v := .int (iI ((mLoad u S).f 3))) (C := R_Model) (T := T_Model) (N := 23) hx hb hts in_Model hown hK hM hV2.1 rfl rfl 8 (by decide) (hts _ m_553) rfl d_Model_isNode_20 ?_
      have r4 : -1000000 ≤ (mLoad u S).f 3 ∧ (mLoad u S).f 3 ≤ 1000000 := hV2.2.2.2 3
      refine ia_icmp_ge (a := x) (b := (mLoad u S).f 3) (tgt := 30) hx hb d_Model_isNode_23 (by decide) (by omega) (by omega) (fun c5 => ?_) (fun c5 => ?_)
      · refine lv_iconst (v := iI (0)) hx hb d_Model_isNode_30 rfl ?_
        exact mw_zret (v := false) hx hb hr hM hS hlocks d_Model_isNode_31 (by rw [show mIsNode u x S = (false, mLoad u S) by first | (exfalso; omega) | (unfold mIsNode; rw [if_neg (zne2 (by assumption)), decide_eq_false (by omega)])]; exact ⟨rfl, rfl, hV2, (fun r h => by rw [hk2 r (by omega)])⟩)
      · refine lv_iconst (v := iI (1)) hx hb d_Model_isNode_26 rfl ?_
        refine lv_goto (tgt := 31) hx hb d_Model_isNode_27 (by decide) ?_
        exact mw_zret (v := true) hx hb hr hM hS hlocks d_Model_isNode_31 (by rw [show mIsNode u x S = (true, mLoad u S) by first | (exfalso; omega) | (unfold mIsNode; rw [if_neg (zne2 (by assumption)), decide_eq_true (by omega)])]; exact ⟨rfl, rfl, hV2, (fun r h => by rw [hk2 r (by omega)])⟩)
  · refine lv_iconst (v := iI (0)) hx hb d_Model_isNode_7 rfl ?_
    exact mw_zret (v := false) hx hb hr hM hS hlocks d_Model_isNode_8 (by rw [show mIsNode u x S = (false, S) by first | (exfalso; omega) | (unfold mIsNode; rw [if_pos (by assumption)])]; exact ⟨rfl, rfl, hV, (fun r h => rfl)⟩)
set_option maxHeartbeats 4000000 in
set_option maxRecDepth 100000 in
theorem c_Model_kindOf (l : Launch) (D : va_G) (g : Nat → ClassId) (lo : Nat) (L : Nat → Nat) (κ : Nat → Option va_E) (S : MS) (hV : mds g L κ S) (x : Int) (hx0 : 0 ≤ x ∧ x < S.f 3) (hT : mTb S) : Met l y_Model_kindOf w_Model_kindOf ({ frames := 0, cells := 0, slots := 0, locals := 0 }) (mwP D vwCl (tyL g) lo L κ [.ref (L 40), .int (iI x)]) (mwQ D vwCl lo (mwR (some (.int (iI (mKind x S)))) L κ)) 0 0 (fun q => lo ≤ q) := by
  refine Met.ofW (cc := b_Model_kindOf) (maxL := 2) (ret := (Option.some Jvm.ClassFile.FieldType.int)) (by decide) rfl ?_
  intro p e s m args below meth c s₁ B hml hpre
  obtain ⟨hargs, hM, hK⟩ := hpre
  have hx := B.exec
  have hb := B.bytes
  have hr := B.returns
  have hts : ∀ w ∈ wA, w.before args s = true := fun w h => atoms_spec (ws := w_Model_kindOf) B.pre w (List.mem_cons_of_mem _ h)
  have hown : s.vm.findClass R_Model = some m.cls := findClass_of_methodNamed B.named
  have hlocks := B.notSynchronized
  have hS : va_S (fun q => lo ≤ q) s.heap s.heap [] := va_S.rf
  have hT1 := hT.1
  have hTx := hT.2 x.toNat (by omega)
  obtain ⟨ls, hls, hl⟩ := mw_entry (m := m) [.ref (L 40), .int (iI x)] (n := 2) (Nat.le_of_ble_eq_true rfl) hargs
  refine W.eq hls ?_
  have hl : lv_has ls 2 [(0, .ref (L 40)), (1, .int (iI x))] := hl
  refine lv_iload_n hx hb d_Model_kindOf_0 rfl (lv_at hl 1 rfl) ?_
  refine ia_if_ne (a := x) (tgt := 8) hx hb d_Model_kindOf_1 (by decide) (by omega) (fun c1 => ?_) (fun c1 => ?_)
  · refine lv_aload_n hx hb d_Model_kindOf_8 rfl (lv_at hl 0 rfl) ?_
    refine mw_get (ci := 4) (i := 40) (v := .ref (L 44)) (C := R_Model) (T := T_Model) (N := 23) hx hb hts in_Model hown hK hM hV.1 rfl rfl 6 (by decide) (hts _ m_551) rfl d_Model_kindOf_9 ?_
    refine lv_aload_n hx hb d_Model_kindOf_12 rfl (lv_at hl 0 rfl) ?_
    refine mw_get (ci := 4) (i := 40) (v := .ref (L 46)) (C := R_Model) (T := T_Model) (N := 23) hx hb hts in_Model hown hK hM hV.1 rfl rfl 10 (by decide) (hts _ m_555) rfl d_Model_kindOf_13 ?_
    refine lv_iload_n hx hb d_Model_kindOf_16 rfl (lv_at hl 1 rfl) ?_
    refine mw_iald (n := 1000) (f := S.a 5) (a := x) (i := 46) hx hb hK hM 1 (hV.2.1 5 (by decide)) rfl rfl (by omega) (by decide) d_Model_kindOf_17 ?_
    have r2 : -1000000 ≤ S.a 5 (x : Int).toNat ∧ S.a 5 (x : Int).toNat ≤ 1000000 := hV.2.2.1 5 _
    refine mw_iald (n := 4400) (f := S.a 3) (a := S.a 5 (x : Int).toNat) (i := 44) hx hb hK hM 1 (hV.2.1 3 (by decide)) rfl rfl (by omega) (by decide) d_Model_kindOf_18 ?_
    have r3 : 0 ≤ S.a 3 (S.a 5 (x : Int).toNat : Int).toNat ∧ S.a 3 (S.a 5 (x : Int).toNat : Int).toNat ≤ 255 := hV.2.2.1 3 _
    exact mw_iret hx hb hr hM hS hlocks d_Model_kindOf_19 (mwR_i (by unfold mKind; (first | (exfalso; omega) | (repeat (first | rw [if_pos (by first | assumption | omega)] | rw [if_neg (by first | assumption | exact zne (by assumption) | omega)])))))
  · refine lv_iconst (v := iI (3)) hx hb d_Model_kindOf_4 rfl ?_
    refine lv_goto (tgt := 19) hx hb d_Model_kindOf_5 (by decide) ?_
    exact mw_iret hx hb hr hM hS hlocks d_Model_kindOf_19 (mwR_i (by unfold mKind; (first | (exfalso; omega) | (repeat (first | rw [if_pos (by first | assumption | omega)] | rw [if_neg (by first | assumption | exact zne (by assumption) | omega)])))))
set_option maxHeartbeats 4000000 in
set_option maxRecDepth 100000 in
theorem c_Model_isBox (l : Launch) (D : va_G) (g : Nat → ClassId) (lo : Nat) (L : Nat → Nat) (κ : Nat → Option va_E) (S : MS) (hV : mds g L κ S) (x : Int) (hx0 : 0 ≤ x ∧ x < S.f 3) (hT : mTb S) : Met l y_Model_isBox w_Model_isBox ({ frames := 1, cells := 0, slots := 0, locals := 21 }) (mwP D vwCl (tyL g) lo L κ [.ref (L 40), .int (iI x)]) (mwQ D vwCl lo (mwR (some (.int (iI (bI (mBox x S))))) L κ)) 0 0 (fun q => lo ≤ q) := by
  refine Met.ofW (cc := b_Model_isBox) (maxL := 2) (ret := (Option.some Jvm.ClassFile.FieldType.boolean)) (by decide) rfl ?_
  intro p e s m args below meth c s₁ B hml hpre
  obtain ⟨hargs, hM, hK⟩ := hpre
  have hx := B.exec
  have hb := B.bytes
  have hr := B.returns
  have hts : ∀ w ∈ wA, w.before args s = true := fun w h => atoms_spec (ws := w_Model_isBox) B.pre w (List.mem_cons_of_mem _ h)
  have hown : s.vm.findClass R_Model = some m.cls := findClass_of_methodNamed B.named
  have hlocks := B.notSynchronized
  have hS : va_S (fun q => lo ≤ q) s.heap s.heap [] := va_S.rf
  have hT1 := hT.1
  have hTx := hT.2 x.toNat (by omega)
  obtain ⟨ls, hls, hl⟩ := mw_entry (m := m) [.ref (L 40), .int (iI x)] (n := 2) (Nat.le_of_ble_eq_true rfl) hargs
  refine W.eq hls ?_
  have hl : lv_has ls 2 [(0, .ref (L 40)), (1, .int (iI x))] := hl
  refine lv_aload_n hx hb d_Model_isBox_0 rfl (lv_at hl 0 rfl) ?_
  refine lv_iload_n hx hb d_Model_isBox_1 rfl (lv_at hl 1 rfl) ?_
  refine mw_rdV (i := 40) (As := [.int (iI x)]) (rest := []) ⟨hx, hb, hml, hown, hts⟩ hK hM hS rfl hV.1 rfl (c_Model_kindOf l D g lo L κ S hV x (by omega) hT) (cwV 1 hts (gV m_714 m_716 m_30 m_58 m_717) rfl rfl rfl (by decide +kernel) ⟨Nat.le_of_ble_eq_true rfl, Nat.le_of_ble_eq_true rfl⟩) rfl hl.1 rfl (Nat.le_of_ble_eq_true rfl) d_Model_isBox_2 ⟨Nat.le_of_ble_eq_true rfl, Nat.le_of_ble_eq_true rfl⟩ (fun H locs hM hS => ?_)
  have r1 := mKind_r hV x
  refine lv_iconst (v := iI (3)) hx hb d_Model_isBox_5 rfl ?_
  refine ia_icmp_eq (a := mKind x S) (b := 3) (tgt := 18) hx hb d_Model_isBox_6 (by decide) (by omega) (by omega) (fun c2 => ?_) (fun c2 => ?_)
  · refine lv_iconst (v := iI (1)) hx hb d_Model_isBox_18 rfl ?_
    refine lv_goto (tgt := 23) hx hb d_Model_isBox_19 (by decide) ?_
    exact mw_zret (v := true) hx hb hr hM hS hlocks d_Model_isBox_23 (mwR_z (by exact (decide_eq_true (by omega)).symm))
  · refine lv_aload_n hx hb d_Model_isBox_9 rfl (lv_at hl 0 rfl) ?_
    refine lv_iload_n hx hb d_Model_isBox_10 rfl (lv_at hl 1 rfl) ?_
    refine mw_rdV (i := 40) (As := [.int (iI x)]) (rest := []) ⟨hx, hb, hml, hown, hts⟩ hK hM hS rfl hV.1 rfl (c_Model_kindOf l D g lo L κ S hV x (by omega) hT) (cwV 1 hts (gV m_714 m_716 m_30 m_58 m_717) rfl rfl rfl (by decide +kernel) ⟨Nat.le_of_ble_eq_true rfl, Nat.le_of_ble_eq_true rfl⟩) rfl hl.1 rfl (Nat.le_of_ble_eq_true rfl) d_Model_isBox_11 ⟨Nat.le_of_ble_eq_true rfl, Nat.le_of_ble_eq_true rfl⟩ (fun H locs hM hS => ?_)
    have r3 := mKind_r hV x
    refine lv_iconst (v := iI (4)) hx hb d_Model_isBox_14 rfl ?_
    refine ia_icmp_ne (a := mKind x S) (b := 4) (tgt := 22) hx hb d_Model_isBox_15 (by decide) (by omega) (by omega) (fun c4 => ?_) (fun c4 => ?_)
    · refine lv_iconst (v := iI (0)) hx hb d_Model_isBox_22 rfl ?_
      exact mw_zret (v := false) hx hb hr hM hS hlocks d_Model_isBox_23 (mwR_z (by exact (decide_eq_false (by omega)).symm))
    · refine lv_iconst (v := iI (1)) hx hb d_Model_isBox_18 rfl ?_
      refine lv_goto (tgt := 23) hx hb d_Model_isBox_19 (by decide) ?_
      exact mw_zret (v := true) hx hb hr hM hS hlocks d_Model_isBox_23 (mwR_z (by exact (decide_eq_true (by omega)).symm))
set_option maxHeartbeats 4000000 in
set_option maxRecDepth 100000 in
theorem c_Model_valueAt (l : Launch) (D : va_G) (g : Nat → ClassId) (lo : Nat) (L : Nat → Nat) (κ : Nat → Option va_E) (S : MS) (hV : mds g L κ S) (x : Int) (hx0 : 0 ≤ x ∧ x < S.f 3) (hT : mTb S) : Met l y_Model_valueAt w_Model_valueAt ({ frames := 0, cells := 0, slots := 0, locals := 0 }) (mwP D vwCl (tyL g) lo L κ [.ref (L 40), .int (iI x)]) (mwQ D vwCl lo (mwR (some (.int (iI (mVal x S)))) L κ)) 0 0 (fun q => lo ≤ q) := by
  refine Met.ofW (cc := b_Model_valueAt) (maxL := 2) (ret := (Option.some Jvm.ClassFile.FieldType.int)) (by decide) rfl ?_
  intro p e s m args below meth c s₁ B hml hpre
  obtain ⟨hargs, hM, hK⟩ := hpre
  have hx := B.exec
  have hb := B.bytes
  have hr := B.returns
  have hts : ∀ w ∈ wA, w.before args s = true := fun w h => atoms_spec (ws := w_Model_valueAt) B.pre w (List.mem_cons_of_mem _ h)
  have hown : s.vm.findClass R_Model = some m.cls := findClass_of_methodNamed B.named
  have hlocks := B.notSynchronized
  have hS : va_S (fun q => lo ≤ q) s.heap s.heap [] := va_S.rf
  have hT1 := hT.1
  have hTx := hT.2 x.toNat (by omega)
  obtain ⟨ls, hls, hl⟩ := mw_entry (m := m) [.ref (L 40), .int (iI x)] (n := 2) (Nat.le_of_ble_eq_true rfl) hargs
  refine W.eq hls ?_
  have hl : lv_has ls 2 [(0, .ref (L 40)), (1, .int (iI x))] := hl
  refine lv_iload_n hx hb d_Model_valueAt_0 rfl (lv_at hl 1 rfl) ?_
  refine ia_if_ne (a := x) (tgt := 8) hx hb d_Model_valueAt_1 (by decide) (by omega) (fun c1 => ?_) (fun c1 => ?_)
  · refine lv_aload_n hx hb d_Model_valueAt_8 rfl (lv_at hl 0 rfl) ?_
    refine mw_get (ci := 4) (i := 40) (v := .ref (L 47)) (C := R_Model) (T := T_Model) (N := 23) hx hb hts in_Model hown hK hM hV.1 rfl rfl 11 (by decide) (hts _ m_556) rfl d_Model_valueAt_9 ?_
    refine lv_iload_n hx hb d_Model_valueAt_12 rfl (lv_at hl 1 rfl) ?_
    refine mw_iald (n := 1000) (f := S.a 6) (a := x) (i := 47) hx hb hK hM 1 (hV.2.1 6 (by decide)) rfl rfl (by omega) (by decide) d_Model_valueAt_13 ?_
    have r2 : -1000000 ≤ S.a 6 (x : Int).toNat ∧ S.a 6 (x : Int).toNat ≤ 1000000 := hV.2.2.1 6 _
    refine lv_iconst (v := iI (1)) hx hb d_Model_valueAt_14 rfl ?_
    refine ia_add hx hb d_Model_valueAt_15 ?_
    exact mw_iret hx hb hr hM hS hlocks d_Model_valueAt_16 (mwR_i (by unfold mVal; (first | (exfalso; omega) | (repeat (first | rw [if_pos (by first | assumption | omega)] | rw [if_neg (by first | assumption | exact zne (by assumption) | omega)])))))
  · refine lv_iconst (v := iI (0)) hx hb d_Model_valueAt_4 rfl ?_
    refine lv_goto (tgt := 16) hx hb d_Model_valueAt_5 (by decide) ?_
    exact mw_iret hx hb hr hM hS hlocks d_Model_valueAt_16 (mwR_i (by unfold mVal; (first | (exfalso; omega) | (repeat (first | rw [if_pos (by first | assumption | omega)] | rw [if_neg (by first | assumption | exact zne (by assumption) | omega)])))))
set_option maxHeartbeats 4000000 in
set_option maxRecDepth 100000 in
theorem c_Model_nextIn (l : Launch) (D : va_G) (g : Nat → ClassId) (lo : Nat) (L : Nat → Nat) (κ : Nat → Option va_E) (S : MS) (hV : mds g L κ S) (bx fr : Int) (hbx : -1000000 ≤ bx ∧ bx ≤ 1000000) (hfr : 0 ≤ fr ∧ fr ≤ 2000) (hT : mTb S) : Met l y_Model_nextIn w_Model_nextIn ({ frames := 0, cells := 0, slots := 0, locals := 0 }) (mwP D vwCl (tyL g) lo L κ [.ref (L 40), .int (iI bx), .int (iI fr)]) (mwQ D vwCl lo (mwR (some (.int (iI (mNx S bx fr)))) L κ)) 0 0 (fun q => lo ≤ q) := by
  refine Met.ofW (cc := b_Model_nextIn) (maxL := 4) (ret := (Option.some Jvm.ClassFile.FieldType.int)) (by decide) rfl ?_
  intro p e s m args below meth c s₁ B hml hpre
  obtain ⟨hargs, hM, hK⟩ := hpre
  have hx := B.exec
  have hb := B.bytes
  have hr := B.returns
  have hts : ∀ w ∈ wA, w.before args s = true := fun w h => atoms_spec (ws := w_Model_nextIn) B.pre w (List.mem_cons_of_mem _ h)
  have hown : s.vm.findClass R_Model = some m.cls := findClass_of_methodNamed B.named
  have hlocks := B.notSynchronized
  have hS : va_S (fun q => lo ≤ q) s.heap s.heap [] := va_S.rf
  have hT1 := hT.1
  have loop2 : ∀ (N : Nat) (k : Int), (S.f 3 - k).toNat < N → (0 ≤ k ∧ k ≤ 2000) → (mNx S bx fr = mNx S bx k) → ∀ (H : Heap) (locs : List Loc) (ls : Array Slot), mw D vwCl lo L κ H → va_S (fun q => lo ≤ q) s.heap H locs → lv_has ls 4 [(3, .int (iI k)), (0, .ref (L 40)), (1, .int (iI bx)), (2, .int (iI fr))] → W p l e (headSpec w_Model_nextIn ({ frames := 0, cells := 0, slots := 0, locals := 0 })).room s m args below meth c H locs 0 0 (MQ below (mwQ D vwCl lo (mwR (some (.int (iI (mNx S bx fr)))) L κ)) args s 0 0 (fun q => lo ≤ q)) (F0 m 2 ls []) := by
    intro N
    induction N with
    | zero => intro k hms; exact absurd hms (Nat.not_lt_zero _)
    | succ N ih =>
      intro k hms hk hres H locs ls hM hS hl
      refine lv_iload_n hx hb d_Model_nextIn_2 rfl (lv_at hl 0 rfl) ?_
      refine lv_aload_n hx hb d_Model_nextIn_3 rfl (lv_at hl 1 rfl) ?_
      refine mw_get (ci := 4) (i := 40) (v := .int (iI (S.f 3))) (C := R_Model) (T := T_Model) (N := 23) hx hb hts in_Model hown hK hM hV.1 rfl rfl 8 (by decide) (hts _ m_553) rfl d_Model_nextIn_4 ?_
      have r1 : -1000000 ≤ S.f 3 ∧ S.f 3 ≤ 1000000 := hV.2.2.2 3
      refine ia_icmp_ge (a := k) (b := S.f 3) (tgt := 28) hx hb d_Model_nextIn_7 (by decide) (by omega) (by omega) (fun c2 => ?_) (fun c2 => ?_)
      · refine lv_iconst (v := iI (-1)) hx hb d_Model_nextIn_28 rfl ?_
        exact mw_iret hx hb hr hM hS hlocks d_Model_nextIn_29 (mwR_i (by rw [hres, mNx_e (by omega)]))
      · refine lv_aload_n hx hb d_Model_nextIn_10 rfl (lv_at hl 1 rfl) ?_
        refine mw_get (ci := 4) (i := 40) (v := .ref (L 45)) (C := R_Model) (T := T_Model) (N := 23) hx hb hts in_Model hown hK hM hV.1 rfl rfl 9 (by decide) (hts _ m_554) rfl d_Model_nextIn_11 ?_
        refine lv_iload_n hx hb d_Model_nextIn_14 rfl (lv_at hl 0 rfl) ?_
        refine mw_iald (n := 1000) (f := S.a 4) (a := k) (i := 45) hx hb hK hM 1 (hV.2.1 4 (by decide)) rfl rfl (by omega) (by decide) d_Model_nextIn_15 ?_
        have r3 : -1000000 ≤ S.a 4 (k : Int).toNat ∧ S.a 4 (k : Int).toNat ≤ 1000000 := hV.2.2.1 4 _
        refine lv_iload_n hx hb d_Model_nextIn_16 rfl (lv_at hl 2 rfl) ?_
        refine ia_icmp_ne (a := S.a 4 (k : Int).toNat) (b := bx) (tgt := 22) hx hb d_Model_nextIn_17 (by decide) (by omega) (by omega) (fun c4 => ?_) (fun c4 => ?_)
        · refine lv_iinc (v := iI (k + 1)) (lv' := [(3, .int (iI (k + 1))), (0, .ref (L 40)), (1, .int (iI bx)), (2, .int (iI fr))]) hx hb d_Model_nextIn_22 hl (k := 0) rfl (iI_inc _ _) (by decide) rfl (fun ls hl => ?_)
          refine lv_goto (tgt := 2) hx hb d_Model_nextIn_25 (by decide) ?_
          exact ih (k + 1) (by omega) (by omega) (by rw [hres, mNx_s (by omega), if_neg (by omega)]) _ _ ls hM hS (lv_sub hl [0, 1, 2, 3] rfl)
        · refine lv_iload_n hx hb d_Model_nextIn_20 rfl (lv_at hl 0 rfl) ?_
          exact mw_iret hx hb hr hM hS hlocks d_Model_nextIn_21 (mwR_i (by rw [hres, mNx_s (by omega), if_pos (by omega)]))
  obtain ⟨ls, hls, hl⟩ := mw_entry (m := m) [.ref (L 40), .int (iI bx), .int (iI fr)] (n := 4) (Nat.le_of_ble_eq_true rfl) hargs
  refine W.eq hls ?_
  have hl : lv_has ls 4 [(0, .ref (L 40)), (1, .int (iI bx)), (2, .int (iI fr))] := hl
  refine lv_iload_n hx hb d_Model_nextIn_0 rfl (lv_at hl 2 rfl) ?_
  refine lv_istore_n (lv' := [(3, .int (iI fr)), (0, .ref (L 40)), (1, .int (iI bx)), (2, .int (iI fr))]) hx hb d_Model_nextIn_1 rfl hl (by decide) rfl (fun ls hl => ?_)
  exact loop2 _ fr (Nat.lt_succ_self _) (by omega) rfl _ _ ls hM hS (lv_sub hl [0, 1, 2, 3] rfl)
set_option maxHeartbeats 4000000 in
set_option maxRecDepth 100000 in
theorem c_Model_elements (l : Launch) (D : va_G) (g : Nat → ClassId) (lo : Nat) (L : Nat → Nat) (κ : Nat → Option va_E) (S : MS) (hV : mds g L κ S) (x : Int) (hx0 : -1000000 ≤ x ∧ x ≤ 1000000) (hT : mTb S) : Met l y_Model_elements w_Model_elements ({ frames := 0, cells := 0, slots := 0, locals := 0 }) (mwP D vwCl (tyL g) lo L κ [.ref (L 40), .int (iI x)]) (mwQ D vwCl lo (mwR (some (.int (iI (mEls x S)))) L κ)) 0 0 (fun q => lo ≤ q) := by
  refine Met.ofW (cc := b_Model_elements) (maxL := 4) (ret := (Option.some Jvm.ClassFile.FieldType.int)) (by decide) rfl ?_
  intro p e s m args below meth c s₁ B hml hpre
  obtain ⟨hargs, hM, hK⟩ := hpre
  have hx := B.exec
  have hb := B.bytes
  have hr := B.returns
  have hts : ∀ w ∈ wA, w.before args s = true := fun w h => atoms_spec (ws := w_Model_elements) B.pre w (List.mem_cons_of_mem _ h)
  have hown : s.vm.findClass R_Model = some m.cls := findClass_of_methodNamed B.named
  have hlocks := B.notSynchronized
  have hS : va_S (fun q => lo ≤ q) s.heap s.heap [] := va_S.rf
  have hT1 := hT.1
  have loop4 : ∀ (N : Nat) (k : Int) (acc : Int), (S.f 3 - k).toNat < N → (1 ≤ k ∧ k ≤ 2000 ∧ 0 ≤ acc ∧ acc ≤ k) → (mEls x S = mElsF S x k (S.f 3) acc) → ∀ (H : Heap) (locs : List Loc) (ls : Array Slot), mw D vwCl lo L κ H → va_S (fun q => lo ≤ q) s.heap H locs → lv_has ls 4 [(3, .int (iI k)), (2, .int (iI acc)), (0, .ref (L 40)), (1, .int (iI x))] → W p l e (headSpec w_Model_elements ({ frames := 0, cells := 0, slots := 0, locals := 0 })).room s m args below meth c H locs 0 0 (MQ below (mwQ D vwCl lo (mwR (some (.int (iI (mEls x S)))) L κ)) args s 0 0 (fun q => lo ≤ q)) (F0 m 4 ls []) := by
    intro N
    induction N with
    | zero => intro k acc hms; exact absurd hms (Nat.not_lt_zero _)
    | succ N ih =>
      intro k acc hms hk hres H locs ls hM hS hl
      refine lv_iload_n hx hb d_Model_elements_4 rfl (lv_at hl 0 rfl) ?_
      refine lv_aload_n hx hb d_Model_elements_5 rfl (lv_at hl 2 rfl) ?_
      refine mw_get (ci := 4) (i := 40) (v := .int (iI (S.f 3))) (C := R_Model) (T := T_Model) (N := 23) hx hb hts in_Model hown hK hM hV.1 rfl rfl 8 (by decide) (hts _ m_553) rfl d_Model_elements_6 ?_
      have r1 : -1000000 ≤ S.f 3 ∧ S.f 3 ≤ 1000000 := hV.2.2.2 3
      refine ia_icmp_ge (a := k) (b := S.f 3) (tgt := 36) hx hb d_Model_elements_9 (by decide) (by omega) (by omega) (fun c2 => ?_) (fun c2 => ?_)
      · refine lv_iload_n hx hb d_Model_elements_36 rfl (lv_at hl 1 rfl) ?_
        exact mw_iret hx hb hr hM hS hlocks d_Model_elements_37 (mwR_i (by rw [hres, mElsF_e (by omega)]))
      · refine lv_iload_n hx hb d_Model_elements_12 rfl (lv_at hl 1 rfl) ?_
        refine lv_aload_n hx hb d_Model_elements_13 rfl (lv_at hl 2 rfl) ?_
        refine mw_get (ci := 4) (i := 40) (v := .ref (L 45)) (C := R_Model) (T := T_Model) (N := 23) hx hb hts in_Model hown hK hM hV.1 rfl rfl 9 (by decide) (hts _ m_554) rfl d_Model_elements_14 ?_
        refine lv_iload_n hx hb d_Model_elements_17 rfl (lv_at hl 0 rfl) ?_
        refine mw_iald (n := 1000) (f := S.a 4) (a := k) (i := 45) hx hb hK hM 1 (hV.2.1 4 (by decide)) rfl rfl (by omega) (by decide) d_Model_elements_18 ?_
        have r3 : -1000000 ≤ S.a 4 (k : Int).toNat ∧ S.a 4 (k : Int).toNat ≤ 1000000 := hV.2.2.1 4 _
        refine lv_iload_n hx hb d_Model_elements_19 rfl (lv_at hl 3 rfl) ?_
        refine ia_icmp_ne (a := S.a 4 (k : Int).toNat) (b := x) (tgt := 27) hx hb d_Model_elements_20 (by decide) (by omega) (by omega) (fun c4 => ?_) (fun c4 => ?_)
        · refine lv_iconst (v := iI (0)) hx hb d_Model_elements_27 rfl ?_
          refine ia_add hx hb d_Model_elements_28 ?_
          refine lv_istore_n (lv' := [(2, .int (iI (acc + 0))), (3, .int (iI k)), (0, .ref (L 40)), (1, .int (iI x))]) hx hb d_Model_elements_29 rfl hl (by decide) rfl (fun ls hl => ?_)
          refine lv_iinc (v := iI (k + 1)) (lv' := [(3, .int (iI (k + 1))), (2, .int (iI (acc + 0))), (0, .ref (L 40)), (1, .int (iI x))]) hx hb d_Model_elements_30 hl (k := 1) rfl (iI_inc _ _) (by decide) rfl (fun ls hl => ?_)
          refine lv_goto (tgt := 4) hx hb d_Model_elements_33 (by decide) ?_
          exact ih (k + 1) (acc + 0) (by omega) (by omega) (by rw [hres, mElsF_s (by omega), if_neg (by omega)]) _ _ ls hM hS (lv_sub hl [0, 1, 2, 3] rfl)
        · refine lv_iconst (v := iI (1)) hx hb d_Model_elements_23 rfl ?_
          refine lv_goto (tgt := 28) hx hb d_Model_elements_24 (by decide) ?_
          refine ia_add hx hb d_Model_elements_28 ?_
          refine lv_istore_n (lv' := [(2, .int (iI (acc + 1))), (3, .int (iI k)), (0, .ref (L 40)), (1, .int (iI x))]) hx hb d_Model_elements_29 rfl hl (by decide) rfl (fun ls hl => ?_)
          refine lv_iinc (v := iI (k + 1)) (lv' := [(3, .int (iI (k + 1))), (2, .int (iI (acc + 1))), (0, .ref (L 40)), (1, .int (iI x))]) hx hb d_Model_elements_30 hl (k := 1) rfl (iI_inc _ _) (by decide) rfl (fun ls hl => ?_)
          refine lv_goto (tgt := 4) hx hb d_Model_elements_33 (by decide) ?_
          exact ih (k + 1) (acc + 1) (by omega) (by omega) (by rw [hres, mElsF_s (by omega), if_pos (by omega)]) _ _ ls hM hS (lv_sub hl [0, 1, 2, 3] rfl)
  obtain ⟨ls, hls, hl⟩ := mw_entry (m := m) [.ref (L 40), .int (iI x)] (n := 4) (Nat.le_of_ble_eq_true rfl) hargs
  refine W.eq hls ?_
  have hl : lv_has ls 4 [(0, .ref (L 40)), (1, .int (iI x))] := hl
  refine lv_iconst (v := iI (0)) hx hb d_Model_elements_0 rfl ?_
  refine lv_istore_n (lv' := [(2, .int (iI 0)), (0, .ref (L 40)), (1, .int (iI x))]) hx hb d_Model_elements_1 rfl hl (by decide) rfl (fun ls hl => ?_)
  refine lv_iconst (v := iI (1)) hx hb d_Model_elements_2 rfl ?_
  refine lv_istore_n (lv' := [(3, .int (iI 1)), (2, .int (iI 0)), (0, .ref (L 40)), (1, .int (iI x))]) hx hb d_Model_elements_3 rfl hl (by decide) rfl (fun ls hl => ?_)
  exact loop4 _ 1 0 (Nat.lt_succ_self _) (by omega) rfl _ _ ls hM hS (lv_sub hl [0, 1, 2, 3] rfl)
set_option maxHeartbeats 4000000 in
set_option maxRecDepth 100000 in
theorem c_Model_look (l : Launch) (D : va_G) (g : Nat → ClassId) (lo : Nat) (L : Nat → Nat) (κ : Nat → Option va_E) (S : MS) (hV : mds g L κ S) (u x w : Int) (hu : -2147483648 ≤ u ∧ u < 2147483648) (hx : -2147483648 ≤ x ∧ x < 2147483648) (hw : -2147483648 ≤ w ∧ w < 2147483648) (hL : mLdOK u S) (hz : mSzs S) : Met l y_Model_look w_Model_look ({ frames := 8, cells := 0, slots := 0, locals := 198 }) (mwP D vwCl (tyL g) lo L κ [.ref (L 40), .int (iI u), .int (iI x), .int (iI w)]) (mwQ D vwCl lo (mdQ g L κ (some (.int (iI (mLook u x w S).1))) (mLook u x w S).2)) 0 0 (fun q => lo ≤ q) := by
  refine Met.ofW (cc := b_Model_look) (maxL := 4) (ret := (Option.some Jvm.ClassFile.FieldType.int)) (by decide) rfl ?_
  intro p e s m args below meth c s₁ B hml hpre
  obtain ⟨hargs, hM, hK⟩ := hpre
  have hx := B.exec
  have hb := B.bytes
  have hr := B.returns
  have hts : ∀ w ∈ wA, w.before args s = true := fun w h => atoms_spec (ws := w_Model_look) B.pre w (List.mem_cons_of_mem _ h)
  have hown : s.vm.findClass R_Model = some m.cls := findClass_of_methodNamed B.named
  have hlocks := B.notSynchronized
  have hS : va_S (fun q => lo ≤ q) s.heap s.heap [] := va_S.rf
  obtain ⟨ls, hls, hl⟩ := mw_entry (m := m) [.ref (L 40), .int (iI u), .int (iI x), .int (iI w)] (n := 4) (Nat.le_of_ble_eq_true rfl) hargs
  refine W.eq hls ?_
  have hl : lv_has ls 4 [(0, .ref (L 40)), (1, .int (iI u)), (2, .int (iI x)), (3, .int (iI w))] := hl
  refine lv_aload_n hx hb d_Model_look_0 rfl (lv_at hl 0 rfl) ?_
  refine lv_iload_n hx hb d_Model_look_1 rfl (lv_at hl 1 rfl) ?_
  refine lv_iload_n hx hb d_Model_look_2 rfl (lv_at hl 2 rfl) ?_
  refine mw_callV (i := 40) (As := [.int (iI u), .int (iI x)]) (rest := []) ⟨hx, hb, hml, hown, hts⟩ hK hM hS rfl hV.1 rfl (c_Model_isNode l D g lo L κ S hV u x (by omega) (by omega) hL hz) (cwV 2 hts (gV m_710 m_712 m_29 m_58 m_713) rfl rfl rfl (by decide +kernel) ⟨Nat.le_of_ble_eq_true rfl, Nat.le_of_ble_eq_true rfl⟩) rfl hl.1 rfl (Nat.le_of_ble_eq_true rfl) d_Model_look_3 ⟨Nat.le_of_ble_eq_true rfl, Nat.le_of_ble_eq_true rfl⟩ (fun v1 L1 κ1 H locs hp1 hM hS => ?_)
  obtain ⟨rfl, rfl, hV1, hk1⟩ := hp1
  refine ia_ifz_ne (x := (mIsNode u x S).1) (tgt := 11) hx hb d_Model_look_6 (by decide) (fun c2 => ?_) (fun c2 => ?_)
  · obtain ⟨hy3a, hy3b, hy3c⟩ := mNode_t c2
    rw [hy3b] at hV1
    have hT := (hL hy3a).2
    have hT1 := hT.1
    have hTx := hT.2 x.toNat (by omega)
    refine lv_iload_n hx hb d_Model_look_11 rfl (lv_at hl 3 rfl) ?_
    rcases (show (w < 0 ∨ 8 < w) ∨ w = 0 ∨ w = 1 ∨ w = 2 ∨ w = 3 ∨ w = 4 ∨ w = 5 ∨ w = 6 ∨ w = 7 ∨ w = 8 by omega) with c4 | c4 | c4 | c4 | c4 | c4 | c4 | c4 | c4 | c4
    · refine lv_tableOut (tgt := 196) hx hb d_Model_look_12 (by rw [iI_toInt (by omega)]; exact c4) (by decide) ?_
      refine lv_iconst (v := iI (-1)) hx hb d_Model_look_196 rfl ?_
      exact mw_iret hx hb hr hM hS hlocks d_Model_look_197 (by rw [show mLook u x w S = (-1, mLoad u S) by first | (exfalso; omega) | (unfold mLook; rw [if_neg (zne2 c2)]; unfold mLk; (first | (exfalso; omega) | (repeat (first | rw [if_pos (by first | assumption | omega)] | rw [if_neg (by first | assumption | exact zne (by assumption) | omega)]))))]; exact ⟨rfl, rfl, hV1, (fun r h => by rw [hk1 r (by omega)])⟩)
    · refine lv_tableIn (off := 52) (tgt := 64) hx hb d_Model_look_12 (by rw [iI_toInt (by omega)]; omega) (by rw [iI_toInt (by omega)]; omega) (by rw [iI_toInt (by omega), c4]; rfl) (by decide) ?_
      refine lv_aload_n hx hb d_Model_look_64 rfl (lv_at hl 0 rfl) ?_
      refine lv_iload_n hx hb d_Model_look_65 rfl (lv_at hl 2 rfl) ?_
      refine mw_rdV (i := 40) (As := [.int (iI x)]) (rest := []) ⟨hx, hb, hml, hown, hts⟩ hK hM hS rfl hV1.1 rfl (c_Model_kindOf l D g lo L κ1 (mLoad u S) hV1 x (by omega) hT) (cwV 1 hts (gV m_714 m_716 m_30 m_58 m_717) rfl rfl rfl (by decide +kernel) ⟨Nat.le_of_ble_eq_true rfl, Nat.le_of_ble_eq_true rfl⟩) rfl hl.1 rfl (Nat.le_of_ble_eq_true rfl) d_Model_look_66 ⟨Nat.le_of_ble_eq_true rfl, Nat.le_of_ble_eq_true rfl⟩ (fun H locs hM hS => ?_)
      have r5 := mKind_r hV1 x
      exact mw_iret hx hb hr hM hS hlocks d_Model_look_69 (by rw [show mLook u x w S = (mKind x (mLoad u S), mLoad u S) by first | (exfalso; omega) | (unfold mLook; rw [if_neg (zne2 c2)]; unfold mLk; (first | (exfalso; omega) | (repeat (first | rw [if_pos (by first | assumption | omega)] | rw [if_neg (by first | assumption | exact zne (by assumption) | omega)]))))]; exact ⟨rfl, rfl, hV1, (fun r h => by rw [hk1 r (by omega)])⟩)
    · refine lv_tableIn (off := 58) (tgt := 70) hx hb d_Model_look_12 (by rw [iI_toInt (by omega)]; omega) (by rw [iI_toInt (by omega)]; omega) (by rw [iI_toInt (by omega), c4]; rfl) (by decide) ?_
      refine lv_aload_n hx hb d_Model_look_70 rfl (lv_at hl 0 rfl) ?_
      refine mw_get (ci := 4) (i := 40) (v := .ref (L 45)) (C := R_Model) (T := T_Model) (N := 23) hx hb hts in_Model hown hK hM hV1.1 rfl rfl 9 (by decide) (hts _ m_554) rfl d_Model_look_71 ?_
      refine lv_iload_n hx hb d_Model_look_74 rfl (lv_at hl 2 rfl) ?_
      refine mw_iald (n := 1000) (f := (mLoad u S).a 4) (a := x) (i := 45) hx hb hK hM 1 (hV1.2.1 4 (by decide)) rfl rfl (by omega) (by decide) d_Model_look_75 ?_
      have r6 : -1000000 ≤ (mLoad u S).a 4 (x : Int).toNat ∧ (mLoad u S).a 4 (x : Int).toNat ≤ 1000000 := hV1.2.2.1 4 _
      exact mw_iret hx hb hr hM hS hlocks d_Model_look_76 (by rw [show mLook u x w S = ((mLoad u S).a 4 (x : Int).toNat, mLoad u S) by first | (exfalso; omega) | (unfold mLook; rw [if_neg (zne2 c2)]; unfold mLk; (first | (exfalso; omega) | (repeat (first | rw [if_pos (by first | assumption | omega)] | rw [if_neg (by first | assumption | exact zne (by assumption) | omega)]))))]; exact ⟨rfl, rfl, hV1, (fun r h => by rw [hk1 r (by omega)])⟩)
    · refine lv_tableIn (off := 65) (tgt := 77) hx hb d_Model_look_12 (by rw [iI_toInt (by omega)]; omega) (by rw [iI_toInt (by omega)]; omega) (by rw [iI_toInt (by omega), c4]; rfl) (by decide) ?_
      refine lv_aload_n hx hb d_Model_look_77 rfl (lv_at hl 0 rfl) ?_
      refine lv_iload_n hx hb d_Model_look_78 rfl (lv_at hl 2 rfl) ?_
      refine lv_iconst (v := iI (1)) hx hb d_Model_look_79 rfl ?_
      refine mw_rdV (i := 40) (As := [.int (iI x), .int (iI 1)]) (rest := []) ⟨hx, hb, hml, hown, hts⟩ hK hM hS rfl hV1.1 rfl (c_Model_nextIn l D g lo L κ1 (mLoad u S) hV1 x 1 (by omega) (by omega) hT) (cwV 2 hts (gV m_718 m_720 m_31 m_58 m_721) rfl rfl rfl (by decide +kernel) ⟨Nat.le_of_ble_eq_true rfl, Nat.le_of_ble_eq_true rfl⟩) rfl hl.1 rfl (Nat.le_of_ble_eq_true rfl) d_Model_look_80 ⟨Nat.le_of_ble_eq_true rfl, Nat.le_of_ble_eq_true rfl⟩ (fun H locs hM hS => ?_)
      exact mw_iret hx hb hr hM hS hlocks d_Model_look_83 (by rw [show mLook u x w S = (mNx (mLoad u S) x 1, mLoad u S) by first | (exfalso; omega) | (unfold mLook; rw [if_neg (zne2 c2)]; unfold mLk; (first | (exfalso; omega) | (repeat (first | rw [if_pos (by first | assumption | omega)] | rw [if_neg (by first | assumption | exact zne (by assumption) | omega)]))))]; exact ⟨rfl, rfl, hV1, (fun r h => by rw [hk1 r (by omega)])⟩)
    · refine lv_tableIn (off := 72) (tgt := 84) hx hb d_Model_look_12 (by rw [iI_toInt (by omega)]; omega) (by rw [iI_toInt (by omega)]; omega) (by rw [iI_toInt (by omega), c4]; rfl) (by decide) ?_
      refine lv_iload_n hx hb d_Model_look_84 rfl (lv_at hl 2 rfl) ?_
      refine ia_if_ne (a := x) (tgt := 92) hx hb d_Model_look_85 (by decide) (by omega) (fun c7 => ?_) (fun c7 => ?_)
      · refine lv_aload_n hx hb d_Model_look_92 rfl (lv_at hl 0 rfl) ?_
        refine lv_aload_n hx hb d_Model_look_93 rfl (lv_at hl 0 rfl) ?_
        refine mw_get (ci := 4) (i := 40) (v := .ref (L 45)) (C := R_Model) (T := T_Model) (N := 23) hx hb hts in_Model hown hK hM hV1.1 rfl rfl 9 (by decide) (hts _ m_554) rfl d_Model_look_94 ?_
        refine lv_iload_n hx hb d_Model_look_97 rfl (lv_at hl 2 rfl) ?_
        refine mw_iald (n := 1000) (f := (mLoad u S).a 4) (a := x) (i := 45) hx hb hK hM 1 (hV1.2.1 4 (by decide)) rfl rfl (by omega) (by decide) d_Model_look_98 ?_
        have r8 : -1000000 ≤ (mLoad u S).a 4 (x : Int).toNat ∧ (mLoad u S).a 4 (x : Int).toNat ≤ 1000000 := hV1.2.2.1 4 _
        refine lv_iload_n hx hb d_Model_look_99 rfl (lv_at hl 2 rfl) ?_
        refine lv_iconst (v := iI (1)) hx hb d_Model_look_100 rfl ?_
        refine ia_add hx hb d_Model_look_101 ?_
        refine mw_rdV (i := 40) (As := [.int (iI ((mLoad u S).a 4 (x : Int).toNat)), .int (iI (x + 1))]) (rest := []) ⟨hx, hb, hml, hown, hts⟩ hK hM hS rfl hV1.1 rfl (c_Model_nextIn l D g lo L κ1 (mLoad u S) hV1 ((mLoad u S).a 4 (x : Int).toNat) (x + 1) (by omega) (by omega) hT) (cwV 2 hts (gV m_718 m_720 m_31 m_58 m_721) rfl rfl rfl (by decide +kernel) ⟨Nat.le_of_ble_eq_true rfl, Nat.le_of_ble_eq_true rfl⟩) rfl hl.1 rfl (Nat.le_of_ble_eq_true rfl) d_Model_look_102 ⟨Nat.le_of_ble_eq_true rfl, Nat.le_of_ble_eq_true rfl⟩ (fun H locs hM hS => ?_)
        exact mw_iret hx hb hr hM hS hlocks d_Model_look_105 (by rw [show mLook u x w S = (mNx (mLoad u S) ((mLoad u S).a 4 (x : Int).toNat) (x + 1), mLoad u S) by first | (exfalso; omega) | (unfold mLook; rw [if_neg (zne2 c2)]; unfold mLk; (first | (exfalso; omega) | (repeat (first | rw [if_pos (by first | assumption | omega)] | rw [if_neg (by first | assumption | exact zne (by assumption) | omega)]))))]; exact ⟨rfl, rfl, hV1, (fun r h => by rw [hk1 r (by omega)])⟩)
      · refine lv_iconst (v := iI (-1)) hx hb d_Model_look_88 rfl ?_
        refine lv_goto (tgt := 105) hx hb d_Model_look_89 (by decide) ?_
        exact mw_iret hx hb hr hM hS hlocks d_Model_look_105 (by rw [show mLook u x w S = (-1, mLoad u S) by first | (exfalso; omega) | (unfold mLook; rw [if_neg (zne2 c2)]; unfold mLk; (first | (exfalso; omega) | (repeat (first | rw [if_pos (by first | assumption | omega)] | rw [if_neg (by first | assumption | exact zne (by assumption) | omega)]))))]; exact ⟨rfl, rfl, hV1, (fun r h => by rw [hk1 r (by omega)])⟩)
    · refine lv_tableIn (off := 94) (tgt := 106) hx hb d_Model_look_12 (by rw [iI_toInt (by omega)]; omega) (by rw [iI_toInt (by omega)]; omega) (by rw [iI_toInt (by omega), c4]; rfl) (by decide) ?_
      refine lv_iload_n hx hb d_Model_look_106 rfl (lv_at hl 2 rfl) ?_
      refine ia_if_ne (a := x) (tgt := 114) hx hb d_Model_look_107 (by decide) (by omega) (fun c9 => ?_) (fun c9 => ?_)
      · refine lv_aload_n hx hb d_Model_look_114 rfl (lv_at hl 0 rfl) ?_
        refine mw_get (ci := 4) (i := 40) (v := .ref (L 47)) (C := R_Model) (T := T_Model) (N := 23) hx hb hts in_Model hown hK hM hV1.1 rfl rfl 11 (by decide) (hts _ m_556) rfl d_Model_look_115 ?_
        refine lv_iload_n hx hb d_Model_look_118 rfl (lv_at hl 2 rfl) ?_
        refine mw_iald (n := 1000) (f := (mLoad u S).a 6) (a := x) (i := 47) hx hb hK hM 1 (hV1.2.1 6 (by decide)) rfl rfl (by omega) (by decide) d_Model_look_119 ?_
        have r10 : -1000000 ≤ (mLoad u S).a 6 (x : Int).toNat ∧ (mLoad u S).a 6 (x : Int).toNat ≤ 1000000 := hV1.2.2.1 6 _
        refine lv_aload_n hx hb d_Model_look_120 rfl (lv_at hl 0 rfl) ?_
        refine mw_get (ci := 4) (i := 40) (v := .ref (L 46)) (C := R_Model) (T := T_Model) (N := 23) hx hb hts in_Model hown hK hM hV1.1 rfl rfl 10 (by decide) (hts _ m_555) rfl d_Model_look_121 ?_
        refine lv_iload_n hx hb d_Model_look_124 rfl (lv_at hl 2 rfl) ?_
        refine mw_iald (n := 1000) (f := (mLoad u S).a 5) (a := x) (i := 46) hx hb hK hM 1 (hV1.2.1 5 (by decide)) rfl rfl (by omega) (by decide) d_Model_look_125 ?_
        have r11 : -1000000 ≤ (mLoad u S).a 5 (x : Int).toNat ∧ (mLoad u S).a 5 (x : Int).toNat ≤ 1000000 := hV1.2.2.1 5 _
        refine ia_sub hx hb d_Model_look_126 ?_
        refine lv_iconst (v := iI (1)) hx hb d_Model_look_127 rfl ?_
        refine ia_sub hx hb d_Model_look_128 ?_
        exact mw_iret hx hb hr hM hS hlocks d_Model_look_129 (by rw [show mLook u x w S = ((((mLoad u S).a 6 (x : Int).toNat) - ((mLoad u S).a 5 (x : Int).toNat)) - 1, mLoad u S) by first | (exfalso; omega) | (unfold mLook; rw [if_neg (zne2 c2)]; unfold mLk; (first | (exfalso; omega) | (repeat (first | rw [if_pos (by first | assumption | omega)] | rw [if_neg (by first | assumption | exact zne (by assumption) | omega)]))))]; exact ⟨rfl, rfl, hV1, (fun r h => by rw [hk1 r (by omega)])⟩)
      · refine lv_iconst (v := iI (0)) hx hb d_Model_look_110 rfl ?_
        refine lv_goto (tgt := 129) hx hb d_Model_look_111 (by decide) ?_
        exact mw_iret hx hb hr hM hS hlocks d_Model_look_129 (by rw [show mLook u x w S = (0, mLoad u S) by first | (exfalso; omega) | (unfold mLook; rw [if_neg (zne2 c2)]; unfold mLk; (first | (exfalso; omega) | (repeat (first | rw [if_pos (by first | assumption | omega)] | rw [if_neg (by first | assumption | exact zne (by assumption) | omega)]))))]; exact ⟨rfl, rfl, hV1, (fun r h => by rw [hk1 r (by omega)])⟩)
    · refine lv_tableIn (off := 118) (tgt := 130) hx hb d_Model_look_12 (by rw [iI_toInt (by omega)]; omega) (by rw [iI_toInt (by omega)]; omega) (by rw [iI_toInt (by omega), c4]; rfl) (by decide) ?_
      refine lv_aload_n hx hb d_Model_look_130 rfl (lv_at hl 0 rfl) ?_
      refine mw_get (ci := 4) (i := 40) (v := .ref (L 48)) (C := R_Model) (T := T_Model) (N := 23) hx hb hts in_Model hown hK hM hV1.1 rfl rfl 12 (by decide) (hts _ m_557) rfl d_Model_look_131 ?_
      refine lv_iload_n hx hb d_Model_look_134 rfl (lv_at hl 2 rfl) ?_
      refine mw_iald (n := 1000) (f := (mLoad u S).a 7) (a := x) (i := 48) hx hb hK hM 1 (hV1.2.1 7 (by decide)) rfl rfl (by omega) (by decide) d_Model_look_135 ?_
      have r12 : -1000000 ≤ (mLoad u S).a 7 (x : Int).toNat ∧ (mLoad u S).a 7 (x : Int).toNat ≤ 1000000 := hV1.2.2.1 7 _
      refine lv_aload_n hx hb d_Model_look_136 rfl (lv_at hl 0 rfl) ?_
      refine lv_iload_n hx hb d_Model_look_137 rfl (lv_at hl 2 rfl) ?_
      refine mw_rdV (i := 40) (As := [.int (iI x)]) (rest := [.int (iI ((mLoad u S).a 7 (x : Int).toNat))]) ⟨hx, hb, hml, hown, hts⟩ hK hM hS rfl hV1.1 rfl (c_Model_valueAt l D g lo L κ1 (mLoad u S) hV1 x (by omega) hT) (cwV 1 hts (gV m_722 m_724 m_32 m_58 m_725) rfl rfl rfl (by decide +kernel) ⟨Nat.le_of_ble_eq_true rfl, Nat.le_of_ble_eq_true rfl⟩) rfl hl.1 rfl (Nat.le_of_ble_eq_true rfl) d_Model_look_138 ⟨Nat.le_of_ble_eq_true rfl, Nat.le_of_ble_eq_true rfl⟩ (fun H locs hM hS => ?_)
      have r13 := mVal_r hT (x := x) (by omega)
      refine ia_sub hx hb d_Model_look_141 ?_
      exact mw_iret hx hb hr hM hS hlocks d_Model_look_142 (by rw [show mLook u x w S = (((mLoad u S).a 7 (x : Int).toNat) - (mVal x (mLoad u S)), mLoad u S) by first | (exfalso; omega) | (unfold mLook; rw [if_neg (zne2 c2)]; unfold mLk; (first | (exfalso; omega) | (repeat (first | rw [if_pos (by first | assumption | omega)] | rw [if_neg (by first | assumption | exact zne (by assumption) | omega)]))))]; exact ⟨rfl, rfl, hV1, (fun r h => by rw [hk1 r (by omega)])⟩)
    · refine lv_tableIn (off := 131) (tgt := 143) hx hb d_Model_look_12 (by rw [iI_toInt (by omega)]; omega) (by rw [iI_toInt (by omega)]; omega) (by rw [iI_toInt (by omega), c4]; rfl) (by decide) ?_
      refine lv_aload_n hx hb d_Model_look_143 rfl (lv_at hl 0 rfl) ?_
      refine lv_iload_n hx hb d_Model_look_144 rfl (lv_at hl 2 rfl) ?_
      refine mw_rdV (i := 40) (As := [.int (iI x)]) (rest := []) ⟨hx, hb, hml, hown, hts⟩ hK hM hS rfl hV1.1 rfl (c_Model_kindOf l D g lo L κ1 (mLoad u S) hV1 x (by omega) hT) (cwV 1 hts (gV m_714 m_716 m_30 m_58 m_717) rfl rfl rfl (by decide +kernel) ⟨Nat.le_of_ble_eq_true rfl, Nat.le_of_ble_eq_true rfl⟩) rfl hl.1 rfl (Nat.le_of_ble_eq_true rfl) d_Model_look_145 ⟨Nat.le_of_ble_eq_true rfl, Nat.le_of_ble_eq_true rfl⟩ (fun H locs hM hS => ?_)
      have r14 := mKind_r hV1 x
      refine lv_iconst (v := iI (2)) hx hb d_Model_look_148 rfl ?_
      refine ia_icmp_ne (a := mKind x (mLoad u S)) (b := 2) (tgt := 169) hx hb d_Model_look_149 (by decide) (by omega) (by omega) (fun c15 => ?_) (fun c15 => ?_)
      · refine lv_iconst (v := iI (0)) hx hb d_Model_look_169 rfl ?_
        exact mw_iret hx hb hr hM hS hlocks d_Model_look_170 (by rw [show mLook u x w S = (0, mLoad u S) by first | (exfalso; omega) | (unfold mLook; rw [if_neg (zne2 c2)]; unfold mLk; (first | (exfalso; omega) | (repeat (first | rw [if_pos (by first | assumption | omega)] | rw [if_neg (by first | assumption | exact zne (by assumption) | omega)]))))]; exact ⟨rfl, rfl, hV1, (fun r h => by rw [hk1 r (by omega)])⟩)
      · refine lv_aload_n hx hb d_Model_look_152 rfl (lv_at hl 0 rfl) ?_
        refine mw_get (ci := 4) (i := 40) (v := .ref (L 48)) (C := R_Model) (T := T_Model) (N := 23) hx hb hts in_Model hown hK hM hV1.1 rfl rfl 12 (by decide) (hts _ m_557) rfl d_Model_look_153 ?_
        refine lv_iload_n hx hb d_Model_look_156 rfl (lv_at hl 2 rfl) ?_
        refine mw_iald (n := 1000) (f := (mLoad u S).a 7) (a := x) (i := 48) hx hb hK hM 1 (hV1.2.1 7 (by decide)) rfl rfl (by omega) (by decide) d_Model_look_157 ?_
        have r16 : -1000000 ≤ (mLoad u S).a 7 (x : Int).toNat ∧ (mLoad u S).a 7 (x : Int).toNat ≤ 1000000 := hV1.2.2.1 7 _
        refine lv_aload_n hx hb d_Model_look_158 rfl (lv_at hl 0 rfl) ?_
        refine lv_iload_n hx hb d_Model_look_159 rfl (lv_at hl 2 rfl) ?_
        refine mw_rdV (i := 40) (As := [.int (iI x)]) (rest := [.int (iI ((mLoad u S).a 7 (x : Int).toNat))]) ⟨hx, hb, hml, hown, hts⟩ hK hM hS rfl hV1.1 rfl (c_Model_valueAt l D g lo L κ1 (mLoad u S) hV1 x (by omega) hT) (cwV 1 hts (gV m_722 m_724 m_32 m_58 m_725) rfl rfl rfl (by decide +kernel) ⟨Nat.le_of_ble_eq_true rfl, Nat.le_of_ble_eq_true rfl⟩) rfl hl.1 rfl (Nat.le_of_ble_eq_true rfl) d_Model_look_160 ⟨Nat.le_of_ble_eq_true rfl, Nat.le_of_ble_eq_true rfl⟩ (fun H locs hM hS => ?_)
        have r17 := mVal_r hT (x := x) (by omega)
        refine ia_sub hx hb d_Model_look_163 ?_
        refine lv_iconst (v := iI (5)) hx hb d_Model_look_164 rfl ?_
        refine ia_sub hx hb d_Model_look_165 ?_
        refine lv_goto (tgt := 170) hx hb d_Model_look_166 (by decide) ?_
        exact mw_iret hx hb hr hM hS hlocks d_Model_look_170 (by rw [show mLook u x w S = ((((mLoad u S).a 7 (x : Int).toNat) - (mVal x (mLoad u S))) - 5, mLoad u S) by first | (exfalso; omega) | (unfold mLook; rw [if_neg (zne2 c2)]; unfold mLk; (first | (exfalso; omega) | (repeat (first | rw [if_pos (by first | assumption | omega)] | rw [if_neg (by first | assumption | exact zne (by assumption) | omega)]))))]; exact ⟨rfl, rfl, hV1, (fun r h => by rw [hk1 r (by omega)])⟩)
    · refine lv_tableIn (off := 159) (tgt := 171) hx hb d_Model_look_12 (by rw [iI_toInt (by omega)]; omega) (by rw [iI_toInt (by omega)]; omega) (by rw [iI_toInt (by omega), c4]; rfl) (by decide) ?_
      refine lv_aload_n hx hb d_Model_look_171 rfl (lv_at hl 0 rfl) ?_
      refine lv_iload_n hx hb d_Model_look_172 rfl (lv_at hl 2 rfl) ?_
      refine mw_rdV (i := 40) (As := [.int (iI x)]) (rest := []) ⟨hx, hb, hml, hown, hts⟩ hK hM hS rfl hV1.1 rfl (c_Model_isBox l D g lo L κ1 (mLoad u S) hV1 x (by omega) hT) (cwV 1 hts (gV m_726 m_728 m_33 m_58 m_729) rfl rfl rfl (by decide +kernel) ⟨Nat.le_of_ble_eq_true rfl, Nat.le_of_ble_eq_true rfl⟩) rfl hl.1 rfl (Nat.le_of_ble_eq_true rfl) d_Model_look_173 ⟨Nat.le_of_ble_eq_true rfl, Nat.le_of_ble_eq_true rfl⟩ (fun H locs hM hS => ?_)
      refine ia_ifz_eq (x := mBox x (mLoad u S)) (tgt := 187) hx hb d_Model_look_176 (by decide) (fun c18 => ?_) (fun c18 => ?_)
      · refine lv_iconst (v := iI (0)) hx hb d_Model_look_187 rfl ?_
        exact mw_iret hx hb hr hM hS hlocks d_Model_look_188 (by rw [show mLook u x w S = (0, mLoad u S) by first | (exfalso; omega) | (unfold mLook; rw [if_neg (zne2 c2)]; unfold mLk; (first | (exfalso; omega) | (repeat (first | rw [if_pos (by first | assumption | omega)] | rw [if_neg (by first | assumption | exact zne (by assumption) | omega)]))))]; exact ⟨rfl, rfl, hV1, (fun r h => by rw [hk1 r (by omega)])⟩)
      · refine lv_aload_n hx hb d_Model_look_179 rfl (lv_at hl 0 rfl) ?_
        refine lv_iload_n hx hb d_Model_look_180 rfl (lv_at hl 2 rfl) ?_
        refine mw_rdV (i := 40) (As := [.int (iI x)]) (rest := []) ⟨hx, hb, hml, hown, hts⟩ hK hM hS rfl hV1.1 rfl (c_Model_elements l D g lo L κ1 (mLoad u S) hV1 x (by omega) hT) (cwV 1 hts (gV m_730 m_732 m_34 m_58 m_733) rfl rfl rfl (by decide +kernel) ⟨Nat.le_of_ble_eq_true rfl, Nat.le_of_ble_eq_true rfl⟩) rfl hl.1 rfl (Nat.le_of_ble_eq_true rfl) d_Model_look_181 ⟨Nat.le_of_ble_eq_true rfl, Nat.le_of_ble_eq_true rfl⟩ (fun H locs hM hS => ?_)
        have r19 := mEls_r (nd := x) (S := mLoad u S) (by omega)
        refine lv_goto (tgt := 188) hx hb d_Model_look_184 (by decide) ?_
        exact mw_iret hx hb hr hM hS hlocks d_Model_look_188 (by rw [show mLook u x w S = (mEls x (mLoad u S), mLoad u S) by first | (exfalso; omega) | (unfold mLook; rw [if_neg (zne2 c2)]; unfold mLk; (first | (exfalso; omega) | (repeat (first | rw [if_pos (by first | assumption | omega)] | rw [if_neg (by first | assumption | exact zne (by assumption) | omega)]))))]; exact ⟨rfl, rfl, hV1, (fun r h => by rw [hk1 r (by omega)])⟩)
    · refine lv_tableIn (off := 177) (tgt := 189) hx hb d_Model_look_12 (by rw [iI_toInt (by omega)]; omega) (by rw [iI_toInt (by omega)]; omega) (by rw [iI_toInt (by omega), c4]; rfl) (by decide) ?_
      refine lv_aload_n hx hb d_Model_look_189 rfl (lv_at hl 0 rfl) ?_
      refine mw_get (ci := 4) (i := 40) (v := .ref (L 49)) (C := R_Model) (T := T_Model) (N := 23) hx hb hts in_Model hown hK hM hV1.1 rfl rfl 13 (by decide) (hts _ m_558) rfl d_Model_look_190 ?_
      refine lv_iload_n hx hb d_Model_look_193 rfl (lv_at hl 2 rfl) ?_
      refine mw_iald (n := 1000) (f := (mLoad u S).a 8) (a := x) (i := 49) hx hb hK hM 1 (hV1.2.1 8 (by decide)) rfl rfl (by omega) (by decide) d_Model_look_194 ?_
      have r20 : -1000000 ≤ (mLoad u S).a 8 (x : Int).toNat ∧ (mLoad u S).a 8 (x : Int).toNat ≤ 1000000 := hV1.2.2.1 8 _
      exact mw_iret hx hb hr hM hS hlocks d_Model_look_195 (by rw [show mLook u x w S = ((mLoad u S).a 8 (x : Int).toNat, mLoad u S) by first | (exfalso; omega) | (unfold mLook; rw [if_neg (zne2 c2)]; unfold mLk; (first | (exfalso; omega) | (repeat (first | rw [if_pos (by first | assumption | omega)] | rw [if_neg (by first | assumption | exact zne (by assumption) | omega)]))))]; exact ⟨rfl, rfl, hV1, (fun r h => by rw [hk1 r (by omega)])⟩)
  · refine lv_iconst (v := iI (-1)) hx hb d_Model_look_9 rfl ?_
    exact mw_iret hx hb hr hM hS hlocks d_Model_look_10 (by rw [show mLook u x w S = (-1, (mIsNode u x S).2) by first | (exfalso; omega) | (unfold mLook; rw [if_pos (by assumption)])]; exact ⟨rfl, rfl, hV1, (fun r h => by rw [hk1 r (by omega)])⟩)
set_option maxHeartbeats 4000000 in
set_option maxRecDepth 100000 in
theorem c_Model_numberOf (l : Launch) (D : va_G) (g : Nat → ClassId) (lo : Nat) (L : Nat → Nat) (κ : Nat → Option va_E) (S : MS) (hV : mds g L κ S) (x : Int) (hx0 : 0 ≤ x ∧ x < S.f 3) (hT : mTb S) : Met l y_Model_numberOf w_Model_numberOf ({ frames := 1, cells := 0, slots := 0, locals := 25 }) (mwP D vwCl (tyL g) lo L κ [.ref (L 40), .int (iI x)]) (mwQ D vwCl lo (mwR (some (.long (lI (mNumOf x S)))) L κ)) 0 0 (fun q => lo ≤ q) := by
  refine Met.ofW (cc := b_Model_numberOf) (maxL := 3) (ret := (Option.some Jvm.ClassFile.FieldType.long)) (by decide) rfl ?_
  intro p e s m args below meth c s₁ B hml hpre
  obtain ⟨hargs, hM, hK⟩ := hpre
  have hx := B.exec
  have hb := B.bytes
  have hr := B.returns
  have hts : ∀ w ∈ wA, w.before args s = true := fun w h => atoms_spec (ws := w_Model_numberOf) B.pre w (List.mem_cons_of_mem _ h)
  have hown : s.vm.findClass R_Model = some m.cls := findClass_of_methodNamed B.named
  have hlocks := B.notSynchronized
  have hS : va_S (fun q => lo ≤ q) s.heap s.heap [] := va_S.rf
  have hT1 := hT.1
  have hTx := hT.2 x.toNat (by omega)
  obtain ⟨ls, hls, hl⟩ := mw_entry (m := m) [.ref (L 40), .int (iI x)] (n := 3) (Nat.le_of_ble_eq_true rfl) hargs
  refine W.eq hls ?_
  have hl : lv_has ls 3 [(0, .ref (L 40)), (1, .int (iI x))] := hl
  refine lv_aload_n hx hb d_Model_numberOf_0 rfl (lv_at hl 0 rfl) ?_
  refine lv_iload_n hx hb d_Model_numberOf_1 rfl (lv_at hl 1 rfl) ?_
  refine mw_rdV (i := 40) (As := [.int (iI x)]) (rest := []) ⟨hx, hb, hml, hown, hts⟩ hK hM hS rfl hV.1 rfl (c_Model_valueAt l D g lo L κ S hV x (by omega) hT) (cwV 1 hts (gV m_722 m_724 m_32 m_58 m_725) rfl rfl rfl (by decide +kernel) ⟨Nat.le_of_ble_eq_true rfl, Nat.le_of_ble_eq_true rfl⟩) rfl hl.1 rfl (Nat.le_of_ble_eq_true rfl) d_Model_numberOf_2 ⟨Nat.le_of_ble_eq_true rfl, Nat.le_of_ble_eq_true rfl⟩ (fun H locs hM hS => ?_)
  have r1 := mVal_r hT (x := x) (by omega)
  refine lv_istore_n (lv' := [(2, .int (iI (mVal x S))), (0, .ref (L 40)), (1, .int (iI x))]) hx hb d_Model_numberOf_5 rfl hl (by decide) rfl (fun ls hl => ?_)
  refine lv_aload_n hx hb d_Model_numberOf_6 rfl (lv_at hl 1 rfl) ?_
  refine lv_iload_n hx hb d_Model_numberOf_7 rfl (lv_at hl 2 rfl) ?_
  refine mw_rdV (i := 40) (As := [.int (iI x)]) (rest := []) ⟨hx, hb, hml, hown, hts⟩ hK hM hS rfl hV.1 rfl (c_Model_kindOf l D g lo L κ S hV x (by omega) hT) (cwV 1 hts (gV m_714 m_716 m_30 m_58 m_717) rfl rfl rfl (by decide +kernel) ⟨Nat.le_of_ble_eq_true rfl, Nat.le_of_ble_eq_true rfl⟩) rfl hl.1 rfl (Nat.le_of_ble_eq_true rfl) d_Model_numberOf_8 ⟨Nat.le_of_ble_eq_true rfl, Nat.le_of_ble_eq_true rfl⟩ (fun H locs hM hS => ?_)
  have r2 := mKind_r hV x
  rcases (show (mKind x S) = 8 ∨ (mKind x S) = 16 ∨ (mKind x S) = 18 ∨ (¬ (mKind x S) = 8 ∧ ¬ (mKind x S) = 16 ∧ ¬ (mKind x S) = 18) by omega) with c3 | c3 | c3 | ⟨c3_0, c3_1, c3_2⟩
  · refine lv_lookup (off := 50) (tgt := 61) hx hb d_Model_numberOf_11 (by decide) (by rw [iI_toInt (by omega), c3]; rfl) (by decide) ?_
    refine lv_aload_n hx hb d_Model_numberOf_61 rfl (lv_at hl 1 rfl) ?_
    refine mw_get (ci := 4) (i := 40) (v := .ref (L 44)) (C := R_Model) (T := T_Model) (N := 23) hx hb hts in_Model hown hK hM hV.1 rfl rfl 6 (by decide) (hts _ m_551) rfl d_Model_numberOf_62 ?_
    refine lv_iload_n hx hb d_Model_numberOf_65 rfl (lv_at hl 0 rfl) ?_
    refine mw_iald (n := 4400) (f := S.a 3) (a := mVal x S) (i := 44) hx hb hK hM 1 (hV.2.1 3 (by decide)) rfl rfl (by omega) (by decide) d_Model_numberOf_66 ?_
    have r4 : 0 ≤ S.a 3 (mVal x S : Int).toNat ∧ S.a 3 (mVal x S : Int).toNat ≤ 255 := hV.2.2.1 3 _
    refine ia_i2l hx hb (by omega) d_Model_numberOf_67 ?_
    exact mw_lret hx hb hr hM hS hlocks d_Model_numberOf_68 (mwR_l (by unfold mNumOf; (first | (exfalso; omega) | (repeat (first | rw [if_pos (by first | assumption | omega)] | rw [if_neg (by first | assumption | exact zne (by assumption) | omega)])))))
  · refine lv_lookup (off := 33) (tgt := 44) hx hb d_Model_numberOf_11 (by decide) (by rw [iI_toInt (by omega), c3]; rfl) (by decide) ?_
    refine lv_aload_n hx hb d_Model_numberOf_44 rfl (lv_at hl 1 rfl) ?_
    refine lv_iload_n hx hb d_Model_numberOf_45 rfl (lv_at hl 0 rfl) ?_
    refine lv_iconst (v := iI (4)) hx hb d_Model_numberOf_46 rfl ?_
    refine mw_rdV (i := 40) (As := [.int (iI (mVal x S)), .int (iI 4)]) (rest := []) ⟨hx, hb, hml, hown, hts⟩ hK hM hS rfl hV.1 rfl (c_Model_low l D g lo L κ S hV (mVal x S) 4 (by omega) (by omega)) (cwV 2 hts (gV m_642 m_644 m_21 m_58 m_645) rfl rfl rfl (by decide +kernel) ⟨Nat.le_of_ble_eq_true rfl, Nat.le_of_ble_eq_true rfl⟩) rfl hl.1 rfl (Nat.le_of_ble_eq_true rfl) d_Model_numberOf_47 ⟨Nat.le_of_ble_eq_true rfl, Nat.le_of_ble_eq_true rfl⟩ (fun H locs hM hS => ?_)
    have r5 := (show 0 ≤ mLow (S.a 3) (mVal x S) 4 ∧ mLow (S.a 3) (mVal x S) 4 < 4294967296 from mLow4_r (hV.2.2.1 3) (mVal x S))
    refine ia_l2i hx hb d_Model_numberOf_50 ?_
    refine W.eq (g2 := F0 m 51 ls [.int (iI ((mLow (S.a 3) (mVal x S) 4 + 2147483648) % 4294967296 - 2147483648))]) (by rw [iI_ext (a := mLow (S.a 3) (mVal x S) 4) (b := (mLow (S.a 3) (mVal x S) 4 + 2147483648) % 4294967296 - 2147483648) (by omega)] <;> rfl) ?_
    refine ia_i2l hx hb (by omega) d_Model_numberOf_51 ?_
    exact mw_lret hx hb hr hM hS hlocks d_Model_numberOf_52 (mwR_l (by unfold mNumOf; (first | (exfalso; omega) | (repeat (first | rw [if_pos (by first | assumption | omega)] | rw [if_neg (by first | assumption | exact zne (by assumption) | omega)])))))
  · refine lv_lookup (off := 42) (tgt := 53) hx hb d_Model_numberOf_11 (by decide) (by rw [iI_toInt (by omega), c3]; rfl) (by decide) ?_
    refine lv_aload_n hx hb d_Model_numberOf_53 rfl (lv_at hl 1 rfl) ?_
    refine lv_iload_n hx hb d_Model_numberOf_54 rfl (lv_at hl 0 rfl) ?_
    refine lv_bipush (v := iI (8)) hx hb d_Model_numberOf_55 (by decide) ?_
    refine mw_rdV (i := 40) (As := [.int (iI (mVal x S)), .int (iI 8)]) (rest := []) ⟨hx, hb, hml, hown, hts⟩ hK hM hS rfl hV.1 rfl (c_Model_low l D g lo L κ S hV (mVal x S) 8 (by omega) (by omega)) (cwV 2 hts (gV m_642 m_644 m_21 m_58 m_645) rfl rfl rfl (by decide +kernel) ⟨Nat.le_of_ble_eq_true rfl, Nat.le_of_ble_eq_true rfl⟩) rfl hl.1 rfl (Nat.le_of_ble_eq_true rfl) d_Model_numberOf_57 ⟨Nat.le_of_ble_eq_true rfl, Nat.le_of_ble_eq_true rfl⟩ (fun H locs hM hS => ?_)
    exact mw_lret hx hb hr hM hS hlocks d_Model_numberOf_60 (mwR_l (by unfold mNumOf; (first | (exfalso; omega) | (repeat (first | rw [if_pos (by first | assumption | omega)] | rw [if_neg (by first | assumption | exact zne (by assumption) | omega)])))))
  · refine lv_lookup (off := 58) (tgt := 69) hx hb d_Model_numberOf_11 (by decide) (by rw [iI_toInt (by omega)]; simp only [Op.lookupswitch.offset]; rw [if_neg (by omega)]; rw [if_neg (by omega)]; rw [if_neg (by omega)]) (by decide) ?_
    refine lv_lconst (v := lI (0)) hx hb d_Model_numberOf_69 (by decide) ?_
    exact mw_lret hx hb hr hM hS hlocks d_Model_numberOf_70 (mwR_l (by unfold mNumOf; (first | (exfalso; omega) | (repeat (first | rw [if_pos (by first | assumption | omega)] | rw [if_neg (by first | assumption | exact zne (by assumption) | omega)])))))
set_option maxHeartbeats 4000000 in
set_option maxRecDepth 100000 in
theorem c_Model_number (l : Launch) (D : va_G) (g : Nat → ClassId) (lo : Nat) (L : Nat → Nat) (κ : Nat → Option va_E) (S : MS) (hV : mds g L κ S) (u x : Int) (hu : -2147483648 ≤ u ∧ u < 2147483648) (hx : -2147483648 ≤ x ∧ x < 2147483648) (hL : mLdOK u S) (hz : mSzs S) : Met l y_Model_number w_Model_number ({ frames := 8, cells := 0, slots := 0, locals := 198 }) (mwP D vwCl (tyL g) lo L κ [.ref (L 40), .int (iI u), .int (iI x)]) (mwQ D vwCl lo (mdQ g L κ (some (.long (lI (mNumber u x S).1))) (mNumber u x S).2)) 0 0 (fun q => lo ≤ q) := by
  refine Met.ofW (cc := b_Model_number) (maxL := 3) (ret := (Option.some Jvm.ClassFile.FieldType.long)) (by decide) rfl ?_
  intro p e s m args below meth c s₁ B hml hpre
  obtain ⟨hargs, hM, hK⟩ := hpre
  have hx := B.exec
  have hb := B.bytes
  have hr := B.returns
  have hts : ∀ w ∈ wA, w.before args s = true := fun w h => atoms_spec (ws := w_Model_number) B.pre w (List.mem_cons_of_mem _ h)
  have hown : s.vm.findClass R_Model = some m.cls := findClass_of_methodNamed B.named
  have hlocks := B.notSynchronized
  have hS : va_S (fun q => lo ≤ q) s.heap s.heap [] := va_S.rf
  obtain ⟨ls, hls, hl⟩ := mw_entry (m := m) [.ref (L 40), .int (iI u), .int (iI x)] (n := 3) (Nat.le_of_ble_eq_true rfl) hargs
  refine W.eq hls ?_
  have hl : lv_has ls 3 [(0, .ref (L 40)), (1, .int (iI u)), (2, .int (iI x))] := hl
  refine lv_aload_n hx hb d_Model_number_0 rfl (lv_at hl 0 rfl) ?_
  refine lv_iload_n hx hb d_Model_number_1 rfl (lv_at hl 1 rfl) ?_
  refine lv_iload_n hx hb d_Model_number_2 rfl (lv_at hl 2 rfl) ?_
  refine mw_callV (i := 40) (As := [.int (iI u), .int (iI x)]) (rest := []) ⟨hx, hb, hml, hown, hts⟩ hK hM hS rfl hV.1 rfl (c_Model_isNode l D g lo L κ S hV u x (by omega) (by omega) hL hz) (cwV 2 hts (gV m_710 m_712 m_29 m_58 m_713) rfl rfl rfl (by decide +kernel) ⟨Nat.le_of_ble_eq_true rfl, Nat.le_of_ble_eq_true rfl⟩) rfl hl.1 rfl (Nat.le_of_ble_eq_true rfl) d_Model_number_3 ⟨Nat.le_of_ble_eq_true rfl, Nat.le_of_ble_eq_true rfl⟩ (fun v1 L1 κ1 H locs hp1 hM hS => ?_)
  obtain ⟨rfl, rfl, hV1, hk1⟩ := hp1
  refine ia_ifz_eq (x := (mIsNode u x S).1) (tgt := 17) hx hb d_Model_number_6 (by decide) (fun c2 => ?_) (fun c2 => ?_)
  · refine lv_lconst (v := lI (0)) hx hb d_Model_number_17 (by decide) ?_
    exact mw_lret hx hb hr hM hS hlocks d_Model_number_18 (by rw [show mNumber u x S = (0, (mIsNode u x S).2) by first | (exfalso; omega) | (unfold mNumber; rw [if_pos (by assumption)])]; exact ⟨rfl, rfl, hV1, (fun r h => by rw [hk1 r (by omega)])⟩)
  · obtain ⟨hy3a, hy3b, hy3c⟩ := mNode_t c2
    rw [hy3b] at hV1
    have hT := (hL hy3a).2
    have hT1 := hT.1
    have hTx := hT.2 x.toNat (by omega)
    refine lv_aload_n hx hb d_Model_number_9 rfl (lv_at hl 0 rfl) ?_
    refine lv_iload_n hx hb d_Model_number_10 rfl (lv_at hl 2 rfl) ?_
    refine mw_rdV (i := 40) (As := [.int (iI x)]) (rest := []) ⟨hx, hb, hml, hown, hts⟩ hK hM hS rfl hV1.1 rfl (c_Model_numberOf l D g lo L κ1 (mLoad u S) hV1 x (by omega) hT) (cwV 1 hts (gV m_738 m_740 m_35 m_58 m_741) rfl rfl rfl (by decide +kernel) ⟨Nat.le_of_ble_eq_true rfl, Nat.le_of_ble_eq_true rfl⟩) rfl hl.1 rfl (Nat.le_of_ble_eq_true rfl) d_Model_number_11 ⟨Nat.le_of_ble_eq_true rfl, Nat.le_of_ble_eq_true rfl⟩ (fun H locs hM hS => ?_)
    refine lv_goto (tgt := 18) hx hb d_Model_number_14 (by decide) ?_
    exact mw_lret hx hb hr hM hS hlocks d_Model_number_18 (by rw [show mNumber u x S = (mNumOf x (mLoad u S), mLoad u S) by first | (exfalso; omega) | (unfold mNumber; rw [if_neg (zne2 c2)])]; exact ⟨rfl, rfl, hV1, (fun r h => by rw [hk1 r (by omega)])⟩)
set_option maxHeartbeats 4000000 in
set_option maxRecDepth 100000 in
theorem c_Model_letter (l : Launch) (D : va_G) (g : Nat → ClassId) (lo : Nat) (L : Nat → Nat) (κ : Nat → Option va_E) (S : MS) (hV : mds g L κ S) (u x : Int) (t : Bool) (i : Int) (hu : -2147483648 ≤ u ∧ u < 2147483648) (hx : -2147483648 ≤ x ∧ x < 2147483648) (hi : -2147483648 ≤ i ∧ i < 2147483648) (hL : mLdOK u S) (hz : mSzs S) : Met l y_Model_letter w_Model_letter ({ frames := 8, cells := 0, slots := 0, locals := 198 }) (mwP D vwCl (tyL g) lo L κ [.ref (L 40), .int (iI u), .int (iI x), .int (iI (bI t)), .int (iI i)]) (mwQ D vwCl lo (mdQ g L κ (some (.int (iI (mLetter u x t i S).1))) (mLetter u x t i S).2)) 0 0 (fun q => lo ≤ q) := by
  refine Met.ofW (cc := b_Model_letter) (maxL := 5) (ret := (Option.some Jvm.ClassFile.FieldType.int)) (by decide) rfl ?_
  intro p e s m args below meth c s₁ B hml hpre
  obtain ⟨hargs, hM, hK⟩ := hpre
  have hx := B.exec
  have hb := B.bytes
  have hr := B.returns
  have hts : ∀ w ∈ wA, w.before args s = true := fun w h => atoms_spec (ws := w_Model_letter) B.pre w (List.mem_cons_of_mem _ h)
  have hown : s.vm.findClass R_Model = some m.cls := findClass_of_methodNamed B.named
  have hlocks := B.notSynchronized
  have hS : va_S (fun q => lo ≤ q) s.heap s.heap [] := va_S.rf
  obtain ⟨ls, hls, hl⟩ := mw_entry (m := m) [.ref (L 40), .int (iI u), .int (iI x), .int (iI (bI t)), .int (iI i)] (n := 5) (Nat.le_of_ble_eq_true rfl) hargs
  refine W.eq hls ?_
  have hl : lv_has ls 5 [(0, .ref (L 40)), (1, .int (iI u)), (2, .int (iI x)), (3, .int (iI (bI t))), (4, .int (iI i))] := hl
  refine lv_aload_n hx hb d_Model_letter_0 rfl (lv_at hl 0 rfl) ?_
  refine lv_iload_n hx hb d_Model_letter_1 rfl (lv_at hl 1 rfl) ?_
  refine lv_iload_n hx hb d_Model_letter_2 rfl (lv_at hl 2 rfl) ?_
  refine mw_callV (i := 40) (As := [.int (iI u), .int (iI x)]) (rest := []) ⟨hx, hb, hml, hown, hts⟩ hK hM hS rfl hV.1 rfl (c_Model_isNode l D g lo L κ S hV u x (by omega) (by omega) hL hz) (cwV 2 hts (gV m_710 m_712 m_29 m_58 m_713) rfl rfl rfl (by decide +kernel) ⟨Nat.le_of_ble_eq_true rfl, Nat.le_of_ble_eq_true rfl⟩) rfl hl.1 rfl (Nat.le_of_ble_eq_true rfl) d_Model_letter_3 ⟨Nat.le_of_ble_eq_true rfl, Nat.le_of_ble_eq_true rfl⟩ (fun v1 L1 κ1 H locs hp1 hM hS => ?_)
  obtain ⟨rfl, rfl, hV1, hk1⟩ := hp1
  refine ia_ifz_eq (x := (mIsNode u x S).1) (tgt := 14) hx hb d_Model_letter_6 (by decide) (fun c2 => ?_) (fun c2 => ?_)
  · refine lv_iconst (v := iI (-1)) hx hb d_Model_letter_14 rfl ?_
    exact mw_iret hx hb hr hM hS hlocks d_Model_letter_15 (by rw [show mLetter u x t i S = (-1, (mIsNode u x S).2) by first | (exfalso; omega) | (unfold mLetter; rw [if_pos (by assumption)])]; exact ⟨rfl, rfl, hV1, (fun r h => by rw [hk1 r (by omega)])⟩)
  · obtain ⟨hy3a, hy3b, hy3c⟩ := mNode_t c2
    rw [hy3b] at hV1
    have hT := (hL hy3a).2
    have hT1 := hT.1
    have hTx := hT.2 x.toNat (by omega)
    refine lv_iload hx hb d_Model_letter_9 (lv_at hl 4 rfl) ?_
    refine ia_if_ge (a := i) (tgt := 16) hx hb d_Model_letter_11 (by decide) (by omega) (fun c4 => ?_) (fun c4 => ?_)
    · refine lv_iload_n hx hb d_Model_letter_16 rfl (lv_at hl 3 rfl) ?_
      refine ia_ifz_eq (x := t) (tgt := 68) hx hb d_Model_letter_17 (by decide) (fun c5 => ?_) (fun c5 => ?_)
      · refine lv_iload_n hx hb d_Model_letter_68 rfl (lv_at hl 2 rfl) ?_
        refine ia_if_le (a := x) (tgt := 111) hx hb d_Model_letter_69 (by decide) (by omega) (fun c6 => ?_) (fun c6 => ?_)
        · refine lv_iconst (v := iI (-1)) hx hb d_Model_letter_111 rfl ?_
          exact mw_iret hx hb hr hM hS hlocks d_Model_letter_112 (by rw [show mLetter u x t i S = (-1, mLoad u S) by first | (exfalso; omega) | (unfold mLetter; rw [if_neg (zne2 c2), if_neg (by omega)]; unfold mLet; (first | (exfalso; omega) | (repeat (first | rw [if_pos (by first | assumption | omega)] | rw [if_neg (by first | assumption | exact zne (by assumption) | omega)]))))]; exact ⟨rfl, rfl, hV1, (fun r h => by rw [hk1 r (by omega)])⟩)
        · refine lv_iload hx hb d_Model_letter_72 (lv_at hl 4 rfl) ?_
          refine lv_aload_n hx hb d_Model_letter_74 rfl (lv_at hl 0 rfl) ?_
          refine mw_get (ci := 4) (i := 40) (v := .ref (L 47)) (C := R_Model) (T := T_Model) (N := 23) hx hb hts in_Model hown hK hM hV1.1 rfl rfl 11 (by decide) (hts _ m_556) rfl d_Model_letter_75 ?_
          refine lv_iload_n hx hb d_Model_letter_78 rfl (lv_at hl 2 rfl) ?_
          refine mw_iald (n := 1000) (f := (mLoad u S).a 6) (a := x) (i := 47) hx hb hK hM 1 (hV1.2.1 6 (by decide)) rfl rfl (by omega) (by decide) d_Model_letter_79 ?_
          have r7 : -1000000 ≤ (mLoad u S).a 6 (x : Int).toNat ∧ (mLoad u S).a 6 (x : Int).toNat ≤ 1000000 := hV1.2.2.1 6 _
          refine lv_aload_n hx hb d_Model_letter_80 rfl (lv_at hl 0 rfl) ?_
          refine mw_get (ci := 4) (i := 40) (v := .ref (L 46)) (C := R_Model) (T := T_Model) (N := 23) hx hb hts in_Model hown hK hM hV1.1 rfl rfl 10 (by decide) (hts _ m_555) rfl d_Model_letter_81 ?_
          refine lv_iload_n hx hb d_Model_letter_84 rfl (lv_at hl 2 rfl) ?_
          refine mw_iald (n := 1000) (f := (mLoad u S).a 5) (a := x) (i := 46) hx hb hK hM 1 (hV1.2.1 5 (by decide)) rfl rfl (by omega) (by decide) d_Model_letter_85 ?_
          have r8 : -1000000 ≤ (mLoad u S).a 5 (x : Int).toNat ∧ (mLoad u S).a 5 (x : Int).toNat ≤ 1000000 := hV1.2.2.1 5 _
          refine ia_sub hx hb d_Model_letter_86 ?_
          refine lv_iconst (v := iI (1)) hx hb d_Model_letter_87 rfl ?_
          refine ia_sub hx hb d_Model_letter_88 ?_
          refine ia_icmp_ge (a := i) (b := (((mLoad u S).a 6 (x : Int).toNat) - ((mLoad u S).a 5 (x : Int).toNat)) - 1) (tgt := 111) hx hb d_Model_letter_89 (by decide) (by omega) (by omega) (fun c9 => ?_) (fun c9 => ?_)
          · refine lv_iconst (v := iI (-1)) hx hb d_Model_letter_111 rfl ?_
            exact mw_iret hx hb hr hM hS hlocks d_Model_letter_112 (by rw [show mLetter u x t i S = (-1, mLoad u S) by first | (exfalso; omega) | (unfold mLetter; rw [if_neg (zne2 c2), if_neg (by omega)]; unfold mLet; (first | (exfalso; omega) | (repeat (first | rw [if_pos (by first | assumption | omega)] | rw [if_neg (by first | assumption | exact zne (by assumption) | omega)]))))]; exact ⟨rfl, rfl, hV1, (fun r h => by rw [hk1 r (by omega)])⟩)
          · refine lv_aload_n hx hb d_Model_letter_92 rfl (lv_at hl 0 rfl) ?_
            refine mw_get (ci := 4) (i := 40) (v := .ref (L 44)) (C := R_Model) (T := T_Model) (N := 23) hx hb hts in_Model hown hK hM hV1.1 rfl rfl 6 (by decide) (hts _ m_551) rfl d_Model_letter_93 ?_
            refine lv_aload_n hx hb d_Model_letter_96 rfl (lv_at hl 0 rfl) ?_
            refine mw_get (ci := 4) (i := 40) (v := .ref (L 46)) (C := R_Model) (T := T_Model) (N := 23) hx hb hts in_Model hown hK hM hV1.1 rfl rfl 10 (by decide) (hts _ m_555) rfl d_Model_letter_97 ?_
            refine lv_iload_n hx hb d_Model_letter_100 rfl (lv_at hl 2 rfl) ?_
            refine mw_iald (n := 1000) (f := (mLoad u S).a 5) (a := x) (i := 46) hx hb hK hM 1 (hV1.2.1 5 (by decide)) rfl rfl (by omega) (by decide) d_Model_letter_101 ?_
            have r10 : -1000000 ≤ (mLoad u S).a 5 (x : Int).toNat ∧ (mLoad u S).a 5 (x : Int).toNat ≤ 1000000 := hV1.2.2.1 5 _
            refine lv_iconst (v := iI (1)) hx hb d_Model_letter_102 rfl ?_
            refine ia_add hx hb d_Model_letter_103 ?_
            refine lv_iload hx hb d_Model_letter_104 (lv_at hl 4 rfl) ?_
            refine ia_add hx hb d_Model_letter_106 ?_
            refine mw_iald (n := 4400) (f := (mLoad u S).a 3) (a := (((mLoad u S).a 5 (x : Int).toNat) + 1) + i) (i := 44) hx hb hK hM 1 (hV1.2.1 3 (by decide)) rfl rfl (by omega) (by decide) d_Model_letter_107 ?_
            have r11 : 0 ≤ (mLoad u S).a 3 ((((mLoad u S).a 5 (x : Int).toNat) + 1) + i : Int).toNat ∧ (mLoad u S).a 3 ((((mLoad u S).a 5 (x : Int).toNat) + 1) + i : Int).toNat ≤ 255 := hV1.2.2.1 3 _
            refine lv_goto (tgt := 112) hx hb d_Model_letter_108 (by decide) ?_
            exact mw_iret hx hb hr hM hS hlocks d_Model_letter_112 (by rw [show mLetter u x t i S = ((mLoad u S).a 3 ((((mLoad u S).a 5 (x : Int).toNat) + 1) + i : Int).toNat, mLoad u S) by first | (exfalso; omega) | (unfold mLetter; rw [if_neg (zne2 c2), if_neg (by omega)]; unfold mLet; (first | (exfalso; omega) | (repeat (first | rw [if_pos (by first | assumption | omega)] | rw [if_neg (by first | assumption | exact zne (by assumption) | omega)]))))]; exact ⟨rfl, rfl, hV1, (fun r h => by rw [hk1 r (by omega)])⟩)
      · refine lv_aload_n hx hb d_Model_letter_20 rfl (lv_at hl 0 rfl) ?_
        refine lv_iload_n hx hb d_Model_letter_21 rfl (lv_at hl 2 rfl) ?_
        refine mw_rdV (i := 40) (As := [.int (iI x)]) (rest := []) ⟨hx, hb, hml, hown, hts⟩ hK hM hS rfl hV1.1 rfl (c_Model_kindOf l D g lo L κ1 (mLoad u S) hV1 x (by omega) hT) (cwV 1 hts (gV m_714 m_716 m_30 m_58 m_717) rfl rfl rfl (by decide +kernel) ⟨Nat.le_of_ble_eq_true rfl, Nat.le_of_ble_eq_true rfl⟩) rfl hl.1 rfl (Nat.le_of_ble_eq_true rfl) d_Model_letter_22 ⟨Nat.le_of_ble_eq_true rfl, Nat.le_of_ble_eq_true rfl⟩ (fun H locs hM hS => ?_)
        have r12 := mKind_r hV1 x
        refine lv_iconst (v := iI (2)) hx hb d_Model_letter_25 rfl ?_
        refine ia_icmp_ne (a := mKind x (mLoad u S)) (b := 2) (tgt := 66) hx hb d_Model_letter_26 (by decide) (by omega) (by omega) (fun c13 => ?_) (fun c13 => ?_)
        · refine lv_iconst (v := iI (-1)) hx hb d_Model_letter_66 rfl ?_
          exact mw_iret hx hb hr hM hS hlocks d_Model_letter_67 (by rw [show mLetter u x t i S = (-1, mLoad u S) by first | (exfalso; omega) | (unfold mLetter; rw [if_neg (zne2 c2), if_neg (by omega)]; unfold mLet; (first | (exfalso; omega) | (repeat (first | rw [if_pos (by first | assumption | omega)] | rw [if_neg (by first | assumption | exact zne (by assumption) | omega)]))))]; exact ⟨rfl, rfl, hV1, (fun r h => by rw [hk1 r (by omega)])⟩)
        · refine lv_iload hx hb d_Model_letter_29 (lv_at hl 4 rfl) ?_
          refine lv_aload_n hx hb d_Model_letter_31 rfl (lv_at hl 0 rfl) ?_
          refine mw_get (ci := 4) (i := 40) (v := .ref (L 48)) (C := R_Model) (T := T_Model) (N := 23) hx hb hts in_Model hown hK hM hV1.1 rfl rfl 12 (by decide) (hts _ m_557) rfl d_Model_letter_32 ?_
          refine lv_iload_n hx hb d_Model_letter_35 rfl (lv_at hl 2 rfl) ?_
          refine mw_iald (n := 1000) (f := (mLoad u S).a 7) (a := x) (i := 48) hx hb hK hM 1 (hV1.2.1 7 (by decide)) rfl rfl (by omega) (by decide) d_Model_letter_36 ?_
          have r14 : -1000000 ≤ (mLoad u S).a 7 (x : Int).toNat ∧ (mLoad u S).a 7 (x : Int).toNat ≤ 1000000 := hV1.2.2.1 7 _
          refine lv_aload_n hx hb d_Model_letter_37 rfl (lv_at hl 0 rfl) ?_
          refine lv_iload_n hx hb d_Model_letter_38 rfl (lv_at hl 2 rfl) ?_
          refine mw_rdV (i := 40) (As := [.int (iI x)]) (rest := [.int (iI ((mLoad u S).a 7 (x : Int).toNat)), .int (iI i)]) ⟨hx, hb, hml, hown, hts⟩ hK hM hS rfl hV1.1 rfl (c_Model_valueAt l D g lo L κ1 (mLoad u S) hV1 x (by omega) hT) (cwV 1 hts (gV m_722 m_724 m_32 m_58 m_725) rfl rfl rfl (by decide +kernel) ⟨Nat.le_of_ble_eq_true rfl, Nat.le_of_ble_eq_true rfl⟩) rfl hl.1 rfl (Nat.le_of_ble_eq_true rfl) d_Model_letter_39 ⟨Nat.le_of_ble_eq_true rfl, Nat.le_of_ble_eq_true rfl⟩ (fun H locs hM hS => ?_)
          have r15 := mVal_r hT (x := x) (by omega)
          refine ia_sub hx hb d_Model_letter_42 ?_
          refine lv_iconst (v := iI (5)) hx hb d_Model_letter_43 rfl ?_
          refine ia_sub hx hb d_Model_letter_44 ?_
          refine ia_icmp_ge (a := i) (b := (((mLoad u S).a 7 (x : Int).toNat) - (mVal x (mLoad u S))) - 5) (tgt := 66) hx hb d_Model_letter_45 (by decide) (by omega) (by omega) (fun c16 => ?_) (fun c16 => ?_)
          · refine lv_iconst (v := iI (-1)) hx hb d_Model_letter_66 rfl ?_
            exact mw_iret hx hb hr hM hS hlocks d_Model_letter_67 (by rw [show mLetter u x t i S = (-1, mLoad u S) by first | (exfalso; omega) | (unfold mLetter; rw [if_neg (zne2 c2), if_neg (by omega)]; unfold mLet; (first | (exfalso; omega) | (repeat (first | rw [if_pos (by first | assumption | omega)] | rw [if_neg (by first | assumption | exact zne (by assumption) | omega)]))))]; exact ⟨rfl, rfl, hV1, (fun r h => by rw [hk1 r (by omega)])⟩)
          · refine lv_aload_n hx hb d_Model_letter_48 rfl (lv_at hl 0 rfl) ?_
            refine mw_get (ci := 4) (i := 40) (v := .ref (L 44)) (C := R_Model) (T := T_Model) (N := 23) hx hb hts in_Model hown hK hM hV1.1 rfl rfl 6 (by decide) (hts _ m_551) rfl d_Model_letter_49 ?_
            refine lv_aload_n hx hb d_Model_letter_52 rfl (lv_at hl 0 rfl) ?_
            refine lv_iload_n hx hb d_Model_letter_53 rfl (lv_at hl 2 rfl) ?_
            refine mw_rdV (i := 40) (As := [.int (iI x)]) (rest := [.ref (L 44)]) ⟨hx, hb, hml, hown, hts⟩ hK hM hS rfl hV1.1 rfl (c_Model_valueAt l D g lo L κ1 (mLoad u S) hV1 x (by omega) hT) (cwV 1 hts (gV m_722 m_724 m_32 m_58 m_725) rfl rfl rfl (by decide +kernel) ⟨Nat.le_of_ble_eq_true rfl, Nat.le_of_ble_eq_true rfl⟩) rfl hl.1 rfl (Nat.le_of_ble_eq_true rfl) d_Model_letter_54 ⟨Nat.le_of_ble_eq_true rfl, Nat.le_of_ble_eq_true rfl⟩ (fun H locs hM hS => ?_)
            have r17 := mVal_r hT (x := x) (by omega)
            refine lv_iconst (v := iI (4)) hx hb d_Model_letter_57 rfl ?_
            refine ia_add hx hb d_Model_letter_58 ?_
            refine lv_iload hx hb d_Model_letter_59 (lv_at hl 4 rfl) ?_
            refine ia_add hx hb d_Model_letter_61 ?_
            refine mw_iald (n := 4400) (f := (mLoad u S).a 3) (a := ((mVal x (mLoad u S)) + 4) + i) (i := 44) hx hb hK hM 1 (hV1.2.1 3 (by decide)) rfl rfl (by omega) (by decide) d_Model_letter_62 ?_
            have r18 : 0 ≤ (mLoad u S).a 3 (((mVal x (mLoad u S)) + 4) + i : Int).toNat ∧ (mLoad u S).a 3 (((mVal x (mLoad u S)) + 4) + i : Int).toNat ≤ 255 := hV1.2.2.1 3 _
            refine lv_goto (tgt := 67) hx hb d_Model_letter_63 (by decide) ?_
            exact mw_iret hx hb hr hM hS hlocks d_Model_letter_67 (by rw [show mLetter u x t i S = ((mLoad u S).a 3 (((mVal x (mLoad u S)) + 4) + i : Int).toNat, mLoad u S) by first | (exfalso; omega) | (unfold mLetter; rw [if_neg (zne2 c2), if_neg (by omega)]; unfold mLet; (first | (exfalso; omega) | (repeat (first | rw [if_pos (by first | assumption | omega)] | rw [if_neg (by first | assumption | exact zne (by assumption) | omega)]))))]; exact ⟨rfl, rfl, hV1, (fun r h => by rw [hk1 r (by omega)])⟩)
    · refine lv_iconst (v := iI (-1)) hx hb d_Model_letter_14 rfl ?_
      exact mw_iret hx hb hr hM hS hlocks d_Model_letter_15 (by rw [show mLetter u x t i S = (-1, mLoad u S) by first | (exfalso; omega) | (unfold mLetter; rw [if_neg (zne2 c2), if_pos (by omega)])]; exact ⟨rfl, rfl, hV1, (fun r h => by rw [hk1 r (by omega)])⟩)
set_option maxHeartbeats 4000000 in
set_option maxRecDepth 100000 in
theorem c_Model_findName (l : Launch) (D : va_G) (g : Nat → ClassId) (lo : Nat) (L : Nat → Nat) (κ : Nat → Option va_E) (S : MS) (hV : mds g L κ S) (x n : Int) (hx0 : -1000000 ≤ x ∧ x ≤ 1000000) (hn0 : -1000 ≤ n ∧ n ≤ 2000) (hT : mTb S) : Met l y_Model_findName w_Model_findName ({ frames := 0, cells := 0, slots := 0, locals := 0 }) (mwP D vwCl (tyL g) lo L κ [.ref (L 40), .int (iI x), .int (iI n)]) (mwQ D vwCl lo (mwR (some (.int (iI (mFd S x (S.a 0) 0 n 1)))) L κ)) 0 0 (fun q => lo ≤ q) := by
  refine Met.ofW (cc := b_Model_findName) (maxL := 6) (ret := (Option.some Jvm.ClassFile.FieldType.int)) (by decide) rfl ?_
  intro p e s m args below meth c s₁ B hml hpre
  obtain ⟨hargs, hM, hK⟩ := hpre
  have hx := B.exec
  have hb := B.bytes
  have hr := B.returns
  have hts : ∀ w ∈ wA, w.before args s = true := fun w h => atoms_spec (ws := w_Model_findName) B.pre w (List.mem_cons_of_mem _ h)
  have hown : s.vm.findClass R_Model = some m.cls := findClass_of_methodNamed B.named
  have hlocks := B.notSynchronized
  have hS : va_S (fun q => lo ≤ q) s.heap s.heap [] := va_S.rf
  have hT1 := hT.1
  have hTt := mTb_tab hT
  have loop2 : ∀ (N : Nat) (k : Int), (S.f 3 - k).toNat < N → (1 ≤ k ∧ k ≤ 1001) → (mFd S x (S.a 0) 0 n 1 = mFd S x (S.a 0) 0 n k) → ∀ (H : Heap) (locs : List Loc) (ls : Array Slot), mw D vwCl lo L κ H → va_S (fun q => lo ≤ q) s.heap H locs → lv_has ls 6 [(3, .int (iI k)), (0, .ref (L 40)), (1, .int (iI x)), (2, .int (iI n))] → W p l e (headSpec w_Model_findName ({ frames := 0, cells := 0, slots := 0, locals := 0 })).room s m args below meth c H locs 0 0 (MQ below (mwQ D vwCl lo (mwR (some (.int (iI (mFd S x (S.a 0) 0 n 1)))) L κ)) args s 0 0 (fun q => lo ≤ q)) (F0 m 2 ls []) := by
    intro N
    induction N with
    | zero => intro k hms; exact absurd hms (Nat.not_lt_zero _)
    | succ N ih =>
      intro k hms hk hres H locs ls hM hS hl
      have htk := hTt.2 k.toNat
      have loop49 : ∀ (N1 : Nat) (i : Int) (sm : Bool), (n - i).toNat < N1 → (k < S.f 3) → (0 ≤ i ∧ i ≤ 5000 ∧ i ≤ (n).toNat + 1) → (sm = true → S.a 6 k.toNat - S.a 5 k.toNat - 1 = n) → (mHit S (x) (S.a 0) (0) (n) k = (sm && mSm (S.a 3) (S.a 5 k.toNat + 1) (S.a 0) (0) (n) i)) → ∀ (H : Heap) (locs : List Loc) (ls : Array Slot), mw D vwCl lo L κ H → va_S (fun q => lo ≤ q) s.heap H locs → lv_has ls 6 [(5, .int (iI i)), (4, .int (iI (bI sm))), (3, .int (iI k)), (0, .ref (L 40)), (1, .int (iI x)), (2, .int (iI n))] → W p l e (headSpec w_Model_findName ({ frames := 0, cells := 0, slots := 0, locals := 0 })).room s m args below meth c H locs 0 0 (MQ below (mwQ D vwCl lo (mwR (some (.int (iI (mFd S x (S.a 0) 0 n 1)))) L κ)) args s 0 0 (fun q => lo ≤ q)) (F0 m 49 ls []) := by
        intro N1
        induction N1 with
        | zero => intro i sm hms1; exact absurd hms1 (Nat.not_lt_zero _)
        | succ N1 ih1 =>
          intro i sm hms1 hkn hi hsm hht H locs ls hM hS hl
          refine lv_iload hx hb d_Model_findName_49 (lv_at hl 0 rfl) ?_
          refine lv_iload_n hx hb d_Model_findName_51 rfl (lv_at hl 5 rfl) ?_
          refine ia_icmp_ge (a := i) (b := n) (tgt := 99) hx hb d_Model_findName_52 (by decide) (by omega) (by omega) (fun c1 => ?_) (fun c1 => ?_)
          · refine lv_iload hx hb d_Model_findName_99 (lv_at hl 1 rfl) ?_
            refine ia_ifz_eq (x := sm) (tgt := 106) hx hb d_Model_findName_101 (by decide) (fun c2 => ?_) (fun c2 => ?_)
            · refine lv_iinc (v := iI (k + 1)) (lv' := [(3, .int (iI (k + 1))), (5, .int (iI i)), (4, .int (iI (bI sm))), (0, .ref (L 40)), (1, .int (iI x)), (2, .int (iI n))]) hx hb d_Model_findName_106 hl (k := 2) rfl (iI_inc _ _) (by decide) rfl (fun ls hl => ?_)
              refine lv_goto (tgt := 2) hx hb d_Model_findName_109 (by decide) ?_
              exact ih (k + 1) (by omega) (by omega) (by rw [hres, mFd_s (by omega), if_neg (show ¬ mHit S (x) (S.a 0) (0) (n) k = true by rw [hht, show sm = false by assumption]; simp)]) _ _ ls hM hS (lv_sub hl [0, 3, 4, 5] rfl)
            · refine lv_iload_n hx hb d_Model_findName_104 rfl (lv_at hl 2 rfl) ?_
              exact mw_iret hx hb hr hM hS hlocks d_Model_findName_105 (mwR_i (by rw [hres, mFd_s (by omega), if_pos (show mHit S (x) (S.a 0) (0) (n) k = true by rw [hht, show sm = true by assumption, mSm_e (by omega)]; rfl)]))
          · refine lv_iload hx hb d_Model_findName_55 (lv_at hl 1 rfl) ?_
            refine ia_ifz_eq (x := sm) (tgt := 99) hx hb d_Model_findName_57 (by decide) (fun c3 => ?_) (fun c3 => ?_)
            · refine lv_iload hx hb d_Model_findName_99 (lv_at hl 1 rfl) ?_
              refine ia_ifz_eq (x := sm) (tgt := 106) hx hb d_Model_findName_101 (by decide) (fun c4 => ?_) (fun c4 => ?_)
              · refine lv_iinc (v := iI (k + 1)) (lv' := [(3, .int (iI (k + 1))), (5, .int (iI i)), (4, .int (iI (bI sm))), (0, .ref (L 40)), (1, .int (iI x)), (2, .int (iI n))]) hx hb d_Model_findName_106 hl (k := 2) rfl (iI_inc _ _) (by decide) rfl (fun ls hl => ?_)
                refine lv_goto (tgt := 2) hx hb d_Model_findName_109 (by decide) ?_
                exact ih (k + 1) (by omega) (by omega) (by rw [hres, mFd_s (by omega), if_neg (show ¬ mHit S (x) (S.a 0) (0) (n) k = true by rw [hht, show sm = false by assumption]; simp)]) _ _ ls hM hS (lv_sub hl [0, 3, 4, 5] rfl)
              · exact absurd (c3.symm.trans c4) (by decide)
            · have hsm2 := hsm (by assumption)
              refine lv_aload_n hx hb d_Model_findName_60 rfl (lv_at hl 3 rfl) ?_
              refine mw_get (ci := 4) (i := 40) (v := .ref (L 44)) (C := R_Model) (T := T_Model) (N := 23) hx hb hts in_Model hown hK hM hV.1 rfl rfl 6 (by decide) (hts _ m_551) rfl d_Model_findName_61 ?_
              refine lv_aload_n hx hb d_Model_findName_64 rfl (lv_at hl 3 rfl) ?_
              refine mw_get (ci := 4) (i := 40) (v := .ref (L 46)) (C := R_Model) (T := T_Model) (N := 23) hx hb hts in_Model hown hK hM hV.1 rfl rfl 10 (by decide) (hts _ m_555) rfl d_Model_findName_65 ?_
              refine lv_iload_n hx hb d_Model_findName_68 rfl (lv_at hl 2 rfl) ?_
              refine mw_iald (n := 1000) (f := S.a 5) (a := k) (i := 46) hx hb hK hM 1 (hV.2.1 5 (by decide)) rfl rfl (by omega) (by decide) d_Model_findName_69 ?_
              have r5 : -1000000 ≤ S.a 5 (k : Int).toNat ∧ S.a 5 (k : Int).toNat ≤ 1000000 := hV.2.2.1 5 _
              refine lv_iconst (v := iI (1)) hx hb d_Model_findName_70 rfl ?_
              refine ia_add hx hb d_Model_findName_71 ?_
              refine lv_iload hx hb d_Model_findName_72 (lv_at hl 0 rfl) ?_
              refine ia_add hx hb d_Model_findName_74 ?_
              refine mw_iald (n := 4400) (f := S.a 3) (a := ((S.a 5 (k : Int).toNat) + 1) + i) (i := 44) hx hb hK hM 1 (hV.2.1 3 (by decide)) rfl rfl (by omega) (by decide) d_Model_findName_75 ?_
              have r6 : 0 ≤ S.a 3 (((S.a 5 (k : Int).toNat) + 1) + i : Int).toNat ∧ S.a 3 (((S.a 5 (k : Int).toNat) + 1) + i : Int).toNat ≤ 255 := hV.2.2.1 3 _
              refine lv_aload_n hx hb d_Model_findName_76 rfl (lv_at hl 3 rfl) ?_
              refine mw_get (ci := 4) (i := 40) (v := .ref (L 41)) (C := R_Model) (T := T_Model) (N := 23) hx hb hts in_Model hown hK hM hV.1 rfl rfl 1 (by decide) (hts _ m_546) rfl d_Model_findName_77 ?_
              refine lv_iload hx hb d_Model_findName_80 (lv_at hl 0 rfl) ?_
              refine mw_iald (n := 2000) (f := S.a 0) (a := i) (i := 41) hx hb hK hM 1 (hV.2.1 0 (by decide)) rfl rfl (by omega) (by decide) d_Model_findName_82 ?_
              have r7 : 0 ≤ S.a 0 (i : Int).toNat ∧ S.a 0 (i : Int).toNat ≤ 255 := hV.2.2.1 0 _
              refine ia_icmp_ne (a := S.a 3 (((S.a 5 (k : Int).toNat) + 1) + i : Int).toNat) (b := S.a 0 (i : Int).toNat) (tgt := 90) hx hb d_Model_findName_83 (by decide) (by omega) (by omega) (fun c8 => ?_) (fun c8 => ?_)
              · refine lv_iconst (v := iI (0)) hx hb d_Model_findName_90 rfl ?_
                refine lv_istore (lv' := [(4, .int (iI 0)), (5, .int (iI i)), (3, .int (iI k)), (0, .ref (L 40)), (1, .int (iI x)), (2, .int (iI n))]) hx hb d_Model_findName_91 hl (by decide) rfl (fun ls hl => ?_)
                refine lv_iinc (v := iI (i + 1)) (lv' := [(5, .int (iI (i + 1))), (4, .int (iI 0)), (3, .int (iI k)), (0, .ref (L 40)), (1, .int (iI x)), (2, .int (iI n))]) hx hb d_Model_findName_93 hl (k := 1) rfl (iI_inc _ _) (by decide) rfl (fun ls hl => ?_)
                refine lv_goto (tgt := 49) hx hb d_Model_findName_96 (by decide) ?_
                exact ih1 (i + 1) false (by omega) hkn (by omega) (by intro z; cases z) (by rw [hht, show sm = true by assumption, mSm_s (by omega), if_neg (by rw [Int.zero_add]; omega)] <;> rfl) _ _ ls hM hS (lv_sub hl [0, 1, 2, 3, 4, 5] rfl)
              · refine lv_iconst (v := iI (1)) hx hb d_Model_findName_86 rfl ?_
                refine lv_goto (tgt := 91) hx hb d_Model_findName_87 (by decide) ?_
                refine lv_istore (lv' := [(4, .int (iI 1)), (5, .int (iI i)), (3, .int (iI k)), (0, .ref (L 40)), (1, .int (iI x)), (2, .int (iI n))]) hx hb d_Model_findName_91 hl (by decide) rfl (fun ls hl => ?_)
                refine lv_iinc (v := iI (i + 1)) (lv' := [(5, .int (iI (i + 1))), (4, .int (iI 1)), (3, .int (iI k)), (0, .ref (L 40)), (1, .int (iI x)), (2, .int (iI n))]) hx hb d_Model_findName_93 hl (k := 1) rfl (iI_inc _ _) (by decide) rfl (fun ls hl => ?_)
                refine lv_goto (tgt := 49) hx hb d_Model_findName_96 (by decide) ?_
                exact ih1 (i + 1) true (by omega) hkn (by omega) (by intro _; exact hsm (by assumption)) (by rw [hht, show sm = true by assumption, mSm_s (by omega), if_pos (by rw [Int.zero_add]; omega)] <;> rfl) _ _ ls hM hS (lv_sub hl [0, 1, 2, 3, 4, 5] rfl)
      refine lv_iload_n hx hb d_Model_findName_2 rfl (lv_at hl 0 rfl) ?_
      refine lv_aload_n hx hb d_Model_findName_3 rfl (lv_at hl 1 rfl) ?_
      refine mw_get (ci := 4) (i := 40) (v := .int (iI (S.f 3))) (C := R_Model) (T := T_Model) (N := 23) hx hb hts in_Model hown hK hM hV.1 rfl rfl 8 (by decide) (hts _ m_553) rfl d_Model_findName_4 ?_
      have r9 : -1000000 ≤ S.f 3 ∧ S.f 3 ≤ 1000000 := hV.2.2.2 3
      refine ia_icmp_ge (a := k) (b := S.f 3) (tgt := 112) hx hb d_Model_findName_7 (by decide) (by omega) (by omega) (fun c10 => ?_) (fun c10 => ?_)
      · refine lv_iconst (v := iI (-1)) hx hb d_Model_findName_112 rfl ?_
        exact mw_iret hx hb hr hM hS hlocks d_Model_findName_113 (mwR_i (by rw [hres, mFd_e (by omega)]))
      · refine lv_aload_n hx hb d_Model_findName_10 rfl (lv_at hl 1 rfl) ?_
        refine mw_get (ci := 4) (i := 40) (v := .ref (L 45)) (C := R_Model) (T := T_Model) (N := 23) hx hb hts in_Model hown hK hM hV.1 rfl rfl 9 (by decide) (hts _ m_554) rfl d_Model_findName_11 ?_
        refine lv_iload_n hx hb d_Model_findName_14 rfl (lv_at hl 0 rfl) ?_
        refine mw_iald (n := 1000) (f := S.a 4) (a := k) (i := 45) hx hb hK hM 1 (hV.2.1 4 (by decide)) rfl rfl (by omega) (by decide) d_Model_findName_15 ?_
        have r11 : -1000000 ≤ S.a 4 (k : Int).toNat ∧ S.a 4 (k : Int).toNat ≤ 1000000 := hV.2.2.1 4 _
        refine lv_iload_n hx hb d_Model_findName_16 rfl (lv_at hl 2 rfl) ?_
        refine ia_icmp_ne (a := S.a 4 (k : Int).toNat) (b := x) (tgt := 43) hx hb d_Model_findName_17 (by decide) (by omega) (by omega) (fun c12 => ?_) (fun c12 => ?_)
        · refine lv_iconst (v := iI (0)) hx hb d_Model_findName_43 rfl ?_
          refine lv_istore (lv' := [(4, .int (iI 0)), (3, .int (iI k)), (0, .ref (L 40)), (1, .int (iI x)), (2, .int (iI n))]) hx hb d_Model_findName_44 hl (by decide) rfl (fun ls hl => ?_)
          refine lv_iconst (v := iI (0)) hx hb d_Model_findName_46 rfl ?_
          refine lv_istore (lv' := [(5, .int (iI 0)), (4, .int (iI 0)), (3, .int (iI k)), (0, .ref (L 40)), (1, .int (iI x)), (2, .int (iI n))]) hx hb d_Model_findName_47 hl (by decide) rfl (fun ls hl => ?_)
          exact loop49 _ 0 false (Nat.lt_succ_self _) (by omega) (by omega) (by intro z; cases z) (by unfold mHit; rw [decide_eq_false (by omega)]) _ _ ls hM hS (lv_sub hl [0, 1, 2, 3, 4, 5] rfl)
        · refine lv_aload_n hx hb d_Model_findName_20 rfl (lv_at hl 1 rfl) ?_
          refine mw_get (ci := 4) (i := 40) (v := .ref (L 47)) (C := R_Model) (T := T_Model) (N := 23) hx hb hts in_Model hown hK hM hV.1 rfl rfl 11 (by decide) (hts _ m_556) rfl d_Model_findName_21 ?_
          refine lv_iload_n hx hb d_Model_findName_24 rfl (lv_at hl 0 rfl) ?_
          refine mw_iald (n := 1000) (f := S.a 6) (a := k) (i := 47) hx hb hK hM 1 (hV.2.1 6 (by decide)) rfl rfl (by omega) (by decide) d_Model_findName_25 ?_
          have r13 : -1000000 ≤ S.a 6 (k : Int).toNat ∧ S.a 6 (k : Int).toNat ≤ 1000000 := hV.2.2.1 6 _
          refine lv_aload_n hx hb d_Model_findName_26 rfl (lv_at hl 1 rfl) ?_
          refine mw_get (ci := 4) (i := 40) (v := .ref (L 46)) (C := R_Model) (T := T_Model) (N := 23) hx hb hts in_Model hown hK hM hV.1 rfl rfl 10 (by decide) (hts _ m_555) rfl d_Model_findName_27 ?_
          refine lv_iload_n hx hb d_Model_findName_30 rfl (lv_at hl 0 rfl) ?_
          refine mw_iald (n := 1000) (f := S.a 5) (a := k) (i := 46) hx hb hK hM 1 (hV.2.1 5 (by decide)) rfl rfl (by omega) (by decide) d_Model_findName_31 ?_
          have r14 : -1000000 ≤ S.a 5 (k : Int).toNat ∧ S.a 5 (k : Int).toNat ≤ 1000000 := hV.2.2.1 5 _
          refine ia_sub hx hb d_Model_findName_32 ?_
          refine lv_iconst (v := iI (1)) hx hb d_Model_findName_33 rfl ?_
          refine ia_sub hx hb d_Model_findName_34 ?_
          refine lv_iload_n hx hb d_Model_findName_35 rfl (lv_at hl 3 rfl) ?_
          refine ia_icmp_ne (a := ((S.a 6 (k : Int).toNat) - (S.a 5 (k : Int).toNat)) - 1) (b := n) (tgt := 43) hx hb d_Model_findName_36 (by decide) (by omega) (by omega) (fun c15 => ?_) (fun c15 => ?_)
          · refine lv_iconst (v := iI (0)) hx hb d_Model_findName_43 rfl ?_
            refine lv_istore (lv' := [(4, .int (iI 0)), (3, .int (iI k)), (0, .ref (L 40)), (1, .int (iI x)), (2, .int (iI n))]) hx hb d_Model_findName_44 hl (by decide) rfl (fun ls hl => ?_)
            refine lv_iconst (v := iI (0)) hx hb d_Model_findName_46 rfl ?_
            refine lv_istore (lv' := [(5, .int (iI 0)), (4, .int (iI 0)), (3, .int (iI k)), (0, .ref (L 40)), (1, .int (iI x)), (2, .int (iI n))]) hx hb d_Model_findName_47 hl (by decide) rfl (fun ls hl => ?_)
            exact loop49 _ 0 false (Nat.lt_succ_self _) (by omega) (by omega) (by intro z; cases z) (by unfold mHit; rw [decide_eq_false (by omega)]) _ _ ls hM hS (lv_sub hl [0, 1, 2, 3, 4, 5] rfl)
          · refine lv_iconst (v := iI (1)) hx hb d_Model_findName_39 rfl ?_
            refine lv_goto (tgt := 44) hx hb d_Model_findName_40 (by decide) ?_
            refine lv_istore (lv' := [(4, .int (iI 1)), (3, .int (iI k)), (0, .ref (L 40)), (1, .int (iI x)), (2, .int (iI n))]) hx hb d_Model_findName_44 hl (by decide) rfl (fun ls hl => ?_)
            refine lv_iconst (v := iI (0)) hx hb d_Model_findName_46 rfl ?_
            refine lv_istore (lv' := [(5, .int (iI 0)), (4, .int (iI 1)), (3, .int (iI k)), (0, .ref (L 40)), (1, .int (iI x)), (2, .int (iI n))]) hx hb d_Model_findName_47 hl (by decide) rfl (fun ls hl => ?_)
            exact loop49 _ 0 true (Nat.lt_succ_self _) (by omega) (by omega) (by intro _; omega) (by unfold mHit; rw [decide_eq_true (by omega)]) _ _ ls hM hS (lv_sub hl [0, 1, 2, 3, 4, 5] rfl)
  obtain ⟨ls, hls, hl⟩ := mw_entry (m := m) [.ref (L 40), .int (iI x), .int (iI n)] (n := 6) (Nat.le_of_ble_eq_true rfl) hargs
  refine W.eq hls ?_
  have hl : lv_has ls 6 [(0, .ref (L 40)), (1, .int (iI x)), (2, .int (iI n))] := hl
  refine lv_iconst (v := iI (1)) hx hb d_Model_findName_0 rfl ?_
  refine lv_istore_n (lv' := [(3, .int (iI 1)), (0, .ref (L 40)), (1, .int (iI x)), (2, .int (iI n))]) hx hb d_Model_findName_1 rfl hl (by decide) rfl (fun ls hl => ?_)
  exact loop2 _ 1 (Nat.lt_succ_self _) (by omega) rfl _ _ ls hM hS (lv_sub hl [0, 1, 2, 3] rfl)
set_option maxHeartbeats 4000000 in
set_option maxRecDepth 100000 in
theorem c_Model_find (l : Launch) (D : va_G) (g : Nat → ClassId) (lo : Nat) (L : Nat → Nat) (κ : Nat → Option va_E) (S : MS) (hV : mds g L κ S) (u x n : Int) (hu : -2147483648 ≤ u ∧ u < 2147483648) (hx : -2147483648 ≤ x ∧ x < 2147483648) (hn : -2147483648 ≤ n ∧ n < 2147483648) (hL : mLdOK u S) (hz : mSzs S) (ht0 : 0 ≤ S.f 0 ∧ S.f 0 ≤ 2000) : Met l y_Model_find w_Model_find ({ frames := 8, cells := 0, slots := 0, locals := 198 }) (mwP D vwCl (tyL g) lo L κ [.ref (L 40), .int (iI u), .int (iI x), .int (iI n)]) (mwQ D vwCl lo (mdQ g L κ (some (.int (iI (mFind u x n S).1))) (mFind u x n S).2)) 0 0 (fun q => lo ≤ q) := by
  refine Met.ofW (cc := b_Model_find) (maxL := 5) (ret := (Option.some Jvm.ClassFile.FieldType.int)) (by decide) rfl ?_
  intro p e s m args below meth c s₁ B hml hpre
  obtain ⟨hargs, hM, hK⟩ := hpre
  have hx := B.exec
  have hb := B.bytes
  have hr := B.returns
  have hts : ∀ w ∈ wA, w.before args s = true := fun w h => atoms_spec (ws := w_Model_find) B.pre w (List.mem_cons_of_mem _ h)
  have hown : s.vm.findClass R_Model = some m.cls := findClass_of_methodNamed B.named
  have hlocks := B.notSynchronized
  have hS : va_S (fun q => lo ≤ q) s.heap s.heap [] := va_S.rf
  obtain ⟨ls, hls, hl⟩ := mw_entry (m := m) [.ref (L 40), .int (iI u), .int (iI x), .int (iI n)] (n := 5) (Nat.le_of_ble_eq_true rfl) hargs
  refine W.eq hls ?_
  have hl : lv_has ls 5 [(0, .ref (L 40)), (1, .int (iI u)), (2, .int (iI x)), (3, .int (iI n))] := hl
  refine lv_iload_n hx hb d_Model_find_0 rfl (lv_at hl 3 rfl) ?_
  refine ia_if_lt (a := n) (tgt := 12) hx hb d_Model_find_1 (by decide) (by omega) (fun c1 => ?_) (fun c1 => ?_)
  · refine lv_iconst (v := iI (-1)) hx hb d_Model_find_12 rfl ?_
    exact mw_iret hx hb hr hM hS hlocks d_Model_find_13 (by rw [show mFind u x n S = (-1, S) by first | (exfalso; omega) | (unfold mFind; (first | (exfalso; omega) | (repeat (first | rw [if_pos (by first | assumption | omega)] | rw [if_neg (by first | assumption | exact zne (by assumption) | omega)]))))]; exact ⟨rfl, rfl, hV, (fun r h => rfl)⟩)
  · refine lv_iload_n hx hb d_Model_find_4 rfl (lv_at hl 3 rfl) ?_
    refine lv_aload_n hx hb d_Model_find_5 rfl (lv_at hl 0 rfl) ?_
    refine mw_get (ci := 4) (i := 40) (v := .int (iI (S.f 0))) (C := R_Model) (T := T_Model) (N := 23) hx hb hts in_Model hown hK hM hV.1 rfl rfl 2 (by decide) (hts _ m_547) rfl d_Model_find_6 ?_
    have r2 : -1000000 ≤ S.f 0 ∧ S.f 0 ≤ 1000000 := hV.2.2.2 0
    refine ia_icmp_le (a := n) (b := S.f 0) (tgt := 14) hx hb d_Model_find_9 (by decide) (by omega) (by omega) (fun c3 => ?_) (fun c3 => ?_)
    · refine lv_aload_n hx hb d_Model_find_14 rfl (lv_at hl 0 rfl) ?_
      refine lv_iload_n hx hb d_Model_find_15 rfl (lv_at hl 1 rfl) ?_
      refine lv_iload_n hx hb d_Model_find_16 rfl (lv_at hl 2 rfl) ?_
      refine mw_callV (i := 40) (As := [.int (iI u), .int (iI x)]) (rest := []) ⟨hx, hb, hml, hown, hts⟩ hK hM hS rfl hV.1 rfl (c_Model_isNode l D g lo L κ S hV u x (by omega) (by omega) hL hz) (cwV 2 hts (gV m_710 m_712 m_29 m_58 m_713) rfl rfl rfl (by decide +kernel) ⟨Nat.le_of_ble_eq_true rfl, Nat.le_of_ble_eq_true rfl⟩) rfl hl.1 rfl (Nat.le_of_ble_eq_true rfl) d_Model_find_17 ⟨Nat.le_of_ble_eq_true rfl, Nat.le_of_ble_eq_true rfl⟩ (fun v4 L4 κ4 H locs hp4 hM hS => ?_)
      obtain ⟨rfl, rfl, hV4, hk4⟩ := hp4
      refine ia_ifz_eq (x := (mIsNode u x S).1) (tgt := 40) hx hb d_Model_find_20 (by decide) (fun c5 => ?_) (fun c5 => ?_)
      · refine lv_iconst (v := iI (-1)) hx hb d_Model_find_40 rfl ?_
        refine lv_istore (lv' := [(4, .int (iI (-1))), (0, .ref (L 40)), (1, .int (iI u)), (2, .int (iI x)), (3, .int (iI n))]) hx hb d_Model_find_41 hl (by decide) rfl (fun ls hl => ?_)
        refine lv_aload_n hx hb d_Model_find_43 rfl (lv_at hl 1 rfl) ?_
        refine lv_iconst (v := iI (0)) hx hb d_Model_find_44 rfl ?_
        refine mw_put (ci := 4) (i := 40) (v := .int (iI 0)) (C := R_Model) (T := T_Model) (N := 23) hx hb hts in_Model ty_Model ty_Model_ok nm_Model hown hK hM hS hV4.1 rfl rfl 2 (by decide) (hts _ m_547) rfl (ty_Model_ok 2 (by decide)) rfl rfl (Nat.le_of_ble_eq_true rfl) d_Model_find_45 (fun κ6 H locs e6 hk6 hM hS => ?_)
        have e6 : κ6 40 = some (.inr (4, [.int (iI (((mIsNode u x S).2).f 8)), .ref (L 41), .int (iI 0), .int (iI (((mIsNode u x S).2).f 1)), .ref (L 42), .ref (L 43), .ref (L 44), .int (iI (((mIsNode u x S).2).f 2)), .int (iI (((mIsNode u x S).2).f 3)), .ref (L 45), .ref (L 46), .ref (L 47), .ref (L 48), .ref (L 49), .int (iI (((mIsNode u x S).2).f 4)), .int (iI (((mIsNode u x S).2).f 5)), .int (iI (((mIsNode u x S).2).f 6)), .ref (L 50), .ref (L 51), .ref (L 52), .ref (L 53), .ref (L 54), .int (iI (((mIsNode u x S).2).f 7))])) := e6
        have hV6 : mds g L κ6 (((mIsNode u x S).2).pf 0 0) := mds_pf hV4 e6 hk6 (by first | omega | (split <;> omega))
        refine lv_iload hx hb d_Model_find_48 (lv_at hl 0 rfl) ?_
        exact mw_iret hx hb hr hM hS hlocks d_Model_find_50 (by rw [show mFind u x n S = (-1, ((mIsNode u x S).2).pf 0 0) by first | (exfalso; omega) | (unfold mFind; rw [if_neg (by omega)]; unfold mFind0; rw [if_neg (by rintro ⟨z, _⟩; exact absurd z (zne (by assumption)))])]; exact ⟨rfl, rfl, hV6, (fun r h => by rw [hk6 r (by omega), hk4 r (by omega)])⟩)
      · obtain ⟨hy7a, hy7b, hy7c⟩ := mNode_t c5
        rw [hy7b] at hV4
        have hT := (hL hy7a).2
        have hT1 := hT.1
        have hTx := hT.2 x.toNat (by omega)
        refine lv_aload_n hx hb d_Model_find_23 rfl (lv_at hl 0 rfl) ?_
        refine lv_iload_n hx hb d_Model_find_24 rfl (lv_at hl 2 rfl) ?_
        refine mw_rdV (i := 40) (As := [.int (iI x)]) (rest := []) ⟨hx, hb, hml, hown, hts⟩ hK hM hS rfl hV4.1 rfl (c_Model_isBox l D g lo L κ4 (mLoad u S) hV4 x (by omega) hT) (cwV 1 hts (gV m_726 m_728 m_33 m_58 m_729) rfl rfl rfl (by decide +kernel) ⟨Nat.le_of_ble_eq_true rfl, Nat.le_of_ble_eq_true rfl⟩) rfl hl.1 rfl (Nat.le_of_ble_eq_true rfl) d_Model_find_25 ⟨Nat.le_of_ble_eq_true rfl, Nat.le_of_ble_eq_true rfl⟩ (fun H locs hM hS => ?_)
        refine ia_ifz_eq (x := mBox x (mLoad u S)) (tgt := 40) hx hb d_Model_find_28 (by decide) (fun c8 => ?_) (fun c8 => ?_)
        · refine lv_iconst (v := iI (-1)) hx hb d_Model_find_40 rfl ?_
          refine lv_istore (lv' := [(4, .int (iI (-1))), (0, .ref (L 40)), (1, .int (iI u)), (2, .int (iI x)), (3, .int (iI n))]) hx hb d_Model_find_41 hl (by decide) rfl (fun ls hl => ?_)
          refine lv_aload_n hx hb d_Model_find_43 rfl (lv_at hl 1 rfl) ?_
          refine lv_iconst (v := iI (0)) hx hb d_Model_find_44 rfl ?_
          refine mw_put (ci := 4) (i := 40) (v := .int (iI 0)) (C := R_Model) (T := T_Model) (N := 23) hx hb hts in_Model ty_Model ty_Model_ok nm_Model hown hK hM hS hV4.1 rfl rfl 2 (by decide) (hts _ m_547) rfl (ty_Model_ok 2 (by decide)) rfl rfl (Nat.le_of_ble_eq_true rfl) d_Model_find_45 (fun κ9 H locs e9 hk9 hM hS => ?_)
          have e9 : κ9 40 = some (.inr (4, [.int (iI ((mLoad u S).f 8)), .ref (L 41), .int (iI 0), .int (iI ((mLoad u S).f 1)), .ref (L 42), .ref (L 43), .ref (L 44), .int (iI ((mLoad u S).f 2)), .int (iI ((mLoad u S).f 3)), .ref (L 45), .ref (L 46), .ref (L 47), .ref (L 48), .ref (L 49), .int (iI ((mLoad u S).f 4)), .int (iI ((mLoad u S).f 5)), .int (iI ((mLoad u S).f 6)), .ref (L 50), .ref (L 51), .ref (L 52), .ref (L 53), .ref (L 54), .int (iI ((mLoad u S).f 7))])) := e9
          have hV9 : mds g L κ9 ((mLoad u S).pf 0 0) := mds_pf hV4 e9 hk9 (by first | omega | (split <;> omega))
          refine lv_iload hx hb d_Model_find_48 (lv_at hl 0 rfl) ?_
          exact mw_iret hx hb hr hM hS hlocks d_Model_find_50 (by rw [show mFind u x n S = (-1, (mLoad u S).pf 0 0) by first | (exfalso; omega) | (unfold mFind; rw [if_neg (by omega)]; unfold mFind0; rw [if_neg (by rintro ⟨_, z⟩; exact absurd z (zne (by assumption))), (mNode_t c5).2.1])]; exact ⟨rfl, rfl, hV9, (fun r h => by rw [hk9 r (by omega), hk4 r (by omega)])⟩)
        · refine lv_aload_n hx hb d_Model_find_31 rfl (lv_at hl 0 rfl) ?_
          refine lv_iload_n hx hb d_Model_find_32 rfl (lv_at hl 2 rfl) ?_
          refine lv_iload_n hx hb d_Model_find_33 rfl (lv_at hl 3 rfl) ?_
          refine mw_rdV (i := 40) (As := [.int (iI x), .int (iI n)]) (rest := []) ⟨hx, hb, hml, hown, hts⟩ hK hM hS rfl hV4.1 rfl (c_Model_findName l D g lo L κ4 (mLoad u S) hV4 x n (by omega) (by omega) hT) (cwV 2 hts (gV m_750 m_752 m_36 m_58 m_753) rfl rfl rfl (by decide +kernel) ⟨Nat.le_of_ble_eq_true rfl, Nat.le_of_ble_eq_true rfl⟩) rfl hl.1 rfl (Nat.le_of_ble_eq_true rfl) d_Model_find_34 ⟨Nat.le_of_ble_eq_true rfl, Nat.le_of_ble_eq_true rfl⟩ (fun H locs hM hS => ?_)
          have r10 := mFd_r (S := mLoad u S) (bx := x) (h := (mLoad u S).a 0) (q := 0) (n := n) (k := 1) (by omega)
          refine lv_goto (tgt := 41) hx hb d_Model_find_37 (by decide) ?_
          refine lv_istore (lv' := [(4, .int (iI (mFd (mLoad u S) x ((mLoad u S).a 0) 0 n 1))), (0, .ref (L 40)), (1, .int (iI u)), (2, .int (iI x)), (3, .int (iI n))]) hx hb d_Model_find_41 hl (by decide) rfl (fun ls hl => ?_)
          refine lv_aload_n hx hb d_Model_find_43 rfl (lv_at hl 1 rfl) ?_
          refine lv_iconst (v := iI (0)) hx hb d_Model_find_44 rfl ?_
          refine mw_put (ci := 4) (i := 40) (v := .int (iI 0)) (C := R_Model) (T := T_Model) (N := 23) hx hb hts in_Model ty_Model ty_Model_ok nm_Model hown hK hM hS hV4.1 rfl rfl 2 (by decide) (hts _ m_547) rfl (ty_Model_ok 2 (by decide)) rfl rfl (Nat.le_of_ble_eq_true rfl) d_Model_find_45 (fun κ11 H locs e11 hk11 hM hS => ?_)
          have e11 : κ11 40 = some (.inr (4, [.int (iI ((mLoad u S).f 8)), .ref (L 41), .int (iI 0), .int (iI ((mLoad u S).f 1)), .ref (L 42), .ref (L 43), .ref (L 44), .int (iI ((mLoad u S).f 2)), .int (iI ((mLoad u S).f 3)), .ref (L 45), .ref (L 46), .ref (L 47), .ref (L 48), .ref (L 49), .int (iI ((mLoad u S).f 4)), .int (iI ((mLoad u S).f 5)), .int (iI ((mLoad u S).f 6)), .ref (L 50), .ref (L 51), .ref (L 52), .ref (L 53), .ref (L 54), .int (iI ((mLoad u S).f 7))])) := e11
          have hV11 : mds g L κ11 ((mLoad u S).pf 0 0) := mds_pf hV4 e11 hk11 (by first | omega | (split <;> omega))
          refine lv_iload hx hb d_Model_find_48 (lv_at hl 0 rfl) ?_
          exact mw_iret hx hb hr hM hS hlocks d_Model_find_50 (by rw [show mFind u x n S = (mFd (mLoad u S) x ((mLoad u S).a 0) 0 n 1, (mLoad u S).pf 0 0) by first | (exfalso; omega) | (unfold mFind; rw [if_neg (by omega)]; unfold mFind0; rw [if_pos ⟨c5, by assumption⟩, (mNode_t c5).2.1])]; exact ⟨rfl, rfl, hV11, (fun r h => by rw [hk11 r (by omega), hk4 r (by omega)])⟩)
    · refine lv_iconst (v := iI (-1)) hx hb d_Model_find_12 rfl ?_
      exact mw_iret hx hb hr hM hS hlocks d_Model_find_13 (by rw [show mFind u x n S = (-1, S) by first | (exfalso; omega) | (unfold mFind; (first | (exfalso; omega) | (repeat (first | rw [if_pos (by first | assumption | omega)] | rw [if_neg (by first | assumption | exact zne (by assumption) | omega)]))))]; exact ⟨rfl, rfl, hV, (fun r h => rfl)⟩)
