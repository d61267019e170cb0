set_option maxHeartbeats 4000000 in
set_option maxRecDepth 100000 in
theorem c_Model_put (l : Launch) (D : va_G) (g : Nat → ClassId) (lo : Nat) (L : Nat → Nat) (κ : Nat → Option va_E) (S : MS) (hV : mds g L κ S) (v : Int) (hv : -2147483648 ≤ v ∧ v < 2147483648) (ht0 : 0 ≤ S.f 0 ∧ S.f 0 + 4 ≤ 2000) : Met l y_Model_put w_Model_put ({ frames := 0, cells := 0, slots := 0, locals := 0 }) (mwP D vwCl (tyL g) lo L κ [.ref (L 40), .int (iI v)]) (mwQ D vwCl lo (mdQ g L κ none (mPut v S))) 0 0 (fun q => lo ≤ q) := by
  refine Met.ofW (cc := b_Model_put) (maxL := 3) (ret := (Option.none : Option Jvm.ClassFile.FieldType)) (by decide) rfl ?_
  intro p e s m args below meth c s₁ B hml hpre
  obtain ⟨hargs, hM, hK⟩ := hpre
  have hx := B.exec
  have hb := B.bytes
  have hr := B.returns
  have hts : ∀ w ∈ wA, w.before args s = true := fun w h => atoms_spec (ws := w_Model_put) B.pre w (List.mem_cons_of_mem _ h)
  have hown : s.vm.findClass R_Model = some m.cls := findClass_of_methodNamed B.named
  have hlocks := B.notSynchronized
  have hS : va_S (fun q => lo ≤ q) s.heap s.heap [] := va_S.rf
  have loop3 : ∀ (N : Nat) (q : Nat) (k : Int) (S1 : MS) (κ1 : Nat → Option va_E), q < N → (mds g L κ1 S1) → (∀ r, (r < 40 ∨ 54 < r) → κ1 r = κ r) → (k = 8 * q - 8 ∧ q ≤ 4) → (0 ≤ S1.f 0 ∧ S1.f 0 + q ≤ 2000) → (mPut v S = mPutN v q k S1) → ∀ (H : Heap) (locs : List Loc) (ls : Array Slot), mw D vwCl lo L κ1 H → va_S (fun q => lo ≤ q) s.heap H locs → lv_has ls 3 [(2, .int (iI k)), (0, .ref (L 40)), (1, .int (iI v))] → W p l e (headSpec w_Model_put ({ frames := 0, cells := 0, slots := 0, locals := 0 })).room s m args below meth c H locs 0 0 (MQ below (mwQ D vwCl lo (mdQ g L κ none (mPut v S))) args s 0 0 (fun q => lo ≤ q)) (F0 m 3 ls []) := by
    intro N
    induction N with
    | zero => intro q k S1 κ1 hms; exact absurd hms (Nat.not_lt_zero _)
    | succ N ih =>
      intro q k S1 κ1 hms hV1 hf1 hk ht hres H locs ls hM hS hl
      refine lv_iload_n hx hb d_Model_put_3 rfl (lv_at hl 0 rfl) ?_
      refine ia_if_lt (a := k) (tgt := 39) hx hb d_Model_put_4 (by decide) (by omega) (fun c1 => ?_) (fun c1 => ?_)
      · exact mw_vret hx hb hr hM hS hlocks d_Model_put_39 (by rw [show mPut v S = S1 by first | (exfalso; omega) | (rw [hres, show q = 0 by omega]; rfl)]; exact ⟨rfl, rfl, hV1, (fun r h => by rw [hf1 r (by omega)])⟩)
      · refine lv_aload_n hx hb d_Model_put_7 rfl (lv_at hl 1 rfl) ?_
        refine mw_get (ci := 4) (i := 40) (v := .ref (L 41)) (C := R_Model) (T := T_Model) (N := 23) hx hb hts in_Model hown hK hM hV1.1 rfl rfl 1 (by decide) (hts _ m_546) rfl d_Model_put_8 ?_
        refine lv_aload_n hx hb d_Model_put_11 rfl (lv_at hl 1 rfl) ?_
        refine mw_get (ci := 4) (i := 40) (v := .int (iI (S1.f 0))) (C := R_Model) (T := T_Model) (N := 23) hx hb hts in_Model hown hK hM hV1.1 rfl rfl 2 (by decide) (hts _ m_547) rfl d_Model_put_12 ?_
        have r2 : -1000000 ≤ S1.f 0 ∧ S1.f 0 ≤ 1000000 := hV1.2.2.2 0
        refine lv_iload_n hx hb d_Model_put_15 rfl (lv_at hl 2 rfl) ?_
        refine lv_iload_n hx hb d_Model_put_16 rfl (lv_at hl 0 rfl) ?_
        refine ia_ishr hx hb (by omega) (by omega) d_Model_put_17 ?_
        refine lv_sipush (v := iI (255)) hx hb d_Model_put_18 (by decide) ?_
        refine ia_and255 hx hb d_Model_put_21 ?_
        refine mw_iast (n := 2000) (f := S1.a 0) (a := S1.f 0) (v := (v / 2 ^ k.toNat) % 256) (i := 41) hx hb hK hM hS 1 (hV1.2.1 0 (by decide)) rfl rfl (by omega) (by decide) d_Model_put_22 (fun κ3 H locs e3 hk3 hM hS => ?_)
        have hV3 : mds g L κ3 (S1.st 0 ((S1.f 0 : Int).toNat) ((v / 2 ^ k.toNat) % 256)) := mds_st (k := 0) hV1 (by decide) e3 hk3 (show (0 : Int) ≤ (v / 2 ^ k.toNat) % 256 ∧ (v / 2 ^ k.toNat) % 256 ≤ 255 by first | omega | (split <;> omega))
        refine lv_aload_n hx hb d_Model_put_23 rfl (lv_at hl 1 rfl) ?_
        refine lv_dup hx hb d_Model_put_24 rfl ?_
        refine mw_get (ci := 4) (i := 40) (v := .int (iI (S1.f 0))) (C := R_Model) (T := T_Model) (N := 23) hx hb hts in_Model hown hK hM hV3.1 rfl rfl 2 (by decide) (hts _ m_547) rfl d_Model_put_25 ?_
        have r4 : -1000000 ≤ S1.f 0 ∧ S1.f 0 ≤ 1000000 := hV3.2.2.2 0
        refine lv_iconst (v := iI (1)) hx hb d_Model_put_28 rfl ?_
        refine ia_add hx hb d_Model_put_29 ?_
        refine mw_put (ci := 4) (i := 40) (v := .int (iI ((S1.f 0) + 1))) (C := R_Model) (T := T_Model) (N := 23) hx hb hts in_Model ty_Model ty_Model_ok nm_Model hown hK hM hS hV3.1 rfl rfl 2 (by decide) (hts _ m_547) rfl (ty_Model_ok 2 (by decide)) rfl rfl (Nat.le_of_ble_eq_true rfl) d_Model_put_30 (fun κ5 H locs e5 hk5 hM hS => ?_)
        have e5 : κ5 40 = some (.inr (4, [.int (iI (S1.f 8)), .ref (L 41), .int (iI ((S1.f 0) + 1)), .int (iI (S1.f 1)), .ref (L 42), .ref (L 43), .ref (L 44), .int (iI (S1.f 2)), .int (iI (S1.f 3)), .ref (L 45), .ref (L 46), .ref (L 47), .ref (L 48), .ref (L 49), .int (iI (S1.f 4)), .int (iI (S1.f 5)), .int (iI (S1.f 6)), .ref (L 50), .ref (L 51), .ref (L 52), .ref (L 53), .ref (L 54), .int (iI (S1.f 7))])) := e5
        have hV5 : mds g L κ5 ((S1.st 0 ((S1.f 0 : Int).toNat) ((v / 2 ^ k.toNat) % 256)).pf 0 ((S1.f 0) + 1)) := mds_pf hV3 e5 hk5 (by first | omega | (split <;> omega))
        refine lv_iinc (v := iI (k + (-8))) (lv' := [(2, .int (iI (k + (-8)))), (0, .ref (L 40)), (1, .int (iI v))]) hx hb d_Model_put_33 hl (k := 0) rfl (iI_inc _ _) (by decide) rfl (fun ls hl => ?_)
        refine lv_goto (tgt := 3) hx hb d_Model_put_36 (by decide) ?_
        exact ih (q - 1) (k + (-8)) ((S1.st 0 ((S1.f 0 : Int).toNat) ((v / 2 ^ k.toNat) % 256)).pf 0 ((S1.f 0) + 1)) κ5 (by omega) hV5 (fun r h => by rw [hk5 r (by omega), hk3 r (by omega), hf1 r (by omega)]) (by omega) (by show 0 ≤ S1.f 0 + 1 ∧ S1.f 0 + 1 + ((q - 1 : Nat) : Int) ≤ 2000; omega) (by rw [hres, show q = (q - 1) + 1 by omega]; rfl) _ _ ls hM hS (lv_sub hl [0, 1, 2] rfl)
  obtain ⟨ls, hls, hl⟩ := mw_entry (m := m) [.ref (L 40), .int (iI v)] (n := 3) (Nat.le_of_ble_eq_true rfl) hargs
  refine W.eq hls ?_
  have hl : lv_has ls 3 [(0, .ref (L 40)), (1, .int (iI v))] := hl
  refine lv_bipush (v := iI (24)) hx hb d_Model_put_0 (by decide) ?_
  refine lv_istore_n (lv' := [(2, .int (iI 24)), (0, .ref (L 40)), (1, .int (iI v))]) hx hb d_Model_put_2 rfl hl (by decide) rfl (fun ls hl => ?_)
  exact loop3 _ 4 24 S κ (Nat.lt_succ_self _) hV (fun r h => rfl) (by omega) (by omega) rfl _ _ ls hM hS (lv_sub hl [0, 1, 2] rfl)
set_option maxHeartbeats 4000000 in
set_option maxRecDepth 100000 in
theorem c_Model_feed (l : Launch) (D : va_G) (g : Nat → ClassId) (lo : Nat) (L : Nat → Nat) (κ : Nat → Option va_E) (S : MS) (hV : mds g L κ S) (v1 v2 v3 v4 v5 : Int) (hv1 : -2147483648 ≤ v1 ∧ v1 < 2147483648) (hv2 : -2147483648 ≤ v2 ∧ v2 < 2147483648) (hv3 : -2147483648 ≤ v3 ∧ v3 < 2147483648) (hv4 : -2147483648 ≤ v4 ∧ v4 < 2147483648) (hv5 : -2147483648 ≤ v5 ∧ v5 < 2147483648) (ht0 : 0 ≤ S.f 0) : Met l y_Model_feed w_Model_feed ({ frames := 1, cells := 0, slots := 0, locals := 22 }) (mwP D vwCl (tyL g) lo L κ [.ref (L 40), .int (iI v1), .int (iI v2), .int (iI v3), .int (iI v4), .int (iI v5)]) (mwQ D vwCl lo (mdQ g L κ (some (.int (iI (mFeed v1 v2 v3 v4 v5 S).1))) (mFeed v1 v2 v3 v4 v5 S).2)) 0 0 (fun q => lo ≤ q) := by
  refine Met.ofW (cc := b_Model_feed) (maxL := 6) (ret := (Option.some Jvm.ClassFile.FieldType.int)) (by decide) rfl ?_
  intro p e s m args below meth c s₁ B hml hpre
  obtain ⟨hargs, hM, hK⟩ := hpre
  have hx := B.exec
  have hb := B.bytes
  have hr := B.returns
  have hts : ∀ w ∈ wA, w.before args s = true := fun w h => atoms_spec (ws := w_Model_feed) B.pre w (List.mem_cons_of_mem _ h)
  have hown : s.vm.findClass R_Model = some m.cls := findClass_of_methodNamed B.named
  have hlocks := B.notSynchronized
  have hS : va_S (fun q => lo ≤ q) s.heap s.heap [] := va_S.rf
  obtain ⟨ls, hls, hl⟩ := mw_entry (m := m) [.ref (L 40), .int (iI v1), .int (iI v2), .int (iI v3), .int (iI v4), .int (iI v5)] (n := 6) (Nat.le_of_ble_eq_true rfl) hargs
  refine W.eq hls ?_
  have hl : lv_has ls 6 [(0, .ref (L 40)), (1, .int (iI v1)), (2, .int (iI v2)), (3, .int (iI v3)), (4, .int (iI v4)), (5, .int (iI v5))] := hl
  refine lv_aload_n hx hb d_Model_feed_0 rfl (lv_at hl 0 rfl) ?_
  refine mw_get (ci := 4) (i := 40) (v := .int (iI (S.f 0))) (C := R_Model) (T := T_Model) (N := 23) hx hb hts in_Model hown hK hM hV.1 rfl rfl 2 (by decide) (hts _ m_547) rfl d_Model_feed_1 ?_
  have r1 : -1000000 ≤ S.f 0 ∧ S.f 0 ≤ 1000000 := hV.2.2.2 0
  refine lv_bipush (v := iI (20)) hx hb d_Model_feed_4 (by decide) ?_
  refine ia_add hx hb d_Model_feed_6 ?_
  refine lv_sipush (v := iI (2000)) hx hb d_Model_feed_7 (by decide) ?_
  refine ia_icmp_le (a := (S.f 0) + 20) (b := 2000) (tgt := 15) hx hb d_Model_feed_10 (by decide) (by omega) (by omega) (fun c2 => ?_) (fun c2 => ?_)
  · refine lv_aload_n hx hb d_Model_feed_15 rfl (lv_at hl 0 rfl) ?_
    refine lv_iload_n hx hb d_Model_feed_16 rfl (lv_at hl 1 rfl) ?_
    refine mw_callV (i := 40) (As := [.int (iI v1)]) (rest := []) ⟨hx, hb, hml, hown, hts⟩ hK hM hS rfl hV.1 rfl (c_Model_put l D g lo L κ S hV v1 (by omega) (by omega)) (cwV 1 hts (gV m_619 m_621 m_17 m_58 m_622) rfl rfl rfl (by decide +kernel) ⟨Nat.le_of_ble_eq_true rfl, Nat.le_of_ble_eq_true rfl⟩) rfl hl.1 rfl (Nat.le_of_ble_eq_true rfl) d_Model_feed_17 ⟨Nat.le_of_ble_eq_true rfl, Nat.le_of_ble_eq_true rfl⟩ (fun v3 L3 κ3 H locs hp3 hM hS => ?_)
    obtain ⟨rfl, rfl, hV3, hk3⟩ := hp3
    have r4 := mPut_f v1 S
    refine lv_aload_n hx hb d_Model_feed_20 rfl (lv_at hl 0 rfl) ?_
    refine lv_iload_n hx hb d_Model_feed_21 rfl (lv_at hl 2 rfl) ?_
    refine mw_callV (i := 40) (As := [.int (iI v2)]) (rest := []) ⟨hx, hb, hml, hown, hts⟩ hK hM hS rfl hV3.1 rfl (c_Model_put l D g lo L κ3 (mPut v1 S) hV3 v2 (by omega) (by omega)) (cwV 1 hts (gV m_619 m_621 m_17 m_58 m_622) rfl rfl rfl (by decide +kernel) ⟨Nat.le_of_ble_eq_true rfl, Nat.le_of_ble_eq_true rfl⟩) rfl hl.1 rfl (Nat.le_of_ble_eq_true rfl) d_Model_feed_22 ⟨Nat.le_of_ble_eq_true rfl, Nat.le_of_ble_eq_true rfl⟩ (fun v5 L5 κ5 H locs hp5 hM hS => ?_)
    obtain ⟨rfl, rfl, hV5, hk5⟩ := hp5
    have r6 := mPut_f v2 (mPut v1 S)
    refine lv_aload_n hx hb d_Model_feed_25 rfl (lv_at hl 0 rfl) ?_
    refine lv_iload_n hx hb d_Model_feed_26 rfl (lv_at hl 3 rfl) ?_
    refine mw_callV (i := 40) (As := [.int (iI v3)]) (rest := []) ⟨hx, hb, hml, hown, hts⟩ hK hM hS rfl hV5.1 rfl (c_Model_put l D g lo L κ5 (mPut v2 (mPut v1 S)) hV5 v3 (by omega) (by omega)) (cwV 1 hts (gV m_619 m_621 m_17 m_58 m_622) rfl rfl rfl (by decide +kernel) ⟨Nat.le_of_ble_eq_true rfl, Nat.le_of_ble_eq_true rfl⟩) rfl hl.1 rfl (Nat.le_of_ble_eq_true rfl) d_Model_feed_27 ⟨Nat.le_of_ble_eq_true rfl, Nat.le_of_ble_eq_true rfl⟩ (fun v7 L7 κ7 H locs hp7 hM hS => ?_)
    obtain ⟨rfl, rfl, hV7, hk7⟩ := hp7
    have r8 := mPut_f v3 (mPut v2 (mPut v1 S))
    refine lv_aload_n hx hb d_Model_feed_30 rfl (lv_at hl 0 rfl) ?_
    refine lv_iload hx hb d_Model_feed_31 (lv_at hl 4 rfl) ?_
    refine mw_callV (i := 40) (As := [.int (iI v4)]) (rest := []) ⟨hx, hb, hml, hown, hts⟩ hK hM hS rfl hV7.1 rfl (c_Model_put l D g lo L κ7 (mPut v3 (mPut v2 (mPut v1 S))) hV7 v4 (by omega) (by omega)) (cwV 1 hts (gV m_619 m_621 m_17 m_58 m_622) rfl rfl rfl (by decide +kernel) ⟨Nat.le_of_ble_eq_true rfl, Nat.le_of_ble_eq_true rfl⟩) rfl hl.1 rfl (Nat.le_of_ble_eq_true rfl) d_Model_feed_33 ⟨Nat.le_of_ble_eq_true rfl, Nat.le_of_ble_eq_true rfl⟩ (fun v9 L9 κ9 H locs hp9 hM hS => ?_)
    obtain ⟨rfl, rfl, hV9, hk9⟩ := hp9
    have r10 := mPut_f v4 (mPut v3 (mPut v2 (mPut v1 S)))
    refine lv_aload_n hx hb d_Model_feed_36 rfl (lv_at hl 0 rfl) ?_
    refine lv_iload hx hb d_Model_feed_37 (lv_at hl 5 rfl) ?_
    refine mw_callV (i := 40) (As := [.int (iI v5)]) (rest := []) ⟨hx, hb, hml, hown, hts⟩ hK hM hS rfl hV9.1 rfl (c_Model_put l D g lo L κ9 (mPut v4 (mPut v3 (mPut v2 (mPut v1 S)))) hV9 v5 (by omega) (by omega)) (cwV 1 hts (gV m_619 m_621 m_17 m_58 m_622) rfl rfl rfl (by decide +kernel) ⟨Nat.le_of_ble_eq_true rfl, Nat.le_of_ble_eq_true rfl⟩) rfl hl.1 rfl (Nat.le_of_ble_eq_true rfl) d_Model_feed_39 ⟨Nat.le_of_ble_eq_true rfl, Nat.le_of_ble_eq_true rfl⟩ (fun v11 L11 κ11 H locs hp11 hM hS => ?_)
    obtain ⟨rfl, rfl, hV11, hk11⟩ := hp11
    have r12 := mPut_f v5 (mPut v4 (mPut v3 (mPut v2 (mPut v1 S))))
    refine lv_aload_n hx hb d_Model_feed_42 rfl (lv_at hl 0 rfl) ?_
    refine mw_get (ci := 4) (i := 40) (v := .int (iI ((mPut v5 (mPut v4 (mPut v3 (mPut v2 (mPut v1 S))))).f 0))) (C := R_Model) (T := T_Model) (N := 23) hx hb hts in_Model hown hK hM hV11.1 rfl rfl 2 (by decide) (hts _ m_547) rfl d_Model_feed_43 ?_
    have r13 : -1000000 ≤ (mPut v5 (mPut v4 (mPut v3 (mPut v2 (mPut v1 S))))).f 0 ∧ (mPut v5 (mPut v4 (mPut v3 (mPut v2 (mPut v1 S))))).f 0 ≤ 1000000 := hV11.2.2.2 0
    exact mw_iret hx hb hr hM hS hlocks d_Model_feed_46 (by rw [show mFeed v1 v2 v3 v4 v5 S = ((mPut v5 (mPut v4 (mPut v3 (mPut v2 (mPut v1 S))))).f 0, mPut v5 (mPut v4 (mPut v3 (mPut v2 (mPut v1 S))))) by first | (exfalso; omega) | (unfold mFeed; (first | (exfalso; omega) | (repeat (first | rw [if_pos (by first | assumption | omega)] | rw [if_neg (by first | assumption | exact zne (by assumption) | omega)]))))]; exact ⟨rfl, rfl, hV11, (fun r h => by rw [hk11 r (by omega), hk9 r (by omega), hk7 r (by omega), hk5 r (by omega), hk3 r (by omega)])⟩)
  · refine lv_iconst (v := iI (-1)) hx hb d_Model_feed_13 rfl ?_
    exact mw_iret hx hb hr hM hS hlocks d_Model_feed_14 (by rw [show mFeed v1 v2 v3 v4 v5 S = (-1, S) by first | (exfalso; omega) | (unfold mFeed; (first | (exfalso; omega) | (repeat (first | rw [if_pos (by first | assumption | omega)] | rw [if_neg (by first | assumption | exact zne (by assumption) | omega)]))))]; exact ⟨rfl, rfl, hV, (fun r h => rfl)⟩)
set_option maxHeartbeats 4000000 in
set_option maxRecDepth 100000 in
theorem c_Model_stop (l : Launch) (D : va_G) (g : Nat → ClassId) (lo : Nat) (L : Nat → Nat) (κ : Nat → Option va_E) (S : MS) (hV : mds g L κ S) (y x : Int) (hy : -1000000 ≤ y ∧ y ≤ 1000000) (hx : -1000000 ≤ x ∧ x ≤ 1000000) : Met l y_Model_stop w_Model_stop ({ frames := 0, cells := 0, slots := 0, locals := 0 }) (mwP D vwCl (tyL g) lo L κ [.ref (L 40), .int (iI y), .int (iI x)]) (mwQ D vwCl lo (mdQ g L κ none (mStop y x S))) 0 0 (fun q => lo ≤ q) := by
  refine Met.ofW (cc := b_Model_stop) (maxL := 3) (ret := (Option.none : Option Jvm.ClassFile.FieldType)) (by decide) rfl ?_
  intro p e s m args below meth c s₁ B hml hpre
  obtain ⟨hargs, hM, hK⟩ := hpre
  have hx := B.exec
  have hb := B.bytes
  have hr := B.returns
  have hts : ∀ w ∈ wA, w.before args s = true := fun w h => atoms_spec (ws := w_Model_stop) B.pre w (List.mem_cons_of_mem _ h)
  have hown : s.vm.findClass R_Model = some m.cls := findClass_of_methodNamed B.named
  have hlocks := B.notSynchronized
  have hS : va_S (fun q => lo ≤ q) s.heap s.heap [] := va_S.rf
  obtain ⟨ls, hls, hl⟩ := mw_entry (m := m) [.ref (L 40), .int (iI y), .int (iI x)] (n := 3) (Nat.le_of_ble_eq_true rfl) hargs
  refine W.eq hls ?_
  have hl : lv_has ls 3 [(0, .ref (L 40)), (1, .int (iI y)), (2, .int (iI x))] := hl
  refine lv_aload_n hx hb d_Model_stop_0 rfl (lv_at hl 0 rfl) ?_
  refine mw_get (ci := 4) (i := 40) (v := .int (iI (S.f 5))) (C := R_Model) (T := T_Model) (N := 23) hx hb hts in_Model hown hK hM hV.1 rfl rfl 15 (by decide) (hts _ m_560) rfl d_Model_stop_1 ?_
  have r1 : -1000000 ≤ S.f 5 ∧ S.f 5 ≤ 1000000 := hV.2.2.2 5
  refine ia_if_eq (a := S.f 5) (tgt := 8) hx hb d_Model_stop_4 (by decide) (by omega) (fun c2 => ?_) (fun c2 => ?_)
  · refine lv_aload_n hx hb d_Model_stop_8 rfl (lv_at hl 0 rfl) ?_
    refine lv_iload_n hx hb d_Model_stop_9 rfl (lv_at hl 1 rfl) ?_
    refine mw_put (ci := 4) (i := 40) (v := .int (iI y)) (C := R_Model) (T := T_Model) (N := 23) hx hb hts in_Model ty_Model ty_Model_ok nm_Model hown hK hM hS hV.1 rfl rfl 15 (by decide) (hts _ m_560) rfl (ty_Model_ok 15 (by decide)) rfl rfl (Nat.le_of_ble_eq_true rfl) d_Model_stop_10 (fun κ3 H locs e3 hk3 hM hS => ?_)
    have e3 : κ3 40 = some (.inr (4, [.int (iI (S.f 8)), .ref (L 41), .int (iI (S.f 0)), .int (iI (S.f 1)), .ref (L 42), .ref (L 43), .ref (L 44), .int (iI (S.f 2)), .int (iI (S.f 3)), .ref (L 45), .ref (L 46), .ref (L 47), .ref (L 48), .ref (L 49), .int (iI (S.f 4)), .int (iI y), .int (iI (S.f 6)), .ref (L 50), .ref (L 51), .ref (L 52), .ref (L 53), .ref (L 54), .int (iI (S.f 7))])) := e3
    have hV3 : mds g L κ3 (S.pf 5 y) := mds_pf hV e3 hk3 (by first | omega | (split <;> omega))
    refine lv_aload_n hx hb d_Model_stop_13 rfl (lv_at hl 0 rfl) ?_
    refine lv_iload_n hx hb d_Model_stop_14 rfl (lv_at hl 2 rfl) ?_
    refine mw_put (ci := 4) (i := 40) (v := .int (iI x)) (C := R_Model) (T := T_Model) (N := 23) hx hb hts in_Model ty_Model ty_Model_ok nm_Model hown hK hM hS hV3.1 rfl rfl 3 (by decide) (hts _ m_548) rfl (ty_Model_ok 3 (by decide)) rfl rfl (Nat.le_of_ble_eq_true rfl) d_Model_stop_15 (fun κ4 H locs e4 hk4 hM hS => ?_)
    have e4 : κ4 40 = some (.inr (4, [.int (iI (S.f 8)), .ref (L 41), .int (iI (S.f 0)), .int (iI x), .ref (L 42), .ref (L 43), .ref (L 44), .int (iI (S.f 2)), .int (iI (S.f 3)), .ref (L 45), .ref (L 46), .ref (L 47), .ref (L 48), .ref (L 49), .int (iI (S.f 4)), .int (iI y), .int (iI (S.f 6)), .ref (L 50), .ref (L 51), .ref (L 52), .ref (L 53), .ref (L 54), .int (iI (S.f 7))])) := e4
    have hV4 : mds g L κ4 ((S.pf 5 y).pf 1 x) := mds_pf hV3 e4 hk4 (by first | omega | (split <;> omega))
    exact mw_vret hx hb hr hM hS hlocks d_Model_stop_18 (by rw [show mStop y x S = (S.pf 5 y).pf 1 x by first | (exfalso; omega) | (unfold mStop; (first | (exfalso; omega) | (repeat (first | rw [if_pos (by first | assumption | omega)] | rw [if_neg (by first | assumption | exact zne (by assumption) | omega)]))))]; exact ⟨rfl, rfl, hV4, (fun r h => by rw [hk4 r (by omega), hk3 r (by omega)])⟩)
  · exact mw_vret hx hb hr hM hS hlocks d_Model_stop_7 (by rw [show mStop y x S = S by first | (exfalso; omega) | (unfold mStop; (first | (exfalso; omega) | (repeat (first | rw [if_pos (by first | assumption | omega)] | rw [if_neg (by first | assumption | exact zne (by assumption) | omega)]))))]; exact ⟨rfl, rfl, hV, (fun r h => rfl)⟩)
set_option maxHeartbeats 4000000 in
set_option maxRecDepth 100000 in
theorem c_Model_low (l : Launch) (D : va_G) (g : Nat → ClassId) (lo : Nat) (L : Nat → Nat) (κ : Nat → Option va_E) (S : MS) (hV : mds g L κ S) (a n : Int) (ha : 0 ≤ a ∧ a + n ≤ 4400) (hn0 : 0 ≤ n ∧ n ≤ 8) : Met l y_Model_low w_Model_low ({ frames := 0, cells := 0, slots := 0, locals := 0 }) (mwP D vwCl (tyL g) lo L κ [.ref (L 40), .int (iI a), .int (iI n)]) (mwQ D vwCl lo (mwR (some (.long (lI (mLow (S.a 3) a n)))) L κ)) 0 0 (fun q => lo ≤ q) := by
  refine Met.ofW (cc := b_Model_low) (maxL := 6) (ret := (Option.some Jvm.ClassFile.FieldType.long)) (by decide) rfl ?_
  intro p e s m args below meth c s₁ B hml hpre
  obtain ⟨hargs, hM, hK⟩ := hpre
  have hx := B.exec
  have hb := B.bytes
  have hr := B.returns
  have hts : ∀ w ∈ wA, w.before args s = true := fun w h => atoms_spec (ws := w_Model_low) B.pre w (List.mem_cons_of_mem _ h)
  have hown : s.vm.findClass R_Model = some m.cls := findClass_of_methodNamed B.named
  have hlocks := B.notSynchronized
  have hS : va_S (fun q => lo ≤ q) s.heap s.heap [] := va_S.rf
  have loop7 : ∀ (N : Nat) (q : Nat) (k : Int) (acc : Int), q < N → (k = q - 1 ∧ q ≤ n) → (mLow (S.a 3) a n = mLowN (S.a 3) a q acc) → ∀ (H : Heap) (locs : List Loc) (ls : Array Slot), mw D vwCl lo L κ H → va_S (fun q => lo ≤ q) s.heap H locs → lv_has ls 6 [(5, .int (iI k)), (3, .long (lI acc)), (0, .ref (L 40)), (1, .int (iI a)), (2, .int (iI n))] → W p l e (headSpec w_Model_low ({ frames := 0, cells := 0, slots := 0, locals := 0 })).room s m args below meth c H locs 0 0 (MQ below (mwQ D vwCl lo (mwR (some (.long (lI (mLow (S.a 3) a n)))) L κ)) args s 0 0 (fun q => lo ≤ q)) (F0 m 7 ls []) := by
    intro N
    induction N with
    | zero => intro q k acc hms; exact absurd hms (Nat.not_lt_zero _)
    | succ N ih =>
      intro q k acc hms hk hres H locs ls hM hS hl
      refine lv_iload hx hb d_Model_low_7 (lv_at hl 0 rfl) ?_
      refine ia_if_lt (a := k) (tgt := 34) hx hb d_Model_low_9 (by decide) (by omega) (fun c1 => ?_) (fun c1 => ?_)
      · refine lv_lload_n hx hb d_Model_low_34 rfl (lv_at hl 1 rfl) ?_
        exact mw_lret hx hb hr hM hS hlocks d_Model_low_35 (mwR_l (by rw [hres, show q = 0 by omega]; rfl))
      · refine lv_lload_n hx hb d_Model_low_12 rfl (lv_at hl 1 rfl) ?_
        refine lv_bipush (v := iI (8)) hx hb d_Model_low_13 (by decide) ?_
        refine ia_lshl8 hx hb d_Model_low_15 ?_
        refine lv_aload_n hx hb d_Model_low_16 rfl (lv_at hl 2 rfl) ?_
        refine mw_get (ci := 4) (i := 40) (v := .ref (L 44)) (C := R_Model) (T := T_Model) (N := 23) hx hb hts in_Model hown hK hM hV.1 rfl rfl 6 (by decide) (hts _ m_551) rfl d_Model_low_17 ?_
        refine lv_iload_n hx hb d_Model_low_20 rfl (lv_at hl 3 rfl) ?_
        refine lv_iload hx hb d_Model_low_21 (lv_at hl 0 rfl) ?_
        refine ia_add hx hb d_Model_low_23 ?_
        refine mw_iald (n := 4400) (f := S.a 3) (a := a + k) (i := 44) hx hb hK hM 1 (hV.2.1 3 (by decide)) rfl rfl (by omega) (by decide) d_Model_low_24 ?_
        have r2 : 0 ≤ S.a 3 (a + k : Int).toNat ∧ S.a 3 (a + k : Int).toNat ≤ 255 := hV.2.2.1 3 _
        refine ia_i2l hx hb (by omega) d_Model_low_25 ?_
        refine ia_lor8 hx hb (by omega) d_Model_low_26 ?_
        refine lv_lstore_n (lv' := [(3, .long (lI (acc * 256 + (S.a 3 (a + k : Int).toNat)))), (5, .int (iI k)), (0, .ref (L 40)), (1, .int (iI a)), (2, .int (iI n))]) hx hb d_Model_low_27 rfl hl (by decide) rfl (fun ls hl => ?_)
        refine lv_iinc (v := iI (k + (-1))) (lv' := [(5, .int (iI (k + (-1)))), (3, .long (lI (acc * 256 + (S.a 3 (a + k : Int).toNat)))), (0, .ref (L 40)), (1, .int (iI a)), (2, .int (iI n))]) hx hb d_Model_low_28 hl (k := 1) rfl (iI_inc _ _) (by decide) rfl (fun ls hl => ?_)
        refine lv_goto (tgt := 7) hx hb d_Model_low_31 (by decide) ?_
        exact ih (q - 1) (k + (-1)) (acc * 256 + (S.a 3 ((a + k : Int)).toNat)) (by omega) (by omega) (by rw [hres, show q = (q - 1) + 1 by omega]; show mLowN _ _ _ (acc * 256 + S.a 3 (a + ((q - 1 : Nat) : Int)).toNat) = _; rw [show ((q - 1 : Nat) : Int) = k by omega]; rfl) _ _ ls hM hS (lv_sub hl [0, 1, 2, 3, 4] rfl)
  obtain ⟨ls, hls, hl⟩ := mw_entry (m := m) [.ref (L 40), .int (iI a), .int (iI n)] (n := 6) (Nat.le_of_ble_eq_true rfl) hargs
  refine W.eq hls ?_
  have hl : lv_has ls 6 [(0, .ref (L 40)), (1, .int (iI a)), (2, .int (iI n))] := hl
  refine lv_lconst (v := lI (0)) hx hb d_Model_low_0 (by decide) ?_
  refine lv_lstore_n (lv' := [(3, .long (lI 0)), (0, .ref (L 40)), (1, .int (iI a)), (2, .int (iI n))]) hx hb d_Model_low_1 rfl hl (by decide) rfl (fun ls hl => ?_)
  refine lv_iload_n hx hb d_Model_low_2 rfl (lv_at hl 3 rfl) ?_
  refine lv_iconst (v := iI (1)) hx hb d_Model_low_3 rfl ?_
  refine ia_sub hx hb d_Model_low_4 ?_
  refine lv_istore (lv' := [(5, .int (iI (n - 1))), (3, .long (lI 0)), (0, .ref (L 40)), (1, .int (iI a)), (2, .int (iI n))]) hx hb d_Model_low_5 hl (by decide) rfl (fun ls hl => ?_)
  exact loop7 _ n.toNat (n - 1) 0 (Nat.lt_succ_self _) (by omega) rfl _ _ ls hM hS (lv_sub hl [0, 1, 2, 3, 4] rfl)
set_option maxHeartbeats 4000000 in
set_option maxRecDepth 100000 in
theorem c_Model_character (l : Launch) (D : va_G) (g : Nat → ClassId) (lo : Nat) (L : Nat → Nat) (κ : Nat → Option va_E) (f : Nat → Int) (kr n : Nat) (hA : κ kr = some (.inl (g 1, n, .inl (fun x => iI (f x))))) (hn : n < 100000) (hf : ∀ x, 0 ≤ f x ∧ f x ≤ 255) (a to : Int) (ha : 0 ≤ a ∧ a < to ∧ to ≤ n) : Met l y_Model_character w_Model_character ({ frames := 0, cells := 0, slots := 0, locals := 0 }) (mwP D vwCl (tyL g) lo L κ [.ref (L kr), .int (iI a), .int (iI to)]) (mwQ D vwCl lo (mwR (some (.int (iI (mChar f a to)))) L κ)) 0 0 (fun q => lo ≤ q) := by
  refine Met.ofW (cc := b_Model_character) (maxL := 7) (ret := (Option.some Jvm.ClassFile.FieldType.int)) (by decide) rfl ?_
  intro p e s m args below meth c s₁ B hml hpre
  obtain ⟨hargs, hM, hK⟩ := hpre
  have hx := B.exec
  have hb := B.bytes
  have hr := B.returns
  have hts : ∀ w ∈ wA, w.before args s = true := fun w h => atoms_spec (ws := w_Model_character) B.pre w (List.mem_cons_of_mem _ h)
  have hown : s.vm.findClass R_Model = some m.cls := findClass_of_methodNamed B.named
  have hlocks := B.notSynchronized
  have hS : va_S (fun q => lo ≤ q) s.heap s.heap [] := va_S.rf
  have loop123 : ∀ (N : Nat) (k : Int) (v : Int) (n0 : Int), (n0 - k).toNat < N → ((1 ≤ k ∧ k ≤ n0) ∧ (2 ≤ n0 ∧ n0 ≤ 4 ∧ a + n0 ≤ to)) → (0 ≤ v ∧ ((k = 1 ∧ v < 64) ∨ (k = 2 ∧ v < 4096) ∨ (k = 3 ∧ v < 262144) ∨ (k = 4 ∧ v < 16777216))) → (mChar f a to = mChN f a n0 (n0 - k).toNat k v) → ∀ (H : Heap) (locs : List Loc) (ls : Array Slot), mw D vwCl lo L κ H → va_S (fun q => lo ≤ q) s.heap H locs → lv_has ls 7 [(6, .int (iI k)), (5, .int (iI v)), (4, .int (iI n0)), (0, .ref (L kr)), (1, .int (iI a)), (2, .int (iI to))] → W p l e (headSpec w_Model_character ({ frames := 0, cells := 0, slots := 0, locals := 0 })).room s m args below meth c H locs 0 0 (MQ below (mwQ D vwCl lo (mwR (some (.int (iI (mChar f a to)))) L κ)) args s 0 0 (fun q => lo ≤ q)) (F0 m 123 ls []) := by
    intro N
    induction N with
    | zero => intro k v n0 hms; exact absurd hms (Nat.not_lt_zero _)
    | succ N ih =>
      intro k v n0 hms hk hv hres H locs ls hM hS hl
      refine lv_iload hx hb d_Model_character_123 (lv_at hl 0 rfl) ?_
      refine lv_iload hx hb d_Model_character_125 (lv_at hl 2 rfl) ?_
      refine ia_icmp_ge (a := k) (b := n0) (tgt := 180) hx hb d_Model_character_127 (by decide) (by omega) (by omega) (fun c1 => ?_) (fun c1 => ?_)
      · refine lv_iload hx hb d_Model_character_180 (lv_at hl 2 rfl) ?_
        refine lv_iconst (v := iI (2)) hx hb d_Model_character_182 rfl ?_
        refine ia_icmp_ne (a := n0) (b := 2) (tgt := 192) hx hb d_Model_character_183 (by decide) (by omega) (by omega) (fun c2 => ?_) (fun c2 => ?_)
        · refine lv_iload hx hb d_Model_character_192 (lv_at hl 2 rfl) ?_
          refine lv_iconst (v := iI (3)) hx hb d_Model_character_194 rfl ?_
          refine ia_icmp_ne (a := n0) (b := 3) (tgt := 204) hx hb d_Model_character_195 (by decide) (by omega) (by omega) (fun c3 => ?_) (fun c3 => ?_)
          · refine lv_ldc (v := 65536) hx hb hown (hts _ m_661) d_Model_character_204 ?_
            refine W.eq (g2 := F0 m 206 ls (.int (iI 65536) :: [])) (by rfl) ?_
            refine lv_istore (lv' := [(6, .int (iI 65536)), (5, .int (iI v)), (4, .int (iI n0)), (0, .ref (L kr)), (1, .int (iI a)), (2, .int (iI to))]) hx hb d_Model_character_206 hl (by decide) rfl (fun ls hl => ?_)
            refine lv_iload hx hb d_Model_character_208 (lv_at hl 1 rfl) ?_
            refine lv_iload hx hb d_Model_character_210 (lv_at hl 0 rfl) ?_
            refine ia_icmp_lt (a := v) (b := 65536) (tgt := 236) hx hb d_Model_character_212 (by decide) (by omega) (by omega) (fun c4 => ?_) (fun c4 => ?_)
            · refine lv_iconst (v := iI (0)) hx hb d_Model_character_236 rfl ?_
              refine lv_goto (tgt := 242) hx hb d_Model_character_237 (by decide) ?_
              exact mw_iret hx hb hr hM hS hlocks d_Model_character_242 (mwR_i (by first | (exfalso; omega) | (rw [hres, mChN_0 (by omega)]; unfold mChE; rw [show mLeast n0 = 65536 by unfold mLeast; (first | (exfalso; omega) | (repeat (first | rw [if_pos (by first | assumption | omega)] | rw [if_neg (by first | assumption | exact zne (by assumption) | omega)])))]; (first | (exfalso; omega) | (repeat (first | rw [if_pos (by first | assumption | omega)] | rw [if_neg (by first | assumption | exact zne (by assumption) | omega)]))))))
            · refine lv_iload hx hb d_Model_character_215 (lv_at hl 1 rfl) ?_
              refine lv_ldc (v := 1114111) hx hb hown (hts _ m_662) d_Model_character_217 ?_
              refine W.eq (g2 := F0 m 219 ls (.int (iI 1114111) :: .int (iI v) :: [])) (by rfl) ?_
              refine ia_icmp_gt (a := v) (b := 1114111) (tgt := 236) hx hb d_Model_character_219 (by decide) (by omega) (by omega) (fun c5 => ?_) (fun c5 => ?_)
              · refine lv_iconst (v := iI (0)) hx hb d_Model_character_236 rfl ?_
                refine lv_goto (tgt := 242) hx hb d_Model_character_237 (by decide) ?_
                exact mw_iret hx hb hr hM hS hlocks d_Model_character_242 (mwR_i (by first | (exfalso; omega) | (rw [hres, mChN_0 (by omega)]; unfold mChE; rw [show mLeast n0 = 65536 by unfold mLeast; (first | (exfalso; omega) | (repeat (first | rw [if_pos (by first | assumption | omega)] | rw [if_neg (by first | assumption | exact zne (by assumption) | omega)])))]; (first | (exfalso; omega) | (repeat (first | rw [if_pos (by first | assumption | omega)] | rw [if_neg (by first | assumption | exact zne (by assumption) | omega)]))))))
              · refine lv_iload hx hb d_Model_character_222 (lv_at hl 1 rfl) ?_
                refine lv_ldc (v := 55295) hx hb hown (hts _ m_663) d_Model_character_224 ?_
                refine W.eq (g2 := F0 m 226 ls (.int (iI 55295) :: .int (iI v) :: [])) (by rfl) ?_
                refine ia_icmp_le (a := v) (b := 55295) (tgt := 240) hx hb d_Model_character_226 (by decide) (by omega) (by omega) (fun c6 => ?_) (fun c6 => ?_)
                · refine lv_iload hx hb d_Model_character_240 (lv_at hl 2 rfl) ?_
                  exact mw_iret hx hb hr hM hS hlocks d_Model_character_242 (mwR_i (by first | (exfalso; omega) | (rw [hres, mChN_0 (by omega)]; unfold mChE; rw [show mLeast n0 = 65536 by unfold mLeast; (first | (exfalso; omega) | (repeat (first | rw [if_pos (by first | assumption | omega)] | rw [if_neg (by first | assumption | exact zne (by assumption) | omega)])))]; (first | (exfalso; omega) | (repeat (first | rw [if_pos (by first | assumption | omega)] | rw [if_neg (by first | assumption | exact zne (by assumption) | omega)]))))))
                · refine lv_iload hx hb d_Model_character_229 (lv_at hl 1 rfl) ?_
                  refine lv_ldc (v := 57344) hx hb hown (hts _ m_664) d_Model_character_231 ?_
                  refine W.eq (g2 := F0 m 233 ls (.int (iI 57344) :: .int (iI v) :: [])) (by rfl) ?_
                  refine ia_icmp_ge (a := v) (b := 57344) (tgt := 240) hx hb d_Model_character_233 (by decide) (by omega) (by omega) (fun c7 => ?_) (fun c7 => ?_)
                  · refine lv_iload hx hb d_Model_character_240 (lv_at hl 2 rfl) ?_
                    exact mw_iret hx hb hr hM hS hlocks d_Model_character_242 (mwR_i (by first | (exfalso; omega) | (rw [hres, mChN_0 (by omega)]; unfold mChE; rw [show mLeast n0 = 65536 by unfold mLeast; (first | (exfalso; omega) | (repeat (first | rw [if_pos (by first | assumption | omega)] | rw [if_neg (by first | assumption | exact zne (by assumption) | omega)])))]; (first | (exfalso; omega) | (repeat (first | rw [if_pos (by first | assumption | omega)] | rw [if_neg (by first | assumption | exact zne (by assumption) | omega)]))))))
                  · refine lv_iconst (v := iI (0)) hx hb d_Model_character_236 rfl ?_
                    refine lv_goto (tgt := 242) hx hb d_Model_character_237 (by decide) ?_
                    exact mw_iret hx hb hr hM hS hlocks d_Model_character_242 (mwR_i (by first | (exfalso; omega) | (rw [hres, mChN_0 (by omega)]; unfold mChE; rw [show mLeast n0 = 65536 by unfold mLeast; (first | (exfalso; omega) | (repeat (first | rw [if_pos (by first | assumption | omega)] | rw [if_neg (by first | assumption | exact zne (by assumption) | omega)])))]; (first | (exfalso; omega) | (repeat (first | rw [if_pos (by first | assumption | omega)] | rw [if_neg (by first | assumption | exact zne (by assumption) | omega)]))))))
          · refine lv_sipush (v := iI (2048)) hx hb d_Model_character_198 (by decide) ?_
            refine lv_goto (tgt := 206) hx hb d_Model_character_201 (by decide) ?_
            refine lv_istore (lv' := [(6, .int (iI 2048)), (5, .int (iI v)), (4, .int (iI n0)), (0, .ref (L kr)), (1, .int (iI a)), (2, .int (iI to))]) hx hb d_Model_character_206 hl (by decide) rfl (fun ls hl => ?_)
            refine lv_iload hx hb d_Model_character_208 (lv_at hl 1 rfl) ?_
            refine lv_iload hx hb d_Model_character_210 (lv_at hl 0 rfl) ?_
            refine ia_icmp_lt (a := v) (b := 2048) (tgt := 236) hx hb d_Model_character_212 (by decide) (by omega) (by omega) (fun c8 => ?_) (fun c8 => ?_)
            · refine lv_iconst (v := iI (0)) hx hb d_Model_character_236 rfl ?_
              refine lv_goto (tgt := 242) hx hb d_Model_character_237 (by decide) ?_
              exact mw_iret hx hb hr hM hS hlocks d_Model_character_242 (mwR_i (by first | (exfalso; omega) | (rw [hres, mChN_0 (by omega)]; unfold mChE; rw [show mLeast n0 = 2048 by unfold mLeast; (first | (exfalso; omega) | (repeat (first | rw [if_pos (by first | assumption | omega)] | rw [if_neg (by first | assumption | exact zne (by assumption) | omega)])))]; (first | (exfalso; omega) | (repeat (first | rw [if_pos (by first | assumption | omega)] | rw [if_neg (by first | assumption | exact zne (by assumption) | omega)]))))))
            · refine lv_iload hx hb d_Model_character_215 (lv_at hl 1 rfl) ?_
              refine lv_ldc (v := 1114111) hx hb hown (hts _ m_662) d_Model_character_217 ?_
              refine W.eq (g2 := F0 m 219 ls (.int (iI 1114111) :: .int (iI v) :: [])) (by rfl) ?_
              refine ia_icmp_gt (a := v) (b := 1114111) (tgt := 236) hx hb d_Model_character_219 (by decide) (by omega) (by omega) (fun c9 => ?_) (fun c9 => ?_)
              · refine lv_iconst (v := iI (0)) hx hb d_Model_character_236 rfl ?_
                refine lv_goto (tgt := 242) hx hb d_Model_character_237 (by decide) ?_
                exact mw_iret hx hb hr hM hS hlocks d_Model_character_242 (mwR_i (by first | (exfalso; omega) | (rw [hres, mChN_0 (by omega)]; unfold mChE; rw [show mLeast n0 = 2048 by unfold mLeast; (first | (exfalso; omega) | (repeat (first | rw [if_pos (by first | assumption | omega)] | rw [if_neg (by first | assumption | exact zne (by assumption) | omega)])))]; (first | (exfalso; omega) | (repeat (first | rw [if_pos (by first | assumption | omega)] | rw [if_neg (by first | assumption | exact zne (by assumption) | omega)]))))))
              · refine lv_iload hx hb d_Model_character_222 (lv_at hl 1 rfl) ?_
                refine lv_ldc (v := 55295) hx hb hown (hts _ m_663) d_Model_character_224 ?_
                refine W.eq (g2 := F0 m 226 ls (.int (iI 55295) :: .int (iI v) :: [])) (by rfl) ?_
                refine ia_icmp_le (a := v) (b := 55295) (tgt := 240) hx hb d_Model_character_226 (by decide) (by omega) (by omega) (fun c10 => ?_) (fun c10 => ?_)
                · refine lv_iload hx hb d_Model_character_240 (lv_at hl 2 rfl) ?_
                  exact mw_iret hx hb hr hM hS hlocks d_Model_character_242 (mwR_i (by first | (exfalso; omega) | (rw [hres, mChN_0 (by omega)]; unfold mChE; rw [show mLeast n0 = 2048 by unfold mLeast; (first | (exfalso; omega) | (repeat (first | rw [if_pos (by first | assumption | omega)] | rw [if_neg (by first | assumption | exact zne (by assumption) | omega)])))]; (first | (exfalso; omega) | (repeat (first | rw [if_pos (by first | assumption | omega)] | rw [if_neg (by first | assumption | exact zne (by assumption) | omega)]))))))
                · refine lv_iload hx hb d_Model_character_229 (lv_at hl 1 rfl) ?_
                  refine lv_ldc (v := 57344) hx hb hown (hts _ m_664) d_Model_character_231 ?_
                  refine W.eq (g2 := F0 m 233 ls (.int (iI 57344) :: .int (iI v) :: [])) (by rfl) ?_
                  refine ia_icmp_ge (a := v) (b := 57344) (tgt := 240) hx hb d_Model_character_233 (by decide) (by omega) (by omega) (fun c11 => ?_) (fun c11 => ?_)
                  · refine lv_iload hx hb d_Model_character_240 (lv_at hl 2 rfl) ?_
                    exact mw_iret hx hb hr hM hS hlocks d_Model_character_242 (mwR_i (by first | (exfalso; omega) | (rw [hres, mChN_0 (by omega)]; unfold mChE; rw [show mLeast n0 = 2048 by unfold mLeast; (first | (exfalso; omega) | (repeat (first | rw [if_pos (by first | assumption | omega)] | rw [if_neg (by first | assumption | exact zne (by assumption) | omega)])))]; (first | (exfalso; omega) | (repeat (first | rw [if_pos (by first | assumption | omega)] | rw [if_neg (by first | assumption | exact zne (by assumption) | omega)]))))))
                  · refine lv_iconst (v := iI (0)) hx hb d_Model_character_236 rfl ?_
                    refine lv_goto (tgt := 242) hx hb d_Model_character_237 (by decide) ?_
                    exact mw_iret hx hb hr hM hS hlocks d_Model_character_242 (mwR_i (by first | (exfalso; omega) | (rw [hres, mChN_0 (by omega)]; unfold mChE; rw [show mLeast n0 = 2048 by unfold mLeast; (first | (exfalso; omega) | (repeat (first | rw [if_pos (by first | assumption | omega)] | rw [if_neg (by first | assumption | exact zne (by assumption) | omega)])))]; (first | (exfalso; omega) | (repeat (first | rw [if_pos (by first | assumption | omega)] | rw [if_neg (by first | assumption | exact zne (by assumption) | omega)]))))))
        · refine lv_sipush (v := iI (128)) hx hb d_Model_character_186 (by decide) ?_
          refine lv_goto (tgt := 206) hx hb d_Model_character_189 (by decide) ?_
          refine lv_istore (lv' := [(6, .int (iI 128)), (5, .int (iI v)), (4, .int (iI n0)), (0, .ref (L kr)), (1, .int (iI a)), (2, .int (iI to))]) hx hb d_Model_character_206 hl (by decide) rfl (fun ls hl => ?_)
          refine lv_iload hx hb d_Model_character_208 (lv_at hl 1 rfl) ?_
          refine lv_iload hx hb d_Model_character_210 (lv_at hl 0 rfl) ?_
          refine ia_icmp_lt (a := v) (b := 128) (tgt := 236) hx hb d_Model_character_212 (by decide) (by omega) (by omega) (fun c12 => ?_) (fun c12 => ?_)
          · refine lv_iconst (v := iI (0)) hx hb d_Model_character_236 rfl ?_
            refine lv_goto (tgt := 242) hx hb d_Model_character_237 (by decide) ?_
            exact mw_iret hx hb hr hM hS hlocks d_Model_character_242 (mwR_i (by first | (exfalso; omega) | (rw [hres, mChN_0 (by omega)]; unfold mChE; rw [show mLeast n0 = 128 by unfold mLeast; (first | (exfalso; omega) | (repeat (first | rw [if_pos (by first | assumption | omega)] | rw [if_neg (by first | assumption | exact zne (by assumption) | omega)])))]; (first | (exfalso; omega) | (repeat (first | rw [if_pos (by first | assumption | omega)] | rw [if_neg (by first | assumption | exact zne (by assumption) | omega)]))))))
          · refine lv_iload hx hb d_Model_character_215 (lv_at hl 1 rfl) ?_
            refine lv_ldc (v := 1114111) hx hb hown (hts _ m_662) d_Model_character_217 ?_
            refine W.eq (g2 := F0 m 219 ls (.int (iI 1114111) :: .int (iI v) :: [])) (by rfl) ?_
            refine ia_icmp_gt (a := v) (b := 1114111) (tgt := 236) hx hb d_Model_character_219 (by decide) (by omega) (by omega) (fun c13 => ?_) (fun c13 => ?_)
            · refine lv_iconst (v := iI (0)) hx hb d_Model_character_236 rfl ?_
              refine lv_goto (tgt := 242) hx hb d_Model_character_237 (by decide) ?_
              exact mw_iret hx hb hr hM hS hlocks d_Model_character_242 (mwR_i (by first | (exfalso; omega) | (rw [hres, mChN_0 (by omega)]; unfold mChE; rw [show mLeast n0 = 128 by unfold mLeast; (first | (exfalso; omega) | (repeat (first | rw [if_pos (by first | assumption | omega)] | rw [if_neg (by first | assumption | exact zne (by assumption) | omega)])))]; (first | (exfalso; omega) | (repeat (first | rw [if_pos (by first | assumption | omega)] | rw [if_neg (by first | assumption | exact zne (by assumption) | omega)]))))))
            · refine lv_iload hx hb d_Model_character_222 (lv_at hl 1 rfl) ?_
              refine lv_ldc (v := 55295) hx hb hown (hts _ m_663) d_Model_character_224 ?_
              refine W.eq (g2 := F0 m 226 ls (.int (iI 55295) :: .int (iI v) :: [])) (by rfl) ?_
              refine ia_icmp_le (a := v) (b := 55295) (tgt := 240) hx hb d_Model_character_226 (by decide) (by omega) (by omega) (fun c14 => ?_) (fun c14 => ?_)
              · refine lv_iload hx hb d_Model_character_240 (lv_at hl 2 rfl) ?_
                exact mw_iret hx hb hr hM hS hlocks d_Model_character_242 (mwR_i (by first | (exfalso; omega) | (rw [hres, mChN_0 (by omega)]; unfold mChE; rw [show mLeast n0 = 128 by unfold mLeast; (first | (exfalso; omega) | (repeat (first | rw [if_pos (by first | assumption | omega)] | rw [if_neg (by first | assumption | exact zne (by assumption) | omega)])))]; (first | (exfalso; omega) | (repeat (first | rw [if_pos (by first | assumption | omega)] | rw [if_neg (by first | assumption | exact zne (by assumption) | omega)]))))))
              · refine lv_iload hx hb d_Model_character_229 (lv_at hl 1 rfl) ?_
                refine lv_ldc (v := 57344) hx hb hown (hts _ m_664) d_Model_character_231 ?_
                refine W.eq (g2 := F0 m 233 ls (.int (iI 57344) :: .int (iI v) :: [])) (by rfl) ?_
                refine ia_icmp_ge (a := v) (b := 57344) (tgt := 240) hx hb d_Model_character_233 (by decide) (by omega) (by omega) (fun c15 => ?_) (fun c15 => ?_)
                · refine lv_iload hx hb d_Model_character_240 (lv_at hl 2 rfl) ?_
                  exact mw_iret hx hb hr hM hS hlocks d_Model_character_242 (mwR_i (by first | (exfalso; omega) | (rw [hres, mChN_0 (by omega)]; unfold mChE; rw [show mLeast n0 = 128 by unfold mLeast; (first | (exfalso; omega) | (repeat (first | rw [if_pos (by first | assumption | omega)] | rw [if_neg (by first | assumption | exact zne (by assumption) | omega)])))]; (first | (exfalso; omega) | (repeat (first | rw [if_pos (by first | assumption | omega)] | rw [if_neg (by first | assumption | exact zne (by assumption) | omega)]))))))
                · refine lv_iconst (v := iI (0)) hx hb d_Model_character_236 rfl ?_
                  refine lv_goto (tgt := 242) hx hb d_Model_character_237 (by decide) ?_
                  exact mw_iret hx hb hr hM hS hlocks d_Model_character_242 (mwR_i (by first | (exfalso; omega) | (rw [hres, mChN_0 (by omega)]; unfold mChE; rw [show mLeast n0 = 128 by unfold mLeast; (first | (exfalso; omega) | (repeat (first | rw [if_pos (by first | assumption | omega)] | rw [if_neg (by first | assumption | exact zne (by assumption) | omega)])))]; (first | (exfalso; omega) | (repeat (first | rw [if_pos (by first | assumption | omega)] | rw [if_neg (by first | assumption | exact zne (by assumption) | omega)]))))))
      · refine lv_aload_n hx hb d_Model_character_130 rfl (lv_at hl 3 rfl) ?_
        refine lv_iload_n hx hb d_Model_character_131 rfl (lv_at hl 4 rfl) ?_
        refine lv_iload hx hb d_Model_character_132 (lv_at hl 0 rfl) ?_
        refine ia_add hx hb d_Model_character_134 ?_
        refine mw_iald (a := a + k) (i := kr) hx hb hK hM 1 hA rfl rfl (by omega) (by omega) d_Model_character_135 ?_
        have r16 := hf (a + k : Int).toNat
        refine lv_sipush (v := iI (128)) hx hb d_Model_character_136 (by decide) ?_
        refine ia_icmp_lt (a := f (a + k : Int).toNat) (b := 128) (tgt := 154) hx hb d_Model_character_139 (by decide) (by omega) (by omega) (fun c17 => ?_) (fun c17 => ?_)
        · refine lv_iconst (v := iI (0)) hx hb d_Model_character_154 rfl ?_
          exact mw_iret hx hb hr hM hS hlocks d_Model_character_155 (mwR_i (by rw [hres, mChN_s (by omega), if_pos (by omega)]))
        · refine lv_aload_n hx hb d_Model_character_142 rfl (lv_at hl 3 rfl) ?_
          refine lv_iload_n hx hb d_Model_character_143 rfl (lv_at hl 4 rfl) ?_
          refine lv_iload hx hb d_Model_character_144 (lv_at hl 0 rfl) ?_
          refine ia_add hx hb d_Model_character_146 ?_
          refine mw_iald (a := a + k) (i := kr) hx hb hK hM 1 hA rfl rfl (by omega) (by omega) d_Model_character_147 ?_
          have r18 := hf (a + k : Int).toNat
          refine lv_sipush (v := iI (191)) hx hb d_Model_character_148 (by decide) ?_
          refine ia_icmp_le (a := f (a + k : Int).toNat) (b := 191) (tgt := 156) hx hb d_Model_character_151 (by decide) (by omega) (by omega) (fun c19 => ?_) (fun c19 => ?_)
          · refine lv_bipush (v := iI (64)) hx hb d_Model_character_156 (by decide) ?_
            refine lv_iload hx hb d_Model_character_158 (lv_at hl 1 rfl) ?_
            refine ia_mul hx hb d_Model_character_160 ?_
            refine lv_aload_n hx hb d_Model_character_161 rfl (lv_at hl 3 rfl) ?_
            refine lv_iload_n hx hb d_Model_character_162 rfl (lv_at hl 4 rfl) ?_
            refine lv_iload hx hb d_Model_character_163 (lv_at hl 0 rfl) ?_
            refine ia_add hx hb d_Model_character_165 ?_
            refine mw_iald (a := a + k) (i := kr) hx hb hK hM 1 hA rfl rfl (by omega) (by omega) d_Model_character_166 ?_
            have r20 := hf (a + k : Int).toNat
            refine ia_add hx hb d_Model_character_167 ?_
            refine lv_sipush (v := iI (128)) hx hb d_Model_character_168 (by decide) ?_
            refine ia_sub hx hb d_Model_character_171 ?_
            refine lv_istore (lv' := [(5, .int (iI (((64 * v) + (f (a + k : Int).toNat)) - 128))), (6, .int (iI k)), (4, .int (iI n0)), (0, .ref (L kr)), (1, .int (iI a)), (2, .int (iI to))]) hx hb d_Model_character_172 hl (by decide) rfl (fun ls hl => ?_)
            refine lv_iinc (v := iI (k + 1)) (lv' := [(6, .int (iI (k + 1))), (5, .int (iI (((64 * v) + (f (a + k : Int).toNat)) - 128))), (4, .int (iI n0)), (0, .ref (L kr)), (1, .int (iI a)), (2, .int (iI to))]) hx hb d_Model_character_174 hl (k := 1) rfl (iI_inc _ _) (by decide) rfl (fun ls hl => ?_)
            refine lv_goto (tgt := 123) hx hb d_Model_character_177 (by decide) ?_
            exact ih (k + 1) (64 * v + (f ((a + k : Int)).toNat) - 128) n0 (by omega) (by omega) (by omega) (by rw [hres, mChN_s (by omega), if_neg (by omega)]) _ _ ls hM hS (lv_sub hl [0, 1, 2, 3, 4, 5] rfl)
          · refine lv_iconst (v := iI (0)) hx hb d_Model_character_154 rfl ?_
            exact mw_iret hx hb hr hM hS hlocks d_Model_character_155 (mwR_i (by rw [hres, mChN_s (by omega), if_pos (by omega)]))
  obtain ⟨ls, hls, hl⟩ := mw_entry (m := m) [.ref (L kr), .int (iI a), .int (iI to)] (n := 7) (Nat.le_of_ble_eq_true rfl) hargs
  refine W.eq hls ?_
  have hl : lv_has ls 7 [(0, .ref (L kr)), (1, .int (iI a)), (2, .int (iI to))] := hl
  refine lv_aload_n hx hb d_Model_character_0 rfl (lv_at hl 0 rfl) ?_
  refine lv_iload_n hx hb d_Model_character_1 rfl (lv_at hl 1 rfl) ?_
  refine mw_iald (a := a) (i := kr) hx hb hK hM 1 hA rfl rfl (by omega) (by omega) d_Model_character_2 ?_
  have r21 := hf (a : Int).toNat
  refine lv_istore_n (lv' := [(3, .int (iI (f (a : Int).toNat))), (0, .ref (L kr)), (1, .int (iI a)), (2, .int (iI to))]) hx hb d_Model_character_3 rfl hl (by decide) rfl (fun ls hl => ?_)
  refine lv_iload_n hx hb d_Model_character_4 rfl (lv_at hl 0 rfl) ?_
  refine lv_sipush (v := iI (128)) hx hb d_Model_character_5 (by decide) ?_
  refine ia_icmp_ge (a := f (a : Int).toNat) (b := 128) (tgt := 13) hx hb d_Model_character_8 (by decide) (by omega) (by omega) (fun c22 => ?_) (fun c22 => ?_)
  · refine lv_iload_n hx hb d_Model_character_13 rfl (lv_at hl 0 rfl) ?_
    refine lv_sipush (v := iI (192)) hx hb d_Model_character_14 (by decide) ?_
    refine ia_icmp_lt (a := f (a : Int).toNat) (b := 192) (tgt := 31) hx hb d_Model_character_17 (by decide) (by omega) (by omega) (fun c23 => ?_) (fun c23 => ?_)
    · refine lv_iload_n hx hb d_Model_character_31 rfl (lv_at hl 0 rfl) ?_
      refine lv_sipush (v := iI (224)) hx hb d_Model_character_32 (by decide) ?_
      refine ia_icmp_lt (a := f (a : Int).toNat) (b := 224) (tgt := 49) hx hb d_Model_character_35 (by decide) (by omega) (by omega) (fun c24 => ?_) (fun c24 => ?_)
      · refine lv_iload_n hx hb d_Model_character_49 rfl (lv_at hl 0 rfl) ?_
        refine lv_sipush (v := iI (240)) hx hb d_Model_character_50 (by decide) ?_
        refine ia_icmp_lt (a := f (a : Int).toNat) (b := 240) (tgt := 67) hx hb d_Model_character_53 (by decide) (by omega) (by omega) (fun c25 => ?_) (fun c25 => ?_)
        · refine lv_iconst (v := iI (0)) hx hb d_Model_character_67 rfl ?_
          refine lv_istore (lv' := [(4, .int (iI 0)), (3, .int (iI (f (a : Int).toNat))), (0, .ref (L kr)), (1, .int (iI a)), (2, .int (iI to))]) hx hb d_Model_character_68 hl (by decide) rfl (fun ls hl => ?_)
          refine lv_iload hx hb d_Model_character_70 (lv_at hl 0 rfl) ?_
          refine ia_if_eq (a := 0) (tgt := 83) hx hb d_Model_character_72 (by decide) (by omega) (fun c26 => ?_) (fun c26 => ?_)
          · refine lv_iconst (v := iI (0)) hx hb d_Model_character_83 rfl ?_
            exact mw_iret hx hb hr hM hS hlocks d_Model_character_84 (mwR_i (by first | (exfalso; omega) | (unfold mChar; rw [if_neg (by omega), if_pos (Or.inl (by unfold mLen; (first | (exfalso; omega) | (repeat (first | rw [if_pos (by first | assumption | omega)] | rw [if_neg (by first | assumption | exact zne (by assumption) | omega)])))))])))
          · exact absurd (by decide) c26
        · refine lv_iload_n hx hb d_Model_character_56 rfl (lv_at hl 0 rfl) ?_
          refine lv_sipush (v := iI (248)) hx hb d_Model_character_57 (by decide) ?_
          refine ia_icmp_ge (a := f (a : Int).toNat) (b := 248) (tgt := 67) hx hb d_Model_character_60 (by decide) (by omega) (by omega) (fun c27 => ?_) (fun c27 => ?_)
          · refine lv_iconst (v := iI (0)) hx hb d_Model_character_67 rfl ?_
            refine lv_istore (lv' := [(4, .int (iI 0)), (3, .int (iI (f (a : Int).toNat))), (0, .ref (L kr)), (1, .int (iI a)), (2, .int (iI to))]) hx hb d_Model_character_68 hl (by decide) rfl (fun ls hl => ?_)
            refine lv_iload hx hb d_Model_character_70 (lv_at hl 0 rfl) ?_
            refine ia_if_eq (a := 0) (tgt := 83) hx hb d_Model_character_72 (by decide) (by omega) (fun c28 => ?_) (fun c28 => ?_)
            · refine lv_iconst (v := iI (0)) hx hb d_Model_character_83 rfl ?_
              exact mw_iret hx hb hr hM hS hlocks d_Model_character_84 (mwR_i (by first | (exfalso; omega) | (unfold mChar; rw [if_neg (by omega), if_pos (Or.inl (by unfold mLen; (first | (exfalso; omega) | (repeat (first | rw [if_pos (by first | assumption | omega)] | rw [if_neg (by first | assumption | exact zne (by assumption) | omega)])))))])))
            · exact absurd (by decide) c28
          · refine lv_iconst (v := iI (4)) hx hb d_Model_character_63 rfl ?_
            refine lv_goto (tgt := 68) hx hb d_Model_character_64 (by decide) ?_
            refine lv_istore (lv' := [(4, .int (iI 4)), (3, .int (iI (f (a : Int).toNat))), (0, .ref (L kr)), (1, .int (iI a)), (2, .int (iI to))]) hx hb d_Model_character_68 hl (by decide) rfl (fun ls hl => ?_)
            refine lv_iload hx hb d_Model_character_70 (lv_at hl 0 rfl) ?_
            refine ia_if_eq (a := 4) (tgt := 83) hx hb d_Model_character_72 (by decide) (by omega) (fun c29 => ?_) (fun c29 => ?_)
            · exact absurd c29 (by decide)
            · refine lv_iload_n hx hb d_Model_character_75 rfl (lv_at hl 3 rfl) ?_
              refine lv_iload hx hb d_Model_character_76 (lv_at hl 0 rfl) ?_
              refine ia_add hx hb d_Model_character_78 ?_
              refine lv_iload_n hx hb d_Model_character_79 rfl (lv_at hl 4 rfl) ?_
              refine ia_icmp_le (a := a + 4) (b := to) (tgt := 85) hx hb d_Model_character_80 (by decide) (by omega) (by omega) (fun c30 => ?_) (fun c30 => ?_)
              · refine lv_iload hx hb d_Model_character_85 (lv_at hl 0 rfl) ?_
                refine lv_iconst (v := iI (2)) hx hb d_Model_character_87 rfl ?_
                refine ia_icmp_ne (a := 4) (b := 2) (tgt := 99) hx hb d_Model_character_88 (by decide) (by omega) (by omega) (fun c31 => ?_) (fun c31 => ?_)
                · refine lv_iload hx hb d_Model_character_99 (lv_at hl 0 rfl) ?_
                  refine lv_iconst (v := iI (3)) hx hb d_Model_character_101 rfl ?_
                  refine ia_icmp_ne (a := 4) (b := 3) (tgt := 113) hx hb d_Model_character_102 (by decide) (by omega) (by omega) (fun c32 => ?_) (fun c32 => ?_)
                  · refine lv_iload_n hx hb d_Model_character_113 rfl (lv_at hl 1 rfl) ?_
                    refine lv_sipush (v := iI (240)) hx hb d_Model_character_114 (by decide) ?_
                    refine ia_sub hx hb d_Model_character_117 ?_
                    refine lv_istore (lv' := [(5, .int (iI ((f (a : Int).toNat) - 240))), (4, .int (iI 4)), (3, .int (iI (f (a : Int).toNat))), (0, .ref (L kr)), (1, .int (iI a)), (2, .int (iI to))]) hx hb d_Model_character_118 hl (by decide) rfl (fun ls hl => ?_)
                    refine lv_iconst (v := iI (1)) hx hb d_Model_character_120 rfl ?_
                    refine lv_istore (lv' := [(6, .int (iI 1)), (5, .int (iI ((f (a : Int).toNat) - 240))), (4, .int (iI 4)), (3, .int (iI (f (a : Int).toNat))), (0, .ref (L kr)), (1, .int (iI a)), (2, .int (iI to))]) hx hb d_Model_character_121 hl (by decide) rfl (fun ls hl => ?_)
                    exact loop123 _ 1 ((f (a : Int).toNat) - 240) 4 (Nat.lt_succ_self _) (by omega) (by omega) (by first | (exfalso; omega) | (unfold mChar; rw [if_neg (by omega), show mLen (f (a : Int).toNat) = 4 by unfold mLen; (first | (exfalso; omega) | (repeat (first | rw [if_pos (by first | assumption | omega)] | rw [if_neg (by first | assumption | exact zne (by assumption) | omega)])))]; rw [if_neg (by omega)]; rfl)) _ _ ls hM hS (lv_sub hl [0, 1, 2, 4, 5, 6] rfl)
                  · exact absurd (by decide) c32
                · exact absurd (by decide) c31
              · refine lv_iconst (v := iI (0)) hx hb d_Model_character_83 rfl ?_
                exact mw_iret hx hb hr hM hS hlocks d_Model_character_84 (mwR_i (by first | (exfalso; omega) | (unfold mChar; rw [if_neg (by omega), if_pos (Or.inr (by rw [show mLen (f (a : Int).toNat) = 4 by unfold mLen; (first | (exfalso; omega) | (repeat (first | rw [if_pos (by first | assumption | omega)] | rw [if_neg (by first | assumption | exact zne (by assumption) | omega)])))]; omega))])))
      · refine lv_iload_n hx hb d_Model_character_38 rfl (lv_at hl 0 rfl) ?_
        refine lv_sipush (v := iI (240)) hx hb d_Model_character_39 (by decide) ?_
        refine ia_icmp_ge (a := f (a : Int).toNat) (b := 240) (tgt := 49) hx hb d_Model_character_42 (by decide) (by omega) (by omega) (fun c33 => ?_) (fun c33 => ?_)
        · refine lv_iload_n hx hb d_Model_character_49 rfl (lv_at hl 0 rfl) ?_
          refine lv_sipush (v := iI (240)) hx hb d_Model_character_50 (by decide) ?_
          refine ia_icmp_lt (a := f (a : Int).toNat) (b := 240) (tgt := 67) hx hb d_Model_character_53 (by decide) (by omega) (by omega) (fun c34 => ?_) (fun c34 => ?_)
          · refine lv_iconst (v := iI (0)) hx hb d_Model_character_67 rfl ?_
            refine lv_istore (lv' := [(4, .int (iI 0)), (3, .int (iI (f (a : Int).toNat))), (0, .ref (L kr)), (1, .int (iI a)), (2, .int (iI to))]) hx hb d_Model_character_68 hl (by decide) rfl (fun ls hl => ?_)
            refine lv_iload hx hb d_Model_character_70 (lv_at hl 0 rfl) ?_
            refine ia_if_eq (a := 0) (tgt := 83) hx hb d_Model_character_72 (by decide) (by omega) (fun c35 => ?_) (fun c35 => ?_)
            · refine lv_iconst (v := iI (0)) hx hb d_Model_character_83 rfl ?_
              exact mw_iret hx hb hr hM hS hlocks d_Model_character_84 (mwR_i (by first | (exfalso; omega) | (unfold mChar; rw [if_neg (by omega), if_pos (Or.inl (by unfold mLen; (first | (exfalso; omega) | (repeat (first | rw [if_pos (by first | assumption | omega)] | rw [if_neg (by first | assumption | exact zne (by assumption) | omega)])))))])))
            · exact absurd (by decide) c35
          · refine lv_iload_n hx hb d_Model_character_56 rfl (lv_at hl 0 rfl) ?_
            refine lv_sipush (v := iI (248)) hx hb d_Model_character_57 (by decide) ?_
            refine ia_icmp_ge (a := f (a : Int).toNat) (b := 248) (tgt := 67) hx hb d_Model_character_60 (by decide) (by omega) (by omega) (fun c36 => ?_) (fun c36 => ?_)
            · refine lv_iconst (v := iI (0)) hx hb d_Model_character_67 rfl ?_
              refine lv_istore (lv' := [(4, .int (iI 0)), (3, .int (iI (f (a : Int).toNat))), (0, .ref (L kr)), (1, .int (iI a)), (2, .int (iI to))]) hx hb d_Model_character_68 hl (by decide) rfl (fun ls hl => ?_)
              refine lv_iload hx hb d_Model_character_70 (lv_at hl 0 rfl) ?_
              refine ia_if_eq (a := 0) (tgt := 83) hx hb d_Model_character_72 (by decide) (by omega) (fun c37 => ?_) (fun c37 => ?_)
              · refine lv_iconst (v := iI (0)) hx hb d_Model_character_83 rfl ?_
                exact mw_iret hx hb hr hM hS hlocks d_Model_character_84 (mwR_i (by first | (exfalso; omega) | (unfold mChar; rw [if_neg (by omega), if_pos (Or.inl (by unfold mLen; (first | (exfalso; omega) | (repeat (first | rw [if_pos (by first | assumption | omega)] | rw [if_neg (by first | assumption | exact zne (by assumption) | omega)])))))])))
              · exact absurd (by decide) c37
            · refine lv_iconst (v := iI (4)) hx hb d_Model_character_63 rfl ?_
              refine lv_goto (tgt := 68) hx hb d_Model_character_64 (by decide) ?_
              refine lv_istore (lv' := [(4, .int (iI 4)), (3, .int (iI (f (a : Int).toNat))), (0, .ref (L kr)), (1, .int (iI a)), (2, .int (iI to))]) hx hb d_Model_character_68 hl (by decide) rfl (fun ls hl => ?_)
              refine lv_iload hx hb d_Model_character_70 (lv_at hl 0 rfl) ?_
              refine ia_if_eq (a := 4) (tgt := 83) hx hb d_Model_character_72 (by decide) (by omega) (fun c38 => ?_) (fun c38 => ?_)
              · exact absurd c38 (by decide)
              · refine lv_iload_n hx hb d_Model_character_75 rfl (lv_at hl 3 rfl) ?_
                refine lv_iload hx hb d_Model_character_76 (lv_at hl 0 rfl) ?_
                refine ia_add hx hb d_Model_character_78 ?_
                refine lv_iload_n hx hb d_Model_character_79 rfl (lv_at hl 4 rfl) ?_
                refine ia_icmp_le (a := a + 4) (b := to) (tgt := 85) hx hb d_Model_character_80 (by decide) (by omega) (by omega) (fun c39 => ?_) (fun c39 => ?_)
                · refine lv_iload hx hb d_Model_character_85 (lv_at hl 0 rfl) ?_
                  refine lv_iconst (v := iI (2)) hx hb d_Model_character_87 rfl ?_
                  refine ia_icmp_ne (a := 4) (b := 2) (tgt := 99) hx hb d_Model_character_88 (by decide) (by omega) (by omega) (fun c40 => ?_) (fun c40 => ?_)
                  · refine lv_iload hx hb d_Model_character_99 (lv_at hl 0 rfl) ?_
                    refine lv_iconst (v := iI (3)) hx hb d_Model_character_101 rfl ?_
                    refine ia_icmp_ne (a := 4) (b := 3) (tgt := 113) hx hb d_Model_character_102 (by decide) (by omega) (by omega) (fun c41 => ?_) (fun c41 => ?_)
                    · refine lv_iload_n hx hb d_Model_character_113 rfl (lv_at hl 1 rfl) ?_
                      refine lv_sipush (v := iI (240)) hx hb d_Model_character_114 (by decide) ?_
                      refine ia_sub hx hb d_Model_character_117 ?_
                      refine lv_istore (lv' := [(5, .int (iI ((f (a : Int).toNat) - 240))), (4, .int (iI 4)), (3, .int (iI (f (a : Int).toNat))), (0, .ref (L kr)), (1, .int (iI a)), (2, .int (iI to))]) hx hb d_Model_character_118 hl (by decide) rfl (fun ls hl => ?_)
                      refine lv_iconst (v := iI (1)) hx hb d_Model_character_120 rfl ?_
                      refine lv_istore (lv' := [(6, .int (iI 1)), (5, .int (iI ((f (a : Int).toNat) - 240))), (4, .int (iI 4)), (3, .int (iI (f (a : Int).toNat))), (0, .ref (L kr)), (1, .int (iI a)), (2, .int (iI to))]) hx hb d_Model_character_121 hl (by decide) rfl (fun ls hl => ?_)
                      exact loop123 _ 1 ((f (a : Int).toNat) - 240) 4 (Nat.lt_succ_self _) (by omega) (by omega) (by first | (exfalso; omega) | (unfold mChar; rw [if_neg (by omega), show mLen (f (a : Int).toNat) = 4 by unfold mLen; (first | (exfalso; omega) | (repeat (first | rw [if_pos (by first | assumption | omega)] | rw [if_neg (by first | assumption | exact zne (by assumption) | omega)])))]; rw [if_neg (by omega)]; rfl)) _ _ ls hM hS (lv_sub hl [0, 1, 2, 4, 5, 6] rfl)
                    · exact absurd (by decide) c41
                  · exact absurd (by decide) c40
                · refine lv_iconst (v := iI (0)) hx hb d_Model_character_83 rfl ?_
                  exact mw_iret hx hb hr hM hS hlocks d_Model_character_84 (mwR_i (by first | (exfalso; omega) | (unfold mChar; rw [if_neg (by omega), if_pos (Or.inr (by rw [show mLen (f (a : Int).toNat) = 4 by unfold mLen; (first | (exfalso; omega) | (repeat (first | rw [if_pos (by first | assumption | omega)] | rw [if_neg (by first | assumption | exact zne (by assumption) | omega)])))]; omega))])))
        · refine lv_iconst (v := iI (3)) hx hb d_Model_character_45 rfl ?_
          refine lv_goto (tgt := 68) hx hb d_Model_character_46 (by decide) ?_
          refine lv_istore (lv' := [(4, .int (iI 3)), (3, .int (iI (f (a : Int).toNat))), (0, .ref (L kr)), (1, .int (iI a)), (2, .int (iI to))]) hx hb d_Model_character_68 hl (by decide) rfl (fun ls hl => ?_)
          refine lv_iload hx hb d_Model_character_70 (lv_at hl 0 rfl) ?_
          refine ia_if_eq (a := 3) (tgt := 83) hx hb d_Model_character_72 (by decide) (by omega) (fun c42 => ?_) (fun c42 => ?_)
          · exact absurd c42 (by decide)
          · refine lv_iload_n hx hb d_Model_character_75 rfl (lv_at hl 3 rfl) ?_
            refine lv_iload hx hb d_Model_character_76 (lv_at hl 0 rfl) ?_
            refine ia_add hx hb d_Model_character_78 ?_
            refine lv_iload_n hx hb d_Model_character_79 rfl (lv_at hl 4 rfl) ?_
            refine ia_icmp_le (a := a + 3) (b := to) (tgt := 85) hx hb d_Model_character_80 (by decide) (by omega) (by omega) (fun c43 => ?_) (fun c43 => ?_)
            · refine lv_iload hx hb d_Model_character_85 (lv_at hl 0 rfl) ?_
              refine lv_iconst (v := iI (2)) hx hb d_Model_character_87 rfl ?_
              refine ia_icmp_ne (a := 3) (b := 2) (tgt := 99) hx hb d_Model_character_88 (by decide) (by omega) (by omega) (fun c44 => ?_) (fun c44 => ?_)
              · refine lv_iload hx hb d_Model_character_99 (lv_at hl 0 rfl) ?_
                refine lv_iconst (v := iI (3)) hx hb d_Model_character_101 rfl ?_
                refine ia_icmp_ne (a := 3) (b := 3) (tgt := 113) hx hb d_Model_character_102 (by decide) (by omega) (by omega) (fun c45 => ?_) (fun c45 => ?_)
                · exact absurd c45 (by decide)
                · refine lv_iload_n hx hb d_Model_character_105 rfl (lv_at hl 1 rfl) ?_
                  refine lv_sipush (v := iI (224)) hx hb d_Model_character_106 (by decide) ?_
                  refine ia_sub hx hb d_Model_character_109 ?_
                  refine lv_goto (tgt := 118) hx hb d_Model_character_110 (by decide) ?_
                  refine lv_istore (lv' := [(5, .int (iI ((f (a : Int).toNat) - 224))), (4, .int (iI 3)), (3, .int (iI (f (a : Int).toNat))), (0, .ref (L kr)), (1, .int (iI a)), (2, .int (iI to))]) hx hb d_Model_character_118 hl (by decide) rfl (fun ls hl => ?_)
                  refine lv_iconst (v := iI (1)) hx hb d_Model_character_120 rfl ?_
                  refine lv_istore (lv' := [(6, .int (iI 1)), (5, .int (iI ((f (a : Int).toNat) - 224))), (4, .int (iI 3)), (3, .int (iI (f (a : Int).toNat))), (0, .ref (L kr)), (1, .int (iI a)), (2, .int (iI to))]) hx hb d_Model_character_121 hl (by decide) rfl (fun ls hl => ?_)
                  exact loop123 _ 1 ((f (a : Int).toNat) - 224) 3 (Nat.lt_succ_self _) (by omega) (by omega) (by first | (exfalso; omega) | (unfold mChar; rw [if_neg (by omega), show mLen (f (a : Int).toNat) = 3 by unfold mLen; (first | (exfalso; omega) | (repeat (first | rw [if_pos (by first | assumption | omega)] | rw [if_neg (by first | assumption | exact zne (by assumption) | omega)])))]; rw [if_neg (by omega)]; rfl)) _ _ ls hM hS (lv_sub hl [0, 1, 2, 4, 5, 6] rfl)
              · exact absurd (by decide) c44
            · refine lv_iconst (v := iI (0)) hx hb d_Model_character_83 rfl ?_
              exact mw_iret hx hb hr hM hS hlocks d_Model_character_84 (mwR_i (by first | (exfalso; omega) | (unfold mChar; rw [if_neg (by omega), if_pos (Or.inr (by rw [show mLen (f (a : Int).toNat) = 3 by unfold mLen; (first | (exfalso; omega) | (repeat (first | rw [if_pos (by first | assumption | omega)] | rw [if_neg (by first | assumption | exact zne (by assumption) | omega)])))]; omega))])))
    · refine lv_iload_n hx hb d_Model_character_20 rfl (lv_at hl 0 rfl) ?_
      refine lv_sipush (v := iI (224)) hx hb d_Model_character_21 (by decide) ?_
      refine ia_icmp_ge (a := f (a : Int).toNat) (b := 224) (tgt := 31) hx hb d_Model_character_24 (by decide) (by omega) (by omega) (fun c46 => ?_) (fun c46 => ?_)
      · refine lv_iload_n hx hb d_Model_character_31 rfl (lv_at hl 0 rfl) ?_
        refine lv_sipush (v := iI (224)) hx hb d_Model_character_32 (by decide) ?_
        refine ia_icmp_lt (a := f (a : Int).toNat) (b := 224) (tgt := 49) hx hb d_Model_character_35 (by decide) (by omega) (by omega) (fun c47 => ?_) (fun c47 => ?_)
        · refine lv_iload_n hx hb d_Model_character_49 rfl (lv_at hl 0 rfl) ?_
          refine lv_sipush (v := iI (240)) hx hb d_Model_character_50 (by decide) ?_
          refine ia_icmp_lt (a := f (a : Int).toNat) (b := 240) (tgt := 67) hx hb d_Model_character_53 (by decide) (by omega) (by omega) (fun c48 => ?_) (fun c48 => ?_)
          · refine lv_iconst (v := iI (0)) hx hb d_Model_character_67 rfl ?_
            refine lv_istore (lv' := [(4, .int (iI 0)), (3, .int (iI (f (a : Int).toNat))), (0, .ref (L kr)), (1, .int (iI a)), (2, .int (iI to))]) hx hb d_Model_character_68 hl (by decide) rfl (fun ls hl => ?_)
            refine lv_iload hx hb d_Model_character_70 (lv_at hl 0 rfl) ?_
            refine ia_if_eq (a := 0) (tgt := 83) hx hb d_Model_character_72 (by decide) (by omega) (fun c49 => ?_) (fun c49 => ?_)
            · refine lv_iconst (v := iI (0)) hx hb d_Model_character_83 rfl ?_
              exact mw_iret hx hb hr hM hS hlocks d_Model_character_84 (mwR_i (by first | (exfalso; omega) | (unfold mChar; rw [if_neg (by omega), if_pos (Or.inl (by unfold mLen; (first | (exfalso; omega) | (repeat (first | rw [if_pos (by first | assumption | omega)] | rw [if_neg (by first | assumption | exact zne (by assumption) | omega)])))))])))
            · exact absurd (by decide) c49
          · refine lv_iload_n hx hb d_Model_character_56 rfl (lv_at hl 0 rfl) ?_
            refine lv_sipush (v := iI (248)) hx hb d_Model_character_57 (by decide) ?_
            refine ia_icmp_ge (a := f (a : Int).toNat) (b := 248) (tgt := 67) hx hb d_Model_character_60 (by decide) (by omega) (by omega) (fun c50 => ?_) (fun c50 => ?_)
            · refine lv_iconst (v := iI (0)) hx hb d_Model_character_67 rfl ?_
              refine lv_istore (lv' := [(4, .int (iI 0)), (3, .int (iI (f (a : Int).toNat))), (0, .ref (L kr)), (1, .int (iI a)), (2, .int (iI to))]) hx hb d_Model_character_68 hl (by decide) rfl (fun ls hl => ?_)
              refine lv_iload hx hb d_Model_character_70 (lv_at hl 0 rfl) ?_
              refine ia_if_eq (a := 0) (tgt := 83) hx hb d_Model_character_72 (by decide) (by omega) (fun c51 => ?_) (fun c51 => ?_)
              · refine lv_iconst (v := iI (0)) hx hb d_Model_character_83 rfl ?_
                exact mw_iret hx hb hr hM hS hlocks d_Model_character_84 (mwR_i (by first | (exfalso; omega) | (unfold mChar; rw [if_neg (by omega), if_pos (Or.inl (by unfold mLen; (first | (exfalso; omega) | (repeat (first | rw [if_pos (by first | assumption | omega)] | rw [if_neg (by first | assumption | exact zne (by assumption) | omega)])))))])))
              · exact absurd (by decide) c51
            · refine lv_iconst (v := iI (4)) hx hb d_Model_character_63 rfl ?_
              refine lv_goto (tgt := 68) hx hb d_Model_character_64 (by decide) ?_
              refine lv_istore (lv' := [(4, .int (iI 4)), (3, .int (iI (f (a : Int).toNat))), (0, .ref (L kr)), (1, .int (iI a)), (2, .int (iI to))]) hx hb d_Model_character_68 hl (by decide) rfl (fun ls hl => ?_)
              refine lv_iload hx hb d_Model_character_70 (lv_at hl 0 rfl) ?_
              refine ia_if_eq (a := 4) (tgt := 83) hx hb d_Model_character_72 (by decide) (by omega) (fun c52 => ?_) (fun c52 => ?_)
              · exact absurd c52 (by decide)
              · refine lv_iload_n hx hb d_Model_character_75 rfl (lv_at hl 3 rfl) ?_
                refine lv_iload hx hb d_Model_character_76 (lv_at hl 0 rfl) ?_
                refine ia_add hx hb d_Model_character_78 ?_
                refine lv_iload_n hx hb d_Model_character_79 rfl (lv_at hl 4 rfl) ?_
                refine ia_icmp_le (a := a + 4) (b := to) (tgt := 85) hx hb d_Model_character_80 (by decide) (by omega) (by omega) (fun c53 => ?_) (fun c53 => ?_)
                · refine lv_iload hx hb d_Model_character_85 (lv_at hl 0 rfl) ?_
                  refine lv_iconst (v := iI (2)) hx hb d_Model_character_87 rfl ?_
                  refine ia_icmp_ne (a := 4) (b := 2) (tgt := 99) hx hb d_Model_character_88 (by decide) (by omega) (by omega) (fun c54 => ?_) (fun c54 => ?_)
                  · refine lv_iload hx hb d_Model_character_99 (lv_at hl 0 rfl) ?_
                    refine lv_iconst (v := iI (3)) hx hb d_Model_character_101 rfl ?_
                    refine ia_icmp_ne (a := 4) (b := 3) (tgt := 113) hx hb d_Model_character_102 (by decide) (by omega) (by omega) (fun c55 => ?_) (fun c55 => ?_)
                    · refine lv_iload_n hx hb d_Model_character_113 rfl (lv_at hl 1 rfl) ?_
                      refine lv_sipush (v := iI (240)) hx hb d_Model_character_114 (by decide) ?_
                      refine ia_sub hx hb d_Model_character_117 ?_
                      refine lv_istore (lv' := [(5, .int (iI ((f (a : Int).toNat) - 240))), (4, .int (iI 4)), (3, .int (iI (f (a : Int).toNat))), (0, .ref (L kr)), (1, .int (iI a)), (2, .int (iI to))]) hx hb d_Model_character_118 hl (by decide) rfl (fun ls hl => ?_)
                      refine lv_iconst (v := iI (1)) hx hb d_Model_character_120 rfl ?_
                      refine lv_istore (lv' := [(6, .int (iI 1)), (5, .int (iI ((f (a : Int).toNat) - 240))), (4, .int (iI 4)), (3, .int (iI (f (a : Int).toNat))), (0, .ref (L kr)), (1, .int (iI a)), (2, .int (iI to))]) hx hb d_Model_character_121 hl (by decide) rfl (fun ls hl => ?_)
                      exact loop123 _ 1 ((f (a : Int).toNat) - 240) 4 (Nat.lt_succ_self _) (by omega) (by omega) (by first | (exfalso; omega) | (unfold mChar; rw [if_neg (by omega), show mLen (f (a : Int).toNat) = 4 by unfold mLen; (first | (exfalso; omega) | (repeat (first | rw [if_pos (by first | assumption | omega)] | rw [if_neg (by first | assumption | exact zne (by assumption) | omega)])))]; rw [if_neg (by omega)]; rfl)) _ _ ls hM hS (lv_sub hl [0, 1, 2, 4, 5, 6] rfl)
                    · exact absurd (by decide) c55
                  · exact absurd (by decide) c54
                · refine lv_iconst (v := iI (0)) hx hb d_Model_character_83 rfl ?_
                  exact mw_iret hx hb hr hM hS hlocks d_Model_character_84 (mwR_i (by first | (exfalso; omega) | (unfold mChar; rw [if_neg (by omega), if_pos (Or.inr (by rw [show mLen (f (a : Int).toNat) = 4 by unfold mLen; (first | (exfalso; omega) | (repeat (first | rw [if_pos (by first | assumption | omega)] | rw [if_neg (by first | assumption | exact zne (by assumption) | omega)])))]; omega))])))
        · refine lv_iload_n hx hb d_Model_character_38 rfl (lv_at hl 0 rfl) ?_
          refine lv_sipush (v := iI (240)) hx hb d_Model_character_39 (by decide) ?_
          refine ia_icmp_ge (a := f (a : Int).toNat) (b := 240) (tgt := 49) hx hb d_Model_character_42 (by decide) (by omega) (by omega) (fun c56 => ?_) (fun c56 => ?_)
          · refine lv_iload_n hx hb d_Model_character_49 rfl (lv_at hl 0 rfl) ?_
            refine lv_sipush (v := iI (240)) hx hb d_Model_character_50 (by decide) ?_
            refine ia_icmp_lt (a := f (a : Int).toNat) (b := 240) (tgt := 67) hx hb d_Model_character_53 (by decide) (by omega) (by omega) (fun c57 => ?_) (fun c57 => ?_)
            · refine lv_iconst (v := iI (0)) hx hb d_Model_character_67 rfl ?_
              refine lv_istore (lv' := [(4, .int (iI 0)), (3, .int (iI (f (a : Int).toNat))), (0, .ref (L kr)), (1, .int (iI a)), (2, .int (iI to))]) hx hb d_Model_character_68 hl (by decide) rfl (fun ls hl => ?_)
              refine lv_iload hx hb d_Model_character_70 (lv_at hl 0 rfl) ?_
              refine ia_if_eq (a := 0) (tgt := 83) hx hb d_Model_character_72 (by decide) (by omega) (fun c58 => ?_) (fun c58 => ?_)
              · refine lv_iconst (v := iI (0)) hx hb d_Model_character_83 rfl ?_
                exact mw_iret hx hb hr hM hS hlocks d_Model_character_84 (mwR_i (by first | (exfalso; omega) | (unfold mChar; rw [if_neg (by omega), if_pos (Or.inl (by unfold mLen; (first | (exfalso; omega) | (repeat (first | rw [if_pos (by first | assumption | omega)] | rw [if_neg (by first | assumption | exact zne (by assumption) | omega)])))))])))
              · exact absurd (by decide) c58
            · refine lv_iload_n hx hb d_Model_character_56 rfl (lv_at hl 0 rfl) ?_
              refine lv_sipush (v := iI (248)) hx hb d_Model_character_57 (by decide) ?_
              refine ia_icmp_ge (a := f (a : Int).toNat) (b := 248) (tgt := 67) hx hb d_Model_character_60 (by decide) (by omega) (by omega) (fun c59 => ?_) (fun c59 => ?_)
              · refine lv_iconst (v := iI (0)) hx hb d_Model_character_67 rfl ?_
                refine lv_istore (lv' := [(4, .int (iI 0)), (3, .int (iI (f (a : Int).toNat))), (0, .ref (L kr)), (1, .int (iI a)), (2, .int (iI to))]) hx hb d_Model_character_68 hl (by decide) rfl (fun ls hl => ?_)
                refine lv_iload hx hb d_Model_character_70 (lv_at hl 0 rfl) ?_
                refine ia_if_eq (a := 0) (tgt := 83) hx hb d_Model_character_72 (by decide) (by omega) (fun c60 => ?_) (fun c60 => ?_)
                · refine lv_iconst (v := iI (0)) hx hb d_Model_character_83 rfl ?_
                  exact mw_iret hx hb hr hM hS hlocks d_Model_character_84 (mwR_i (by first | (exfalso; omega) | (unfold mChar; rw [if_neg (by omega), if_pos (Or.inl (by unfold mLen; (first | (exfalso; omega) | (repeat (first | rw [if_pos (by first | assumption | omega)] | rw [if_neg (by first | assumption | exact zne (by assumption) | omega)])))))])))
                · exact absurd (by decide) c60
              · refine lv_iconst (v := iI (4)) hx hb d_Model_character_63 rfl ?_
                refine lv_goto (tgt := 68) hx hb d_Model_character_64 (by decide) ?_
                refine lv_istore (lv' := [(4, .int (iI 4)), (3, .int (iI (f (a : Int).toNat))), (0, .ref (L kr)), (1, .int (iI a)), (2, .int (iI to))]) hx hb d_Model_character_68 hl (by decide) rfl (fun ls hl => ?_)
                refine lv_iload hx hb d_Model_character_70 (lv_at hl 0 rfl) ?_
                refine ia_if_eq (a := 4) (tgt := 83) hx hb d_Model_character_72 (by decide) (by omega) (fun c61 => ?_) (fun c61 => ?_)
                · exact absurd c61 (by decide)
                · refine lv_iload_n hx hb d_Model_character_75 rfl (lv_at hl 3 rfl) ?_
                  refine lv_iload hx hb d_Model_character_76 (lv_at hl 0 rfl) ?_
                  refine ia_add hx hb d_Model_character_78 ?_
                  refine lv_iload_n hx hb d_Model_character_79 rfl (lv_at hl 4 rfl) ?_
                  refine ia_icmp_le (a := a + 4) (b := to) (tgt := 85) hx hb d_Model_character_80 (by decide) (by omega) (by omega) (fun c62 => ?_) (fun c62 => ?_)
                  · refine lv_iload hx hb d_Model_character_85 (lv_at hl 0 rfl) ?_
                    refine lv_iconst (v := iI (2)) hx hb d_Model_character_87 rfl ?_
                    refine ia_icmp_ne (a := 4) (b := 2) (tgt := 99) hx hb d_Model_character_88 (by decide) (by omega) (by omega) (fun c63 => ?_) (fun c63 => ?_)
                    · refine lv_iload hx hb d_Model_character_99 (lv_at hl 0 rfl) ?_
                      refine lv_iconst (v := iI (3)) hx hb d_Model_character_101 rfl ?_
                      refine ia_icmp_ne (a := 4) (b := 3) (tgt := 113) hx hb d_Model_character_102 (by decide) (by omega) (by omega) (fun c64 => ?_) (fun c64 => ?_)
                      · refine lv_iload_n hx hb d_Model_character_113 rfl (lv_at hl 1 rfl) ?_
                        refine lv_sipush (v := iI (240)) hx hb d_Model_character_114 (by decide) ?_
                        refine ia_sub hx hb d_Model_character_117 ?_
                        refine lv_istore (lv' := [(5, .int (iI ((f (a : Int).toNat) - 240))), (4, .int (iI 4)), (3, .int (iI (f (a : Int).toNat))), (0, .ref (L kr)), (1, .int (iI a)), (2, .int (iI to))]) hx hb d_Model_character_118 hl (by decide) rfl (fun ls hl => ?_)
                        refine lv_iconst (v := iI (1)) hx hb d_Model_character_120 rfl ?_
                        refine lv_istore (lv' := [(6, .int (iI 1)), (5, .int (iI ((f (a : Int).toNat) - 240))), (4, .int (iI 4)), (3, .int (iI (f (a : Int).toNat))), (0, .ref (L kr)), (1, .int (iI a)), (2, .int (iI to))]) hx hb d_Model_character_121 hl (by decide) rfl (fun ls hl => ?_)
                        exact loop123 _ 1 ((f (a : Int).toNat) - 240) 4 (Nat.lt_succ_self _) (by omega) (by omega) (by first | (exfalso; omega) | (unfold mChar; rw [if_neg (by omega), show mLen (f (a : Int).toNat) = 4 by unfold mLen; (first | (exfalso; omega) | (repeat (first | rw [if_pos (by first | assumption | omega)] | rw [if_neg (by first | assumption | exact zne (by assumption) | omega)])))]; rw [if_neg (by omega)]; rfl)) _ _ ls hM hS (lv_sub hl [0, 1, 2, 4, 5, 6] rfl)
                      · exact absurd (by decide) c64
                    · exact absurd (by decide) c63
                  · refine lv_iconst (v := iI (0)) hx hb d_Model_character_83 rfl ?_
                    exact mw_iret hx hb hr hM hS hlocks d_Model_character_84 (mwR_i (by first | (exfalso; omega) | (unfold mChar; rw [if_neg (by omega), if_pos (Or.inr (by rw [show mLen (f (a : Int).toNat) = 4 by unfold mLen; (first | (exfalso; omega) | (repeat (first | rw [if_pos (by first | assumption | omega)] | rw [if_neg (by first | assumption | exact zne (by assumption) | omega)])))]; omega))])))
          · refine lv_iconst (v := iI (3)) hx hb d_Model_character_45 rfl ?_
            refine lv_goto (tgt := 68) hx hb d_Model_character_46 (by decide) ?_
            refine lv_istore (lv' := [(4, .int (iI 3)), (3, .int (iI (f (a : Int).toNat))), (0, .ref (L kr)), (1, .int (iI a)), (2, .int (iI to))]) hx hb d_Model_character_68 hl (by decide) rfl (fun ls hl => ?_)
            refine lv_iload hx hb d_Model_character_70 (lv_at hl 0 rfl) ?_
            refine ia_if_eq (a := 3) (tgt := 83) hx hb d_Model_character_72 (by decide) (by omega) (fun c65 => ?_) (fun c65 => ?_)
            · exact absurd c65 (by decide)
            · refine lv_iload_n hx hb d_Model_character_75 rfl (lv_at hl 3 rfl) ?_
              refine lv_iload hx hb d_Model_character_76 (lv_at hl 0 rfl) ?_
              refine ia_add hx hb d_Model_character_78 ?_
              refine lv_iload_n hx hb d_Model_character_79 rfl (lv_at hl 4 rfl) ?_
              refine ia_icmp_le (a := a + 3) (b := to) (tgt := 85) hx hb d_Model_character_80 (by decide) (by omega) (by omega) (fun c66 => ?_) (fun c66 => ?_)
              · refine lv_iload hx hb d_Model_character_85 (lv_at hl 0 rfl) ?_
                refine lv_iconst (v := iI (2)) hx hb d_Model_character_87 rfl ?_
                refine ia_icmp_ne (a := 3) (b := 2) (tgt := 99) hx hb d_Model_character_88 (by decide) (by omega) (by omega) (fun c67 => ?_) (fun c67 => ?_)
                · refine lv_iload hx hb d_Model_character_99 (lv_at hl 0 rfl) ?_
                  refine lv_iconst (v := iI (3)) hx hb d_Model_character_101 rfl ?_
                  refine ia_icmp_ne (a := 3) (b := 3) (tgt := 113) hx hb d_Model_character_102 (by decide) (by omega) (by omega) (fun c68 => ?_) (fun c68 => ?_)
                  · exact absurd c68 (by decide)
                  · refine lv_iload_n hx hb d_Model_character_105 rfl (lv_at hl 1 rfl) ?_
                    refine lv_sipush (v := iI (224)) hx hb d_Model_character_106 (by decide) ?_
                    refine ia_sub hx hb d_Model_character_109 ?_
                    refine lv_goto (tgt := 118) hx hb d_Model_character_110 (by decide) ?_
                    refine lv_istore (lv' := [(5, .int (iI ((f (a : Int).toNat) - 224))), (4, .int (iI 3)), (3, .int (iI (f (a : Int).toNat))), (0, .ref (L kr)), (1, .int (iI a)), (2, .int (iI to))]) hx hb d_Model_character_118 hl (by decide) rfl (fun ls hl => ?_)
                    refine lv_iconst (v := iI (1)) hx hb d_Model_character_120 rfl ?_
                    refine lv_istore (lv' := [(6, .int (iI 1)), (5, .int (iI ((f (a : Int).toNat) - 224))), (4, .int (iI 3)), (3, .int (iI (f (a : Int).toNat))), (0, .ref (L kr)), (1, .int (iI a)), (2, .int (iI to))]) hx hb d_Model_character_121 hl (by decide) rfl (fun ls hl => ?_)
                    exact loop123 _ 1 ((f (a : Int).toNat) - 224) 3 (Nat.lt_succ_self _) (by omega) (by omega) (by first | (exfalso; omega) | (unfold mChar; rw [if_neg (by omega), show mLen (f (a : Int).toNat) = 3 by unfold mLen; (first | (exfalso; omega) | (repeat (first | rw [if_pos (by first | assumption | omega)] | rw [if_neg (by first | assumption | exact zne (by assumption) | omega)])))]; rw [if_neg (by omega)]; rfl)) _ _ ls hM hS (lv_sub hl [0, 1, 2, 4, 5, 6] rfl)
                · exact absurd (by decide) c67
              · refine lv_iconst (v := iI (0)) hx hb d_Model_character_83 rfl ?_
                exact mw_iret hx hb hr hM hS hlocks d_Model_character_84 (mwR_i (by first | (exfalso; omega) | (unfold mChar; rw [if_neg (by omega), if_pos (Or.inr (by rw [show mLen (f (a : Int).toNat) = 3 by unfold mLen; (first | (exfalso; omega) | (repeat (first | rw [if_pos (by first | assumption | omega)] | rw [if_neg (by first | assumption | exact zne (by assumption) | omega)])))]; omega))])))
      · refine lv_iconst (v := iI (2)) hx hb d_Model_character_27 rfl ?_
        refine lv_goto (tgt := 68) hx hb d_Model_character_28 (by decide) ?_
        refine lv_istore (lv' := [(4, .int (iI 2)), (3, .int (iI (f (a : Int).toNat))), (0, .ref (L kr)), (1, .int (iI a)), (2, .int (iI to))]) hx hb d_Model_character_68 hl (by decide) rfl (fun ls hl => ?_)
        refine lv_iload hx hb d_Model_character_70 (lv_at hl 0 rfl) ?_
        refine ia_if_eq (a := 2) (tgt := 83) hx hb d_Model_character_72 (by decide) (by omega) (fun c69 => ?_) (fun c69 => ?_)
        · exact absurd c69 (by decide)
        · refine lv_iload_n hx hb d_Model_character_75 rfl (lv_at hl 3 rfl) ?_
          refine lv_iload hx hb d_Model_character_76 (lv_at hl 0 rfl) ?_
          refine ia_add hx hb d_Model_character_78 ?_
          refine lv_iload_n hx hb d_Model_character_79 rfl (lv_at hl 4 rfl) ?_
          refine ia_icmp_le (a := a + 2) (b := to) (tgt := 85) hx hb d_Model_character_80 (by decide) (by omega) (by omega) (fun c70 => ?_) (fun c70 => ?_)
          · refine lv_iload hx hb d_Model_character_85 (lv_at hl 0 rfl) ?_
            refine lv_iconst (v := iI (2)) hx hb d_Model_character_87 rfl ?_
            refine ia_icmp_ne (a := 2) (b := 2) (tgt := 99) hx hb d_Model_character_88 (by decide) (by omega) (by omega) (fun c71 => ?_) (fun c71 => ?_)
            · exact absurd c71 (by decide)
            · refine lv_iload_n hx hb d_Model_character_91 rfl (lv_at hl 1 rfl) ?_
              refine lv_sipush (v := iI (192)) hx hb d_Model_character_92 (by decide) ?_
              refine ia_sub hx hb d_Model_character_95 ?_
              refine lv_goto (tgt := 118) hx hb d_Model_character_96 (by decide) ?_
              refine lv_istore (lv' := [(5, .int (iI ((f (a : Int).toNat) - 192))), (4, .int (iI 2)), (3, .int (iI (f (a : Int).toNat))), (0, .ref (L kr)), (1, .int (iI a)), (2, .int (iI to))]) hx hb d_Model_character_118 hl (by decide) rfl (fun ls hl => ?_)
              refine lv_iconst (v := iI (1)) hx hb d_Model_character_120 rfl ?_
              refine lv_istore (lv' := [(6, .int (iI 1)), (5, .int (iI ((f (a : Int).toNat) - 192))), (4, .int (iI 2)), (3, .int (iI (f (a : Int).toNat))), (0, .ref (L kr)), (1, .int (iI a)), (2, .int (iI to))]) hx hb d_Model_character_121 hl (by decide) rfl (fun ls hl => ?_)
              exact loop123 _ 1 ((f (a : Int).toNat) - 192) 2 (Nat.lt_succ_self _) (by omega) (by omega) (by first | (exfalso; omega) | (unfold mChar; rw [if_neg (by omega), show mLen (f (a : Int).toNat) = 2 by unfold mLen; (first | (exfalso; omega) | (repeat (first | rw [if_pos (by first | assumption | omega)] | rw [if_neg (by first | assumption | exact zne (by assumption) | omega)])))]; rw [if_neg (by omega)]; rfl)) _ _ ls hM hS (lv_sub hl [0, 1, 2, 4, 5, 6] rfl)
          · refine lv_iconst (v := iI (0)) hx hb d_Model_character_83 rfl ?_
            exact mw_iret hx hb hr hM hS hlocks d_Model_character_84 (mwR_i (by first | (exfalso; omega) | (unfold mChar; rw [if_neg (by omega), if_pos (Or.inr (by rw [show mLen (f (a : Int).toNat) = 2 by unfold mLen; (first | (exfalso; omega) | (repeat (first | rw [if_pos (by first | assumption | omega)] | rw [if_neg (by first | assumption | exact zne (by assumption) | omega)])))]; omega))])))
  · refine lv_iconst (v := iI (1)) hx hb d_Model_character_11 rfl ?_
    exact mw_iret hx hb hr hM hS hlocks d_Model_character_12 (mwR_i (by unfold mChar; rw [if_pos (by omega)]))
set_option maxHeartbeats 4000000 in
set_option maxRecDepth 100000 in
theorem c_Model_badText (l : Launch) (D : va_G) (g : Nat → ClassId) (lo : Nat) (L : Nat → Nat) (κ : Nat → Option va_E) (f : Nat → Int) (kr n : Nat) (hA : κ kr = some (.inl (g 1, n, .inl (fun x => iI (f x))))) (hn : n < 100000) (hf : ∀ x, 0 ≤ f x ∧ f x ≤ 255) (a to : Int) (ha : 0 ≤ a ∧ a ≤ 10000) (hto : -10000 ≤ to ∧ to ≤ n) : Met l y_Model_badText w_Model_badText ({ frames := 1, cells := 0, slots := 0, locals := 26 }) (mwP D vwCl (tyL g) lo L κ [.ref (L kr), .int (iI a), .int (iI to)]) (mwQ D vwCl lo (mwR (some (.int (iI (mBad f a to)))) L κ)) 0 0 (fun q => lo ≤ q) := by
  refine Met.ofW (cc := b_Model_badText) (maxL := 5) (ret := (Option.some Jvm.ClassFile.FieldType.int)) (by decide) rfl ?_
  intro p e s m args below meth c s₁ B hml hpre
  obtain ⟨hargs, hM, hK⟩ := hpre
  have hx := B.exec
  have hb := B.bytes
  have hr := B.returns
  have hts : ∀ w ∈ wA, w.before args s = true := fun w h => atoms_spec (ws := w_Model_badText) B.pre w (List.mem_cons_of_mem _ h)
  have hown : s.vm.findClass R_Model = some m.cls := findClass_of_methodNamed B.named
  have hlocks := B.notSynchronized
  have hS : va_S (fun q => lo ≤ q) s.heap s.heap [] := va_S.rf
  have loop2 : ∀ (N : Nat) (k : Int) (q : Nat), q < N → (0 ≤ k ∧ k ≤ 200000 ∧ to - k ≤ q) → (mBad f a to = mBadN f to q k) → ∀ (H : Heap) (locs : List Loc) (ls : Array Slot), mw D vwCl lo L κ H → va_S (fun q => lo ≤ q) s.heap H locs → lv_has ls 5 [(3, .int (iI k)), (0, .ref (L kr)), (1, .int (iI a)), (2, .int (iI to))] → W p l e (headSpec w_Model_badText ({ frames := 1, cells := 0, slots := 0, locals := 26 })).room s m args below meth c H locs 0 0 (MQ below (mwQ D vwCl lo (mwR (some (.int (iI (mBad f a to)))) L κ)) args s 0 0 (fun q => lo ≤ q)) (F0 m 2 ls []) := by
    intro N
    induction N with
    | zero => intro k q hms; exact absurd hms (Nat.not_lt_zero _)
    | succ N ih =>
      intro k q hms hk hres H locs ls hM hS hl
      refine lv_iload_n hx hb d_Model_badText_2 rfl (lv_at hl 0 rfl) ?_
      refine lv_iload_n hx hb d_Model_badText_3 rfl (lv_at hl 3 rfl) ?_
      refine ia_icmp_ge (a := k) (b := to) (tgt := 30) hx hb d_Model_badText_4 (by decide) (by omega) (by omega) (fun c1 => ?_) (fun c1 => ?_)
      · refine lv_iconst (v := iI (-1)) hx hb d_Model_badText_30 rfl ?_
        exact mw_iret hx hb hr hM hS hlocks d_Model_badText_31 (mwR_i (by rw [hres, mBadN_e (by omega)]))
      · refine lv_aload_n hx hb d_Model_badText_7 rfl (lv_at hl 1 rfl) ?_
        refine lv_iload_n hx hb d_Model_badText_8 rfl (lv_at hl 0 rfl) ?_
        refine lv_iload_n hx hb d_Model_badText_9 rfl (lv_at hl 3 rfl) ?_
        refine mw_rdS (As := [.ref (L kr), .int (iI k), .int (iI to)]) (rest := []) ⟨hx, hb, hml, hown, hts⟩ hK hM hS (c_Model_character l D g lo L κ f kr n hA hn hf k to (by omega)) (cwS 3 hts (gS m_658 m_659 m_58 m_660) rfl rfl rfl (by decide +kernel) ⟨Nat.le_of_ble_eq_true rfl, Nat.le_of_ble_eq_true rfl⟩) rfl hl.1 rfl (Nat.le_of_ble_eq_true rfl) d_Model_badText_10 ⟨Nat.le_of_ble_eq_true rfl, Nat.le_of_ble_eq_true rfl⟩ (fun H locs hM hS => ?_)
        have r2 := mChar_r f k to
        refine lv_istore (lv' := [(4, .int (iI (mChar f k to))), (3, .int (iI k)), (0, .ref (L kr)), (1, .int (iI a)), (2, .int (iI to))]) hx hb d_Model_badText_13 hl (by decide) rfl (fun ls hl => ?_)
        refine lv_iload hx hb d_Model_badText_15 (lv_at hl 0 rfl) ?_
        refine ia_if_ne (a := mChar f k to) (tgt := 22) hx hb d_Model_badText_17 (by decide) (by omega) (fun c3 => ?_) (fun c3 => ?_)
        · refine lv_iload_n hx hb d_Model_badText_22 rfl (lv_at hl 1 rfl) ?_
          refine lv_iload hx hb d_Model_badText_23 (lv_at hl 0 rfl) ?_
          refine ia_add hx hb d_Model_badText_25 ?_
          refine lv_istore_n (lv' := [(3, .int (iI (k + (mChar f k to)))), (4, .int (iI (mChar f k to))), (0, .ref (L kr)), (1, .int (iI a)), (2, .int (iI to))]) hx hb d_Model_badText_26 rfl hl (by decide) rfl (fun ls hl => ?_)
          refine lv_goto (tgt := 2) hx hb d_Model_badText_27 (by decide) ?_
          exact ih (k + (mChar f k to)) (q - 1) (by omega) (by omega) (by rw [hres, mBadN_s (by omega) (by omega) (by omega)]) _ _ ls hM hS (lv_sub hl [0, 2, 3, 4] rfl)
        · refine lv_iload_n hx hb d_Model_badText_20 rfl (lv_at hl 1 rfl) ?_
          exact mw_iret hx hb hr hM hS hlocks d_Model_badText_21 (mwR_i (by rw [hres, mBadN_b (by omega) (by omega) (by omega)]))
  obtain ⟨ls, hls, hl⟩ := mw_entry (m := m) [.ref (L kr), .int (iI a), .int (iI to)] (n := 5) (Nat.le_of_ble_eq_true rfl) hargs
  refine W.eq hls ?_
  have hl : lv_has ls 5 [(0, .ref (L kr)), (1, .int (iI a)), (2, .int (iI to))] := hl
  refine lv_iload_n hx hb d_Model_badText_0 rfl (lv_at hl 1 rfl) ?_
  refine lv_istore_n (lv' := [(3, .int (iI a)), (0, .ref (L kr)), (1, .int (iI a)), (2, .int (iI to))]) hx hb d_Model_badText_1 rfl hl (by decide) rfl (fun ls hl => ?_)
  exact loop2 _ a (to - a).toNat (Nat.lt_succ_self _) (by omega) rfl _ _ ls hM hS (lv_sub hl [0, 1, 2, 3] rfl)
set_option maxHeartbeats 4000000 in
set_option maxRecDepth 100000 in
theorem c_Model_opens (l : Launch) (D : va_G) (g : Nat → ClassId) (lo : Nat) (L : Nat → Nat) (κ : Nat → Option va_E) (S : MS) (hV : mds g L κ S) (a left op nd : Int) (r : Bool) (ha : 0 ≤ a ∧ a ≤ 4400 ∧ (left < 4 ∨ a + 4 ≤ 4400)) (hleft : -10000 ≤ left ∧ left ≤ 10000) (hop : 0 ≤ op ∧ op < 20) (hnd : 0 ≤ nd ∧ nd ≤ 1000) : Met l y_Model_opens w_Model_opens ({ frames := 1, cells := 0, slots := 0, locals := 25 }) (mwP D vwCl (tyL g) lo L κ [.ref (L 40), .int (iI a), .int (iI left), .int (iI op), .int (iI nd), .int (iI (bI r))]) (mwQ D vwCl lo (mdQ g L κ (some (.int (iI (bI (mOpens a left op nd r S).1)))) (mOpens a left op nd r S).2)) 0 0 (fun q => lo ≤ q) := by
  refine Met.ofW (cc := b_Model_opens) (maxL := 8) (ret := (Option.some Jvm.ClassFile.FieldType.boolean)) (by decide) rfl ?_
  intro p e s m args below meth c s₁ B hml hpre
  obtain ⟨hargs, hM, hK⟩ := hpre
  have hx := B.exec
  have hb := B.bytes
  have hr := B.returns
  have hts : ∀ w ∈ wA, w.before args s = true := fun w h => atoms_spec (ws := w_Model_opens) B.pre w (List.mem_cons_of_mem _ h)
  have hown : s.vm.findClass R_Model = some m.cls := findClass_of_methodNamed B.named
  have hlocks := B.notSynchronized
  have hS : va_S (fun q => lo ≤ q) s.heap s.heap [] := va_S.rf
  obtain ⟨ls, hls, hl⟩ := mw_entry (m := m) [.ref (L 40), .int (iI a), .int (iI left), .int (iI op), .int (iI nd), .int (iI (bI r))] (n := 8) (Nat.le_of_ble_eq_true rfl) hargs
  refine W.eq hls ?_
  have hl : lv_has ls 8 [(0, .ref (L 40)), (1, .int (iI a)), (2, .int (iI left)), (3, .int (iI op)), (4, .int (iI nd)), (5, .int (iI (bI r)))] := hl
  refine lv_iload_n hx hb d_Model_opens_0 rfl (lv_at hl 2 rfl) ?_
  refine lv_iconst (v := iI (4)) hx hb d_Model_opens_1 rfl ?_
  refine ia_icmp_ge (a := left) (b := 4) (tgt := 13) hx hb d_Model_opens_2 (by decide) (by omega) (by omega) (fun c1 => ?_) (fun c1 => ?_)
  · refine lv_aload_n hx hb d_Model_opens_13 rfl (lv_at hl 0 rfl) ?_
    refine lv_iload_n hx hb d_Model_opens_14 rfl (lv_at hl 1 rfl) ?_
    refine lv_iconst (v := iI (4)) hx hb d_Model_opens_15 rfl ?_
    refine mw_rdV (i := 40) (As := [.int (iI a), .int (iI 4)]) (rest := []) ⟨hx, hb, hml, hown, hts⟩ hK hM hS rfl hV.1 rfl (c_Model_low l D g lo L κ S hV a 4 (by omega) (by omega)) (cwV 2 hts (gV m_642 m_644 m_21 m_58 m_645) rfl rfl rfl (by decide +kernel) ⟨Nat.le_of_ble_eq_true rfl, Nat.le_of_ble_eq_true rfl⟩) rfl hl.1 rfl (Nat.le_of_ble_eq_true rfl) d_Model_opens_16 ⟨Nat.le_of_ble_eq_true rfl, Nat.le_of_ble_eq_true rfl⟩ (fun H locs hM hS => ?_)
    have r2 := (show 0 ≤ mLow (S.a 3) a 4 ∧ mLow (S.a 3) a 4 < 4294967296 from mLow4_r (hV.2.2.1 3) a)
    refine lv_lstore (lv' := [(6, .long (lI (mLow (S.a 3) a 4))), (0, .ref (L 40)), (1, .int (iI a)), (2, .int (iI left)), (3, .int (iI op)), (4, .int (iI nd)), (5, .int (iI (bI r)))]) hx hb d_Model_opens_19 hl (by decide) rfl (fun ls hl => ?_)
    refine lv_lload hx hb d_Model_opens_21 (lv_at hl 0 rfl) ?_
    refine lv_ldc2 (v := 5) hx hb hown (hts _ m_646) d_Model_opens_23 ?_
    refine W.eq (g2 := F0 m 26 ls (.long (lI 5) :: .long (lI (mLow (S.a 3) a 4)) :: [])) (by rfl) ?_
    refine ia_lcmp (a := mLow (S.a 3) a 4) (b := 5) hx hb (by omega) (by omega) d_Model_opens_26 ?_
    have r3 := cmpI_s (mLow (S.a 3) a 4) 5
    refine ia_if_lt (a := cmpI (mLow (S.a 3) a 4) 5) (tgt := 42) hx hb d_Model_opens_27 (by decide) (by omega) (fun c4 => ?_) (fun c4 => ?_)
    · refine lv_aload_n hx hb d_Model_opens_42 rfl (lv_at hl 1 rfl) ?_
      refine lv_iconst (v := iI (2)) hx hb d_Model_opens_43 rfl ?_
      refine lv_iload_n hx hb d_Model_opens_44 rfl (lv_at hl 2 rfl) ?_
      refine mw_callV (i := 40) (As := [.int (iI 2), .int (iI a)]) (rest := []) ⟨hx, hb, hml, hown, hts⟩ hK hM hS rfl hV.1 rfl (c_Model_stop l D g lo L κ S hV 2 a (by omega) (by omega)) (cwV 2 hts (gV m_638 m_640 m_20 m_58 m_641) rfl rfl rfl (by decide +kernel) ⟨Nat.le_of_ble_eq_true rfl, Nat.le_of_ble_eq_true rfl⟩) rfl hl.1 rfl (Nat.le_of_ble_eq_true rfl) d_Model_opens_45 ⟨Nat.le_of_ble_eq_true rfl, Nat.le_of_ble_eq_true rfl⟩ (fun v5 L5 κ5 H locs hp5 hM hS => ?_)
      obtain ⟨rfl, rfl, hV5, hk5⟩ := hp5
      have r6 := mStop_nz (x := a) (S := S) (show (2 : Int) ≠ 0 by decide)
      have r7 := congrFun (congrFun (mStop_a (y := 2) (x := a) (S := S)) 3)
      refine lv_goto (tgt := 81) hx hb d_Model_opens_48 (by decide) ?_
      refine lv_aload_n hx hb d_Model_opens_81 rfl (lv_at hl 1 rfl) ?_
      refine mw_get (ci := 4) (i := 40) (v := .int (iI ((mStop 2 a S).f 5))) (C := R_Model) (T := T_Model) (N := 23) hx hb hts in_Model hown hK hM hV5.1 rfl rfl 15 (by decide) (hts _ m_560) rfl d_Model_opens_82 ?_
      have r8 : -1000000 ≤ (mStop 2 a S).f 5 ∧ (mStop 2 a S).f 5 ≤ 1000000 := hV5.2.2.2 5
      refine ia_if_eq (a := (mStop 2 a S).f 5) (tgt := 90) hx hb d_Model_opens_85 (by decide) (by omega) (fun c9 => ?_) (fun c9 => ?_)
      · refine lv_aload_n hx hb d_Model_opens_90 rfl (lv_at hl 1 rfl) ?_
        refine mw_get (ci := 4) (i := 40) (v := .ref (L 50)) (C := R_Model) (T := T_Model) (N := 23) hx hb hts in_Model hown hK hM hV5.1 rfl rfl 17 (by decide) (hts _ m_562) rfl d_Model_opens_91 ?_
        refine lv_iload_n hx hb d_Model_opens_94 rfl (lv_at hl 4 rfl) ?_
        refine lv_iload_n hx hb d_Model_opens_95 rfl (lv_at hl 2 rfl) ?_
        refine lv_lload hx hb d_Model_opens_96 (lv_at hl 0 rfl) ?_
        refine ia_l2i hx hb d_Model_opens_98 ?_
        refine ia_add hx hb d_Model_opens_99 ?_
        refine mw_iast (n := 20) (f := (mStop 2 a S).a 9) (a := op) (v := a + (mLow (S.a 3) a 4)) (i := 50) hx hb hK hM hS 1 (hV5.2.1 9 (by decide)) rfl rfl (by omega) (by decide) d_Model_opens_100 (fun κ10 H locs e10 hk10 hM hS => ?_)
        have hV10 : mds g L κ10 ((mStop 2 a S).st 9 ((op : Int).toNat) (a + (mLow (S.a 3) a 4))) := mds_st (k := 9) hV5 (by decide) e10 hk10 (show (-1000000 : Int) ≤ a + (mLow (S.a 3) a 4) ∧ a + (mLow (S.a 3) a 4) ≤ 1000000 by first | omega | (split <;> omega))
        refine lv_aload_n hx hb d_Model_opens_101 rfl (lv_at hl 1 rfl) ?_
        refine mw_get (ci := 4) (i := 40) (v := .ref (L 51)) (C := R_Model) (T := T_Model) (N := 23) hx hb hts in_Model hown hK hM hV10.1 rfl rfl 18 (by decide) (hts _ m_563) rfl d_Model_opens_102 ?_
        refine lv_iload_n hx hb d_Model_opens_105 rfl (lv_at hl 4 rfl) ?_
        refine lv_iload hx hb d_Model_opens_106 (lv_at hl 5 rfl) ?_
        refine mw_iast (n := 20) (f := (mStop 2 a S).a 10) (a := op) (v := nd) (i := 51) hx hb hK hM hS 1 (hV10.2.1 10 (by decide)) rfl rfl (by omega) (by decide) d_Model_opens_108 (fun κ11 H locs e11 hk11 hM hS => ?_)
        have hV11 : mds g L κ11 (((mStop 2 a S).st 9 ((op : Int).toNat) (a + (mLow (S.a 3) a 4))).st 10 ((op : Int).toNat) nd) := mds_st (k := 10) hV10 (by decide) e11 hk11 (show (-1000000 : Int) ≤ nd ∧ nd ≤ 1000000 by first | omega | (split <;> omega))
        refine lv_aload_n hx hb d_Model_opens_109 rfl (lv_at hl 1 rfl) ?_
        refine mw_get (ci := 4) (i := 40) (v := .ref (L 52)) (C := R_Model) (T := T_Model) (N := 23) hx hb hts in_Model hown hK hM hV11.1 rfl rfl 19 (by decide) (hts _ m_564) rfl d_Model_opens_110 ?_
        refine lv_iload_n hx hb d_Model_opens_113 rfl (lv_at hl 4 rfl) ?_
        refine lv_iconst (v := iI (0)) hx hb d_Model_opens_114 rfl ?_
        refine mw_iast (n := 20) (f := (mStop 2 a S).a 11) (a := op) (v := 0) (i := 52) hx hb hK hM hS 1 (hV11.2.1 11 (by decide)) rfl rfl (by omega) (by decide) d_Model_opens_115 (fun κ12 H locs e12 hk12 hM hS => ?_)
        have hV12 : mds g L κ12 ((((mStop 2 a S).st 9 ((op : Int).toNat) (a + (mLow (S.a 3) a 4))).st 10 ((op : Int).toNat) nd).st 11 ((op : Int).toNat) 0) := mds_st (k := 11) hV11 (by decide) e12 hk12 (show (-1000000 : Int) ≤ 0 ∧ 0 ≤ 1000000 by first | omega | (split <;> omega))
        refine lv_aload_n hx hb d_Model_opens_116 rfl (lv_at hl 1 rfl) ?_
        refine mw_get (ci := 4) (i := 40) (v := .ref (L 53)) (C := R_Model) (T := T_Model) (N := 23) hx hb hts in_Model hown hK hM hV12.1 rfl rfl 20 (by decide) (hts _ m_565) rfl d_Model_opens_117 ?_
        refine lv_iload_n hx hb d_Model_opens_120 rfl (lv_at hl 4 rfl) ?_
        refine lv_iload hx hb d_Model_opens_121 (lv_at hl 6 rfl) ?_
        refine ia_ifz_eq (x := r) (tgt := 130) hx hb d_Model_opens_123 (by decide) (fun c13 => ?_) (fun c13 => ?_)
        · refine lv_iconst (v := iI (0)) hx hb d_Model_opens_130 rfl ?_
          refine mw_iast (n := 20) (f := (mStop 2 a S).a 12) (a := op) (v := 0) (i := 53) hx hb hK hM hS 1 (hV12.2.1 12 (by decide)) rfl rfl (by omega) (by decide) d_Model_opens_131 (fun κ14 H locs e14 hk14 hM hS => ?_)
          have hV14 : mds g L κ14 (((((mStop 2 a S).st 9 ((op : Int).toNat) (a + (mLow (S.a 3) a 4))).st 10 ((op : Int).toNat) nd).st 11 ((op : Int).toNat) 0).st 12 ((op : Int).toNat) 0) := mds_st (k := 12) hV12 (by decide) e14 hk14 (show (-1000000 : Int) ≤ 0 ∧ 0 ≤ 1000000 by first | omega | (split <;> omega))
          refine lv_aload_n hx hb d_Model_opens_132 rfl (lv_at hl 1 rfl) ?_
          refine lv_iload_n hx hb d_Model_opens_133 rfl (lv_at hl 4 rfl) ?_
          refine lv_iconst (v := iI (1)) hx hb d_Model_opens_134 rfl ?_
          refine ia_add hx hb d_Model_opens_135 ?_
          refine lv_aload_n hx hb d_Model_opens_136 rfl (lv_at hl 1 rfl) ?_
          refine mw_get (ci := 4) (i := 40) (v := .int (iI ((mStop 2 a S).f 4))) (C := R_Model) (T := T_Model) (N := 23) hx hb hts in_Model hown hK hM hV14.1 rfl rfl 14 (by decide) (hts _ m_559) rfl d_Model_opens_137 ?_
          have r15 : -1000000 ≤ (mStop 2 a S).f 4 ∧ (mStop 2 a S).f 4 ≤ 1000000 := hV14.2.2.2 4
          refine ia_icmp_le (a := op + 1) (b := (mStop 2 a S).f 4) (tgt := 149) hx hb d_Model_opens_140 (by decide) (by omega) (by omega) (fun c16 => ?_) (fun c16 => ?_)
          · refine lv_aload_n hx hb d_Model_opens_149 rfl (lv_at hl 1 rfl) ?_
            refine mw_get (ci := 4) (i := 40) (v := .int (iI ((mStop 2 a S).f 4))) (C := R_Model) (T := T_Model) (N := 23) hx hb hts in_Model hown hK hM hV14.1 rfl rfl 14 (by decide) (hts _ m_559) rfl d_Model_opens_150 ?_
            have r17 : -1000000 ≤ (mStop 2 a S).f 4 ∧ (mStop 2 a S).f 4 ≤ 1000000 := hV14.2.2.2 4
            refine mw_put (ci := 4) (i := 40) (v := .int (iI ((mStop 2 a S).f 4))) (C := R_Model) (T := T_Model) (N := 23) hx hb hts in_Model ty_Model ty_Model_ok nm_Model hown hK hM hS hV14.1 rfl rfl 14 (by decide) (hts _ m_559) rfl (ty_Model_ok 14 (by decide)) rfl rfl (Nat.le_of_ble_eq_true rfl) d_Model_opens_153 (fun κ18 H locs e18 hk18 hM hS => ?_)
            have e18 : κ18 40 = some (.inr (4, [.int (iI ((mStop 2 a S).f 8)), .ref (L 41), .int (iI ((mStop 2 a S).f 0)), .int (iI ((mStop 2 a S).f 1)), .ref (L 42), .ref (L 43), .ref (L 44), .int (iI ((mStop 2 a S).f 2)), .int (iI ((mStop 2 a S).f 3)), .ref (L 45), .ref (L 46), .ref (L 47), .ref (L 48), .ref (L 49), .int (iI ((mStop 2 a S).f 4)), .int (iI ((mStop 2 a S).f 5)), .int (iI ((mStop 2 a S).f 6)), .ref (L 50), .ref (L 51), .ref (L 52), .ref (L 53), .ref (L 54), .int (iI ((mStop 2 a S).f 7))])) := e18
            have hV18 : mds g L κ18 ((((((mStop 2 a S).st 9 ((op : Int).toNat) (a + (mLow (S.a 3) a 4))).st 10 ((op : Int).toNat) nd).st 11 ((op : Int).toNat) 0).st 12 ((op : Int).toNat) 0).pf 4 ((mStop 2 a S).f 4)) := mds_pf hV14 e18 hk18 (by first | omega | (split <;> omega))
            refine lv_iconst (v := iI (1)) hx hb d_Model_opens_156 rfl ?_
            exact mw_zret (v := true) hx hb hr hM hS hlocks d_Model_opens_157 (by rw [show mOpens a left op nd r S = (true, (((((mStop 2 a S).st 9 ((op : Int).toNat) (a + (mLow (S.a 3) a 4))).st 10 ((op : Int).toNat) nd).st 11 ((op : Int).toNat) 0).st 12 ((op : Int).toNat) 0).pf 4 ((mStop 2 a S).f 4)) by first | (exfalso; omega) | (unfold mOpens; rw [show mOpA a left op S = mStop 2 a S by unfold mOpA; (first | (exfalso; omega) | (repeat (first | rw [if_pos (by first | assumption | omega)] | rw [if_neg (by first | assumption | exact zne (by assumption) | omega)])))]; (first | (exfalso; omega) | (repeat (first | rw [if_pos (by first | assumption | omega)] | rw [if_neg (by first | assumption | exact zne (by assumption) | omega)]))); unfold mOpB; rw [show bI r = 0 by rw [show r = false by assumption]; rfl]; (first | (exfalso; omega) | (repeat (first | rw [if_pos (by first | assumption | omega)] | rw [if_neg (by first | assumption | exact zne (by assumption) | omega)]))))]; exact ⟨rfl, rfl, hV18, (fun r h => by rw [hk18 r (by omega), hk14 r (by omega), hk12 r (by omega), hk11 r (by omega), hk10 r (by omega), hk5 r (by omega)])⟩)
          · refine lv_iload_n hx hb d_Model_opens_143 rfl (lv_at hl 4 rfl) ?_
            refine lv_iconst (v := iI (1)) hx hb d_Model_opens_144 rfl ?_
            refine ia_add hx hb d_Model_opens_145 ?_
            refine lv_goto (tgt := 153) hx hb d_Model_opens_146 (by decide) ?_
            refine mw_put (ci := 4) (i := 40) (v := .int (iI (op + 1))) (C := R_Model) (T := T_Model) (N := 23) hx hb hts in_Model ty_Model ty_Model_ok nm_Model hown hK hM hS hV14.1 rfl rfl 14 (by decide) (hts _ m_559) rfl (ty_Model_ok 14 (by decide)) rfl rfl (Nat.le_of_ble_eq_true rfl) d_Model_opens_153 (fun κ19 H locs e19 hk19 hM hS => ?_)
            have e19 : κ19 40 = some (.inr (4, [.int (iI ((mStop 2 a S).f 8)), .ref (L 41), .int (iI ((mStop 2 a S).f 0)), .int (iI ((mStop 2 a S).f 1)), .ref (L 42), .ref (L 43), .ref (L 44), .int (iI ((mStop 2 a S).f 2)), .int (iI ((mStop 2 a S).f 3)), .ref (L 45), .ref (L 46), .ref (L 47), .ref (L 48), .ref (L 49), .int (iI (op + 1)), .int (iI ((mStop 2 a S).f 5)), .int (iI ((mStop 2 a S).f 6)), .ref (L 50), .ref (L 51), .ref (L 52), .ref (L 53), .ref (L 54), .int (iI ((mStop 2 a S).f 7))])) := e19
            have hV19 : mds g L κ19 ((((((mStop 2 a S).st 9 ((op : Int).toNat) (a + (mLow (S.a 3) a 4))).st 10 ((op : Int).toNat) nd).st 11 ((op : Int).toNat) 0).st 12 ((op : Int).toNat) 0).pf 4 (op + 1)) := mds_pf hV14 e19 hk19 (by first | omega | (split <;> omega))
            refine lv_iconst (v := iI (1)) hx hb d_Model_opens_156 rfl ?_
            exact mw_zret (v := true) hx hb hr hM hS hlocks d_Model_opens_157 (by rw [show mOpens a left op nd r S = (true, (((((mStop 2 a S).st 9 ((op : Int).toNat) (a + (mLow (S.a 3) a 4))).st 10 ((op : Int).toNat) nd).st 11 ((op : Int).toNat) 0).st 12 ((op : Int).toNat) 0).pf 4 (op + 1)) by first | (exfalso; omega) | (unfold mOpens; rw [show mOpA a left op S = mStop 2 a S by unfold mOpA; (first | (exfalso; omega) | (repeat (first | rw [if_pos (by first | assumption | omega)] | rw [if_neg (by first | assumption | exact zne (by assumption) | omega)])))]; (first | (exfalso; omega) | (repeat (first | rw [if_pos (by first | assumption | omega)] | rw [if_neg (by first | assumption | exact zne (by assumption) | omega)]))); unfold mOpB; rw [show bI r = 0 by rw [show r = false by assumption]; rfl]; (first | (exfalso; omega) | (repeat (first | rw [if_pos (by first | assumption | omega)] | rw [if_neg (by first | assumption | exact zne (by assumption) | omega)]))))]; exact ⟨rfl, rfl, hV19, (fun r h => by rw [hk19 r (by omega), hk14 r (by omega), hk12 r (by omega), hk11 r (by omega), hk10 r (by omega), hk5 r (by omega)])⟩)
        · refine lv_iconst (v := iI (1)) hx hb d_Model_opens_126 rfl ?_
          refine lv_goto (tgt := 131) hx hb d_Model_opens_127 (by decide) ?_
          refine mw_iast (n := 20) (f := (mStop 2 a S).a 12) (a := op) (v := 1) (i := 53) hx hb hK hM hS 1 (hV12.2.1 12 (by decide)) rfl rfl (by omega) (by decide) d_Model_opens_131 (fun κ20 H locs e20 hk20 hM hS => ?_)
          have hV20 : mds g L κ20 (((((mStop 2 a S).st 9 ((op : Int).toNat) (a + (mLow (S.a 3) a 4))).st 10 ((op : Int).toNat) nd).st 11 ((op : Int).toNat) 0).st 12 ((op : Int).toNat) 1) := mds_st (k := 12) hV12 (by decide) e20 hk20 (show (-1000000 : Int) ≤ 1 ∧ 1 ≤ 1000000 by first | omega | (split <;> omega))
          refine lv_aload_n hx hb d_Model_opens_132 rfl (lv_at hl 1 rfl) ?_
          refine lv_iload_n hx hb d_Model_opens_133 rfl (lv_at hl 4 rfl) ?_
          refine lv_iconst (v := iI (1)) hx hb d_Model_opens_134 rfl ?_
          refine ia_add hx hb d_Model_opens_135 ?_
          refine lv_aload_n hx hb d_Model_opens_136 rfl (lv_at hl 1 rfl) ?_
          refine mw_get (ci := 4) (i := 40) (v := .int (iI ((mStop 2 a S).f 4))) (C := R_Model) (T := T_Model) (N := 23) hx hb hts in_Model hown hK hM hV20.1 rfl rfl 14 (by decide) (hts _ m_559) rfl d_Model_opens_137 ?_
          have r21 : -1000000 ≤ (mStop 2 a S).f 4 ∧ (mStop 2 a S).f 4 ≤ 1000000 := hV20.2.2.2 4
          refine ia_icmp_le (a := op + 1) (b := (mStop 2 a S).f 4) (tgt := 149) hx hb d_Model_opens_140 (by decide) (by omega) (by omega) (fun c22 => ?_) (fun c22 => ?_)
          · refine lv_aload_n hx hb d_Model_opens_149 rfl (lv_at hl 1 rfl) ?_
            refine mw_get (ci := 4) (i := 40) (v := .int (iI ((mStop 2 a S).f 4))) (C := R_Model) (T := T_Model) (N := 23) hx hb hts in_Model hown hK hM hV20.1 rfl rfl 14 (by decide) (hts _ m_559) rfl d_Model_opens_150 ?_
            have r23 : -1000000 ≤ (mStop 2 a S).f 4 ∧ (mStop 2 a S).f 4 ≤ 1000000 := hV20.2.2.2 4
            refine mw_put (ci := 4) (i := 40) (v := .int (iI ((mStop 2 a S).f 4))) (C := R_Model) (T := T_Model) (N := 23) hx hb hts in_Model ty_Model ty_Model_ok nm_Model hown hK hM hS hV20.1 rfl rfl 14 (by decide) (hts _ m_559) rfl (ty_Model_ok 14 (by decide)) rfl rfl (Nat.le_of_ble_eq_true rfl) d_Model_opens_153 (fun κ24 H locs e24 hk24 hM hS => ?_)
            have e24 : κ24 40 = some (.inr (4, [.int (iI ((mStop 2 a S).f 8)), .ref (L 41), .int (iI ((mStop 2 a S).f 0)), .int (iI ((mStop 2 a S).f 1)), .ref (L 42), .ref (L 43), .ref (L 44), .int (iI ((mStop 2 a S).f 2)), .int (iI ((mStop 2 a S).f 3)), .ref (L 45), .ref (L 46), .ref (L 47), .ref (L 48), .ref (L 49), .int (iI ((mStop 2 a S).f 4)), .int (iI ((mStop 2 a S).f 5)), .int (iI ((mStop 2 a S).f 6)), .ref (L 50), .ref (L 51), .ref (L 52), .ref (L 53), .ref (L 54), .int (iI ((mStop 2 a S).f 7))])) := e24
            have hV24 : mds g L κ24 ((((((mStop 2 a S).st 9 ((op : Int).toNat) (a + (mLow (S.a 3) a 4))).st 10 ((op : Int).toNat) nd).st 11 ((op : Int).toNat) 0).st 12 ((op : Int).toNat) 1).pf 4 ((mStop 2 a S).f 4)) := mds_pf hV20 e24 hk24 (by first | omega | (split <;> omega))
            refine lv_iconst (v := iI (1)) hx hb d_Model_opens_156 rfl ?_
            exact mw_zret (v := true) hx hb hr hM hS hlocks d_Model_opens_157 (by rw [show mOpens a left op nd r S = (true, (((((mStop 2 a S).st 9 ((op : Int).toNat) (a + (mLow (S.a 3) a 4))).st 10 ((op : Int).toNat) nd).st 11 ((op : Int).toNat) 0).st 12 ((op : Int).toNat) 1).pf 4 ((mStop 2 a S).f 4)) by first | (exfalso; omega) | (unfold mOpens; rw [show mOpA a left op S = mStop 2 a S by unfold mOpA; (first | (exfalso; omega) | (repeat (first | rw [if_pos (by first | assumption | omega)] | rw [if_neg (by first | assumption | exact zne (by assumption) | omega)])))]; (first | (exfalso; omega) | (repeat (first | rw [if_pos (by first | assumption | omega)] | rw [if_neg (by first | assumption | exact zne (by assumption) | omega)]))); unfold mOpB; rw [show bI r = 1 by rw [show r = true by assumption]; rfl]; (first | (exfalso; omega) | (repeat (first | rw [if_pos (by first | assumption | omega)] | rw [if_neg (by first | assumption | exact zne (by assumption) | omega)]))))]; exact ⟨rfl, rfl, hV24, (fun r h => by rw [hk24 r (by omega), hk20 r (by omega), hk12 r (by omega), hk11 r (by omega), hk10 r (by omega), hk5 r (by omega)])⟩)
          · refine lv_iload_n hx hb d_Model_opens_143 rfl (lv_at hl 4 rfl) ?_
            refine lv_iconst (v := iI (1)) hx hb d_Model_opens_144 rfl ?_
            refine ia_add hx hb d_Model_opens_145 ?_
            refine lv_goto (tgt := 153) hx hb d_Model_opens_146 (by decide) ?_
            refine mw_put (ci := 4) (i := 40) (v := .int (iI (op + 1))) (C := R_Model) (T := T_Model) (N := 23) hx hb hts in_Model ty_Model ty_Model_ok nm_Model hown hK hM hS hV20.1 rfl rfl 14 (by decide) (hts _ m_559) rfl (ty_Model_ok 14 (by decide)) rfl rfl (Nat.le_of_ble_eq_true rfl) d_Model_opens_153 (fun κ25 H locs e25 hk25 hM hS => ?_)
            have e25 : κ25 40 = some (.inr (4, [.int (iI ((mStop 2 a S).f 8)), .ref (L 41), .int (iI ((mStop 2 a S).f 0)), .int (iI ((mStop 2 a S).f 1)), .ref (L 42), .ref (L 43), .ref (L 44), .int (iI ((mStop 2 a S).f 2)), .int (iI ((mStop 2 a S).f 3)), .ref (L 45), .ref (L 46), .ref (L 47), .ref (L 48), .ref (L 49), .int (iI (op + 1)), .int (iI ((mStop 2 a S).f 5)), .int (iI ((mStop 2 a S).f 6)), .ref (L 50), .ref (L 51), .ref (L 52), .ref (L 53), .ref (L 54), .int (iI ((mStop 2 a S).f 7))])) := e25
            have hV25 : mds g L κ25 ((((((mStop 2 a S).st 9 ((op : Int).toNat) (a + (mLow (S.a 3) a 4))).st 10 ((op : Int).toNat) nd).st 11 ((op : Int).toNat) 0).st 12 ((op : Int).toNat) 1).pf 4 (op + 1)) := mds_pf hV20 e25 hk25 (by first | omega | (split <;> omega))
            refine lv_iconst (v := iI (1)) hx hb d_Model_opens_156 rfl ?_
            exact mw_zret (v := true) hx hb hr hM hS hlocks d_Model_opens_157 (by rw [show mOpens a left op nd r S = (true, (((((mStop 2 a S).st 9 ((op : Int).toNat) (a + (mLow (S.a 3) a 4))).st 10 ((op : Int).toNat) nd).st 11 ((op : Int).toNat) 0).st 12 ((op : Int).toNat) 1).pf 4 (op + 1)) by first | (exfalso; omega) | (unfold mOpens; rw [show mOpA a left op S = mStop 2 a S by unfold mOpA; (first | (exfalso; omega) | (repeat (first | rw [if_pos (by first | assumption | omega)] | rw [if_neg (by first | assumption | exact zne (by assumption) | omega)])))]; (first | (exfalso; omega) | (repeat (first | rw [if_pos (by first | assumption | omega)] | rw [if_neg (by first | assumption | exact zne (by assumption) | omega)]))); unfold mOpB; rw [show bI r = 1 by rw [show r = true by assumption]; rfl]; (first | (exfalso; omega) | (repeat (first | rw [if_pos (by first | assumption | omega)] | rw [if_neg (by first | assumption | exact zne (by assumption) | omega)]))))]; exact ⟨rfl, rfl, hV25, (fun r h => by rw [hk25 r (by omega), hk20 r (by omega), hk12 r (by omega), hk11 r (by omega), hk10 r (by omega), hk5 r (by omega)])⟩)
      · refine lv_iconst (v := iI (0)) hx hb d_Model_opens_88 rfl ?_
        exact mw_zret (v := false) hx hb hr hM hS hlocks d_Model_opens_89 (by rw [show mOpens a left op nd r S = (false, mStop 2 a S) by first | (exfalso; omega) | (unfold mOpens; rw [show mOpA a left op S = mStop 2 a S by unfold mOpA; (first | (exfalso; omega) | (repeat (first | rw [if_pos (by first | assumption | omega)] | rw [if_neg (by first | assumption | exact zne (by assumption) | omega)])))]; (first | (exfalso; omega) | (repeat (first | rw [if_pos (by first | assumption | omega)] | rw [if_neg (by first | assumption | exact zne (by assumption) | omega)]))))]; exact ⟨rfl, rfl, hV5, (fun r h => by rw [hk5 r (by omega)])⟩)
    · refine lv_iload_n hx hb d_Model_opens_30 rfl (lv_at hl 4 rfl) ?_
      refine ia_if_ne (a := op) (tgt := 51) hx hb d_Model_opens_31 (by decide) (by omega) (fun c26 => ?_) (fun c26 => ?_)
      · refine lv_lload hx hb d_Model_opens_51 (lv_at hl 0 rfl) ?_
        refine lv_iload_n hx hb d_Model_opens_53 rfl (lv_at hl 3 rfl) ?_
        refine ia_i2l hx hb (by omega) d_Model_opens_54 ?_
        refine ia_lcmp (a := mLow (S.a 3) a 4) (b := left) hx hb (by omega) (by omega) d_Model_opens_55 ?_
        have r27 := cmpI_s (mLow (S.a 3) a 4) left
        refine ia_if_le (a := cmpI (mLow (S.a 3) a 4) left) (tgt := 68) hx hb d_Model_opens_56 (by decide) (by omega) (fun c28 => ?_) (fun c28 => ?_)
        · refine lv_iload_n hx hb d_Model_opens_68 rfl (lv_at hl 4 rfl) ?_
          refine lv_bipush (v := iI (16)) hx hb d_Model_opens_69 (by decide) ?_
          refine ia_icmp_ne (a := op) (b := 16) (tgt := 81) hx hb d_Model_opens_71 (by decide) (by omega) (by omega) (fun c29 => ?_) (fun c29 => ?_)
          · refine lv_aload_n hx hb d_Model_opens_81 rfl (lv_at hl 1 rfl) ?_
            refine mw_get (ci := 4) (i := 40) (v := .int (iI (S.f 5))) (C := R_Model) (T := T_Model) (N := 23) hx hb hts in_Model hown hK hM hV.1 rfl rfl 15 (by decide) (hts _ m_560) rfl d_Model_opens_82 ?_
            have r30 : -1000000 ≤ S.f 5 ∧ S.f 5 ≤ 1000000 := hV.2.2.2 5
            refine ia_if_eq (a := S.f 5) (tgt := 90) hx hb d_Model_opens_85 (by decide) (by omega) (fun c31 => ?_) (fun c31 => ?_)
            · refine lv_aload_n hx hb d_Model_opens_90 rfl (lv_at hl 1 rfl) ?_
              refine mw_get (ci := 4) (i := 40) (v := .ref (L 50)) (C := R_Model) (T := T_Model) (N := 23) hx hb hts in_Model hown hK hM hV.1 rfl rfl 17 (by decide) (hts _ m_562) rfl d_Model_opens_91 ?_
              refine lv_iload_n hx hb d_Model_opens_94 rfl (lv_at hl 4 rfl) ?_
              refine lv_iload_n hx hb d_Model_opens_95 rfl (lv_at hl 2 rfl) ?_
              refine lv_lload hx hb d_Model_opens_96 (lv_at hl 0 rfl) ?_
              refine ia_l2i hx hb d_Model_opens_98 ?_
              refine ia_add hx hb d_Model_opens_99 ?_
              refine mw_iast (n := 20) (f := S.a 9) (a := op) (v := a + (mLow (S.a 3) a 4)) (i := 50) hx hb hK hM hS 1 (hV.2.1 9 (by decide)) rfl rfl (by omega) (by decide) d_Model_opens_100 (fun κ32 H locs e32 hk32 hM hS => ?_)
              have hV32 : mds g L κ32 (S.st 9 ((op : Int).toNat) (a + (mLow (S.a 3) a 4))) := mds_st (k := 9) hV (by decide) e32 hk32 (show (-1000000 : Int) ≤ a + (mLow (S.a 3) a 4) ∧ a + (mLow (S.a 3) a 4) ≤ 1000000 by first | omega | (split <;> omega))
              refine lv_aload_n hx hb d_Model_opens_101 rfl (lv_at hl 1 rfl) ?_
              refine mw_get (ci := 4) (i := 40) (v := .ref (L 51)) (C := R_Model) (T := T_Model) (N := 23) hx hb hts in_Model hown hK hM hV32.1 rfl rfl 18 (by decide) (hts _ m_563) rfl d_Model_opens_102 ?_
              refine lv_iload_n hx hb d_Model_opens_105 rfl (lv_at hl 4 rfl) ?_
              refine lv_iload hx hb d_Model_opens_106 (lv_at hl 5 rfl) ?_
              refine mw_iast (n := 20) (f := S.a 10) (a := op) (v := nd) (i := 51) hx hb hK hM hS 1 (hV32.2.1 10 (by decide)) rfl rfl (by omega) (by decide) d_Model_opens_108 (fun κ33 H locs e33 hk33 hM hS => ?_)
              have hV33 : mds g L κ33 ((S.st 9 ((op : Int).toNat) (a + (mLow (S.a 3) a 4))).st 10 ((op : Int).toNat) nd) := mds_st (k := 10) hV32 (by decide) e33 hk33 (show (-1000000 : Int) ≤ nd ∧ nd ≤ 1000000 by first | omega | (split <;> omega))
              refine lv_aload_n hx hb d_Model_opens_109 rfl (lv_at hl 1 rfl) ?_
              refine mw_get (ci := 4) (i := 40) (v := .ref (L 52)) (C := R_Model) (T := T_Model) (N := 23) hx hb hts in_Model hown hK hM hV33.1 rfl rfl 19 (by decide) (hts _ m_564) rfl d_Model_opens_110 ?_
              refine lv_iload_n hx hb d_Model_opens_113 rfl (lv_at hl 4 rfl) ?_
              refine lv_iconst (v := iI (0)) hx hb d_Model_opens_114 rfl ?_
              refine mw_iast (n := 20) (f := S.a 11) (a := op) (v := 0) (i := 52) hx hb hK hM hS 1 (hV33.2.1 11 (by decide)) rfl rfl (by omega) (by decide) d_Model_opens_115 (fun κ34 H locs e34 hk34 hM hS => ?_)
              have hV34 : mds g L κ34 (((S.st 9 ((op : Int).toNat) (a + (mLow (S.a 3) a 4))).st 10 ((op : Int).toNat) nd).st 11 ((op : Int).toNat) 0) := mds_st (k := 11) hV33 (by decide) e34 hk34 (show (-1000000 : Int) ≤ 0 ∧ 0 ≤ 1000000 by first | omega | (split <;> omega))
              refine lv_aload_n hx hb d_Model_opens_116 rfl (lv_at hl 1 rfl) ?_
              refine mw_get (ci := 4) (i := 40) (v := .ref (L 53)) (C := R_Model) (T := T_Model) (N := 23) hx hb hts in_Model hown hK hM hV34.1 rfl rfl 20 (by decide) (hts _ m_565) rfl d_Model_opens_117 ?_
              refine lv_iload_n hx hb d_Model_opens_120 rfl (lv_at hl 4 rfl) ?_
              refine lv_iload hx hb d_Model_opens_121 (lv_at hl 6 rfl) ?_
              refine ia_ifz_eq (x := r) (tgt := 130) hx hb d_Model_opens_123 (by decide) (fun c35 => ?_) (fun c35 => ?_)
              · refine lv_iconst (v := iI (0)) hx hb d_Model_opens_130 rfl ?_
                refine mw_iast (n := 20) (f := S.a 12) (a := op) (v := 0) (i := 53) hx hb hK hM hS 1 (hV34.2.1 12 (by decide)) rfl rfl (by omega) (by decide) d_Model_opens_131 (fun κ36 H locs e36 hk36 hM hS => ?_)
                have hV36 : mds g L κ36 ((((S.st 9 ((op : Int).toNat) (a + (mLow (S.a 3) a 4))).st 10 ((op : Int).toNat) nd).st 11 ((op : Int).toNat) 0).st 12 ((op : Int).toNat) 0) := mds_st (k := 12) hV34 (by decide) e36 hk36 (show (-1000000 : Int) ≤ 0 ∧ 0 ≤ 1000000 by first | omega | (split <;> omega))
                refine lv_aload_n hx hb d_Model_opens_132 rfl (lv_at hl 1 rfl) ?_
                refine lv_iload_n hx hb d_Model_opens_133 rfl (lv_at hl 4 rfl) ?_
                refine lv_iconst (v := iI (1)) hx hb d_Model_opens_134 rfl ?_
                refine ia_add hx hb d_Model_opens_135 ?_
                refine lv_aload_n hx hb d_Model_opens_136 rfl (lv_at hl 1 rfl) ?_
                refine mw_get (ci := 4) (i := 40) (v := .int (iI (S.f 4))) (C := R_Model) (T := T_Model) (N := 23) hx hb hts in_Model hown hK hM hV36.1 rfl rfl 14 (by decide) (hts _ m_559) rfl d_Model_opens_137 ?_
                have r37 : -1000000 ≤ S.f 4 ∧ S.f 4 ≤ 1000000 := hV36.2.2.2 4
                refine ia_icmp_le (a := op + 1) (b := S.f 4) (tgt := 149) hx hb d_Model_opens_140 (by decide) (by omega) (by omega) (fun c38 => ?_) (fun c38 => ?_)
                · refine lv_aload_n hx hb d_Model_opens_149 rfl (lv_at hl 1 rfl) ?_
                  refine mw_get (ci := 4) (i := 40) (v := .int (iI (S.f 4))) (C := R_Model) (T := T_Model) (N := 23) hx hb hts in_Model hown hK hM hV36.1 rfl rfl 14 (by decide) (hts _ m_559) rfl d_Model_opens_150 ?_
                  have r39 : -1000000 ≤ S.f 4 ∧ S.f 4 ≤ 1000000 := hV36.2.2.2 4
                  refine mw_put (ci := 4) (i := 40) (v := .int (iI (S.f 4))) (C := R_Model) (T := T_Model) (N := 23) hx hb hts in_Model ty_Model ty_Model_ok nm_Model hown hK hM hS hV36.1 rfl rfl 14 (by decide) (hts _ m_559) rfl (ty_Model_ok 14 (by decide)) rfl rfl (Nat.le_of_ble_eq_true rfl) d_Model_opens_153 (fun κ40 H locs e40 hk40 hM hS => ?_)
                  have e40 : κ40 40 = some (.inr (4, [.int (iI (S.f 8)), .ref (L 41), .int (iI (S.f 0)), .int (iI (S.f 1)), .ref (L 42), .ref (L 43), .ref (L 44), .int (iI (S.f 2)), .int (iI (S.f 3)), .ref (L 45), .ref (L 46), .ref (L 47), .ref (L 48), .ref (L 49), .int (iI (S.f 4)), .int (iI (S.f 5)), .int (iI (S.f 6)), .ref (L 50), .ref (L 51), .ref (L 52), .ref (L 53), .ref (L 54), .int (iI (S.f 7))])) := e40
                  have hV40 : mds g L κ40 (((((S.st 9 ((op : Int).toNat) (a + (mLow (S.a 3) a 4))).st 10 ((op : Int).toNat) nd).st 11 ((op : Int).toNat) 0).st 12 ((op : Int).toNat) 0).pf 4 (S.f 4)) := mds_pf hV36 e40 hk40 (by first | omega | (split <;> omega))
                  refine lv_iconst (v := iI (1)) hx hb d_Model_opens_156 rfl ?_
                  exact mw_zret (v := true) hx hb hr hM hS hlocks d_Model_opens_157 (by rw [show mOpens a left op nd r S = (true, ((((S.st 9 ((op : Int).toNat) (a + (mLow (S.a 3) a 4))).st 10 ((op : Int).toNat) nd).st 11 ((op : Int).toNat) 0).st 12 ((op : Int).toNat) 0).pf 4 (S.f 4)) by first | (exfalso; omega) | (unfold mOpens; rw [show mOpA a left op S = S by unfold mOpA; (first | (exfalso; omega) | (repeat (first | rw [if_pos (by first | assumption | omega)] | rw [if_neg (by first | assumption | exact zne (by assumption) | omega)])))]; (first | (exfalso; omega) | (repeat (first | rw [if_pos (by first | assumption | omega)] | rw [if_neg (by first | assumption | exact zne (by assumption) | omega)]))); unfold mOpB; rw [show bI r = 0 by rw [show r = false by assumption]; rfl]; (first | (exfalso; omega) | (repeat (first | rw [if_pos (by first | assumption | omega)] | rw [if_neg (by first | assumption | exact zne (by assumption) | omega)]))))]; exact ⟨rfl, rfl, hV40, (fun r h => by rw [hk40 r (by omega), hk36 r (by omega), hk34 r (by omega), hk33 r (by omega), hk32 r (by omega)])⟩)
                · refine lv_iload_n hx hb d_Model_opens_143 rfl (lv_at hl 4 rfl) ?_
                  refine lv_iconst (v := iI (1)) hx hb d_Model_opens_144 rfl ?_
                  refine ia_add hx hb d_Model_opens_145 ?_
                  refine lv_goto (tgt := 153) hx hb d_Model_opens_146 (by decide) ?_
                  refine mw_put (ci := 4) (i := 40) (v := .int (iI (op + 1))) (C := R_Model) (T := T_Model) (N := 23) hx hb hts in_Model ty_Model ty_Model_ok nm_Model hown hK hM hS hV36.1 rfl rfl 14 (by decide) (hts _ m_559) rfl (ty_Model_ok 14 (by decide)) rfl rfl (Nat.le_of_ble_eq_true rfl) d_Model_opens_153 (fun κ41 H locs e41 hk41 hM hS => ?_)
                  have e41 : κ41 40 = some (.inr (4, [.int (iI (S.f 8)), .ref (L 41), .int (iI (S.f 0)), .int (iI (S.f 1)), .ref (L 42), .ref (L 43), .ref (L 44), .int (iI (S.f 2)), .int (iI (S.f 3)), .ref (L 45), .ref (L 46), .ref (L 47), .ref (L 48), .ref (L 49), .int (iI (op + 1)), .int (iI (S.f 5)), .int (iI (S.f 6)), .ref (L 50), .ref (L 51), .ref (L 52), .ref (L 53), .ref (L 54), .int (iI (S.f 7))])) := e41
                  have hV41 : mds g L κ41 (((((S.st 9 ((op : Int).toNat) (a + (mLow (S.a 3) a 4))).st 10 ((op : Int).toNat) nd).st 11 ((op : Int).toNat) 0).st 12 ((op : Int).toNat) 0).pf 4 (op + 1)) := mds_pf hV36 e41 hk41 (by first | omega | (split <;> omega))
                  refine lv_iconst (v := iI (1)) hx hb d_Model_opens_156 rfl ?_
                  exact mw_zret (v := true) hx hb hr hM hS hlocks d_Model_opens_157 (by rw [show mOpens a left op nd r S = (true, ((((S.st 9 ((op : Int).toNat) (a + (mLow (S.a 3) a 4))).st 10 ((op : Int).toNat) nd).st 11 ((op : Int).toNat) 0).st 12 ((op : Int).toNat) 0).pf 4 (op + 1)) by first | (exfalso; omega) | (unfold mOpens; rw [show mOpA a left op S = S by unfold mOpA; (first | (exfalso; omega) | (repeat (first | rw [if_pos (by first | assumption | omega)] | rw [if_neg (by first | assumption | exact zne (by assumption) | omega)])))]; (first | (exfalso; omega) | (repeat (first | rw [if_pos (by first | assumption | omega)] | rw [if_neg (by first | assumption | exact zne (by assumption) | omega)]))); unfold mOpB; rw [show bI r = 0 by rw [show r = false by assumption]; rfl]; (first | (exfalso; omega) | (repeat (first | rw [if_pos (by first | assumption | omega)] | rw [if_neg (by first | assumption | exact zne (by assumption) | omega)]))))]; exact ⟨rfl, rfl, hV41, (fun r h => by rw [hk41 r (by omega), hk36 r (by omega), hk34 r (by omega), hk33 r (by omega), hk32 r (by omega)])⟩)
              · refine lv_iconst (v := iI (1)) hx hb d_Model_opens_126 rfl ?_
                refine lv_goto (tgt := 131) hx hb d_Model_opens_127 (by decide) ?_
                refine mw_iast (n := 20) (f := S.a 12) (a := op) (v := 1) (i := 53) hx hb hK hM hS 1 (hV34.2.1 12 (by decide)) rfl rfl (by omega) (by decide) d_Model_opens_131 (fun κ42 H locs e42 hk42 hM hS => ?_)
                have hV42 : mds g L κ42 ((((S.st 9 ((op : Int).toNat) (a + (mLow (S.a 3) a 4))).st 10 ((op : Int).toNat) nd).st 11 ((op : Int).toNat) 0).st 12 ((op : Int).toNat) 1) := mds_st (k := 12) hV34 (by decide) e42 hk42 (show (-1000000 : Int) ≤ 1 ∧ 1 ≤ 1000000 by first | omega | (split <;> omega))
                refine lv_aload_n hx hb d_Model_opens_132 rfl (lv_at hl 1 rfl) ?_
                refine lv_iload_n hx hb d_Model_opens_133 rfl (lv_at hl 4 rfl) ?_
                refine lv_iconst (v := iI (1)) hx hb d_Model_opens_134 rfl ?_
                refine ia_add hx hb d_Model_opens_135 ?_
                refine lv_aload_n hx hb d_Model_opens_136 rfl (lv_at hl 1 rfl) ?_
                refine mw_get (ci := 4) (i := 40) (v := .int (iI (S.f 4))) (C := R_Model) (T := T_Model) (N := 23) hx hb hts in_Model hown hK hM hV42.1 rfl rfl 14 (by decide) (hts _ m_559) rfl d_Model_opens_137 ?_
                have r43 : -1000000 ≤ S.f 4 ∧ S.f 4 ≤ 1000000 := hV42.2.2.2 4
                refine ia_icmp_le (a := op + 1) (b := S.f 4) (tgt := 149) hx hb d_Model_opens_140 (by decide) (by omega) (by omega) (fun c44 => ?_) (fun c44 => ?_)
                · refine lv_aload_n hx hb d_Model_opens_149 rfl (lv_at hl 1 rfl) ?_
                  refine mw_get (ci := 4) (i := 40) (v := .int (iI (S.f 4))) (C := R_Model) (T := T_Model) (N := 23) hx hb hts in_Model hown hK hM hV42.1 rfl rfl 14 (by decide) (hts _ m_559) rfl d_Model_opens_150 ?_
                  have r45 : -1000000 ≤ S.f 4 ∧ S.f 4 ≤ 1000000 := hV42.2.2.2 4
                  refine mw_put (ci := 4) (i := 40) (v := .int (iI (S.f 4))) (C := R_Model) (T := T_Model) (N := 23) hx hb hts in_Model ty_Model ty_Model_ok nm_Model hown hK hM hS hV42.1 rfl rfl 14 (by decide) (hts _ m_559) rfl (ty_Model_ok 14 (by decide)) rfl rfl (Nat.le_of_ble_eq_true rfl) d_Model_opens_153 (fun κ46 H locs e46 hk46 hM hS => ?_)
                  have e46 : κ46 40 = some (.inr (4, [.int (iI (S.f 8)), .ref (L 41), .int (iI (S.f 0)), .int (iI (S.f 1)), .ref (L 42), .ref (L 43), .ref (L 44), .int (iI (S.f 2)), .int (iI (S.f 3)), .ref (L 45), .ref (L 46), .ref (L 47), .ref (L 48), .ref (L 49), .int (iI (S.f 4)), .int (iI (S.f 5)), .int (iI (S.f 6)), .ref (L 50), .ref (L 51), .ref (L 52), .ref (L 53), .ref (L 54), .int (iI (S.f 7))])) := e46
                  have hV46 : mds g L κ46 (((((S.st 9 ((op : Int).toNat) (a + (mLow (S.a 3) a 4))).st 10 ((op : Int).toNat) nd).st 11 ((op : Int).toNat) 0).st 12 ((op : Int).toNat) 1).pf 4 (S.f 4)) := mds_pf hV42 e46 hk46 (by first | omega | (split <;> omega))
                  refine lv_iconst (v := iI (1)) hx hb d_Model_opens_156 rfl ?_
                  exact mw_zret (v := true) hx hb hr hM hS hlocks d_Model_opens_157 (by rw [show mOpens a left op nd r S = (true, ((((S.st 9 ((op : Int).toNat) (a + (mLow (S.a 3) a 4))).st 10 ((op : Int).toNat) nd).st 11 ((op : Int).toNat) 0).st 12 ((op : Int).toNat) 1).pf 4 (S.f 4)) by first | (exfalso; omega) | (unfold mOpens; rw [show mOpA a left op S = S by unfold mOpA; (first | (exfalso; omega) | (repeat (first | rw [if_pos (by first | assumption | omega)] | rw [if_neg (by first | assumption | exact zne (by assumption) | omega)])))]; (first | (exfalso; omega) | (repeat (first | rw [if_pos (by first | assumption | omega)] | rw [if_neg (by first | assumption | exact zne (by assumption) | omega)]))); unfold mOpB; rw [show bI r = 1 by rw [show r = true by assumption]; rfl]; (first | (exfalso; omega) | (repeat (first | rw [if_pos (by first | assumption | omega)] | rw [if_neg (by first | assumption | exact zne (by assumption) | omega)]))))]; exact ⟨rfl, rfl, hV46, (fun r h => by rw [hk46 r (by omega), hk42 r (by omega), hk34 r (by omega), hk33 r (by omega), hk32 r (by omega)])⟩)
                · refine lv_iload_n hx hb d_Model_opens_143 rfl (lv_at hl 4 rfl) ?_
                  refine lv_iconst (v := iI (1)) hx hb d_Model_opens_144 rfl ?_
                  refine ia_add hx hb d_Model_opens_145 ?_
                  refine lv_goto (tgt := 153) hx hb d_Model_opens_146 (by decide) ?_
                  refine mw_put (ci := 4) (i := 40) (v := .int (iI (op + 1))) (C := R_Model) (T := T_Model) (N := 23) hx hb hts in_Model ty_Model ty_Model_ok nm_Model hown hK hM hS hV42.1 rfl rfl 14 (by decide) (hts _ m_559) rfl (ty_Model_ok 14 (by decide)) rfl rfl (Nat.le_of_ble_eq_true rfl) d_Model_opens_153 (fun κ47 H locs e47 hk47 hM hS => ?_)
                  have e47 : κ47 40 = some (.inr (4, [.int (iI (S.f 8)), .ref (L 41), .int (iI (S.f 0)), .int (iI (S.f 1)), .ref (L 42), .ref (L 43), .ref (L 44), .int (iI (S.f 2)), .int (iI (S.f 3)), .ref (L 45), .ref (L 46), .ref (L 47), .ref (L 48), .ref (L 49), .int (iI (op + 1)), .int (iI (S.f 5)), .int (iI (S.f 6)), .ref (L 50), .ref (L 51), .ref (L 52), .ref (L 53), .ref (L 54), .int (iI (S.f 7))])) := e47
                  have hV47 : mds g L κ47 (((((S.st 9 ((op : Int).toNat) (a + (mLow (S.a 3) a 4))).st 10 ((op : Int).toNat) nd).st 11 ((op : Int).toNat) 0).st 12 ((op : Int).toNat) 1).pf 4 (op + 1)) := mds_pf hV42 e47 hk47 (by first | omega | (split <;> omega))
                  refine lv_iconst (v := iI (1)) hx hb d_Model_opens_156 rfl ?_
                  exact mw_zret (v := true) hx hb hr hM hS hlocks d_Model_opens_157 (by rw [show mOpens a left op nd r S = (true, ((((S.st 9 ((op : Int).toNat) (a + (mLow (S.a 3) a 4))).st 10 ((op : Int).toNat) nd).st 11 ((op : Int).toNat) 0).st 12 ((op : Int).toNat) 1).pf 4 (op + 1)) by first | (exfalso; omega) | (unfold mOpens; rw [show mOpA a left op S = S by unfold mOpA; (first | (exfalso; omega) | (repeat (first | rw [if_pos (by first | assumption | omega)] | rw [if_neg (by first | assumption | exact zne (by assumption) | omega)])))]; (first | (exfalso; omega) | (repeat (first | rw [if_pos (by first | assumption | omega)] | rw [if_neg (by first | assumption | exact zne (by assumption) | omega)]))); unfold mOpB; rw [show bI r = 1 by rw [show r = true by assumption]; rfl]; (first | (exfalso; omega) | (repeat (first | rw [if_pos (by first | assumption | omega)] | rw [if_neg (by first | assumption | exact zne (by assumption) | omega)]))))]; exact ⟨rfl, rfl, hV47, (fun r h => by rw [hk47 r (by omega), hk42 r (by omega), hk34 r (by omega), hk33 r (by omega), hk32 r (by omega)])⟩)
            · refine lv_iconst (v := iI (0)) hx hb d_Model_opens_88 rfl ?_
              exact mw_zret (v := false) hx hb hr hM hS hlocks d_Model_opens_89 (by rw [show mOpens a left op nd r S = (false, S) by first | (exfalso; omega) | (unfold mOpens; rw [show mOpA a left op S = S by unfold mOpA; (first | (exfalso; omega) | (repeat (first | rw [if_pos (by first | assumption | omega)] | rw [if_neg (by first | assumption | exact zne (by assumption) | omega)])))]; (first | (exfalso; omega) | (repeat (first | rw [if_pos (by first | assumption | omega)] | rw [if_neg (by first | assumption | exact zne (by assumption) | omega)]))))]; exact ⟨rfl, rfl, hV, (fun r h => rfl)⟩)
          · refine lv_aload_n hx hb d_Model_opens_74 rfl (lv_at hl 1 rfl) ?_
            refine lv_bipush (v := iI (8)) hx hb d_Model_opens_75 (by decide) ?_
            refine lv_iload_n hx hb d_Model_opens_77 rfl (lv_at hl 2 rfl) ?_
            refine mw_callV (i := 40) (As := [.int (iI 8), .int (iI a)]) (rest := []) ⟨hx, hb, hml, hown, hts⟩ hK hM hS rfl hV.1 rfl (c_Model_stop l D g lo L κ S hV 8 a (by omega) (by omega)) (cwV 2 hts (gV m_638 m_640 m_20 m_58 m_641) rfl rfl rfl (by decide +kernel) ⟨Nat.le_of_ble_eq_true rfl, Nat.le_of_ble_eq_true rfl⟩) rfl hl.1 rfl (Nat.le_of_ble_eq_true rfl) d_Model_opens_78 ⟨Nat.le_of_ble_eq_true rfl, Nat.le_of_ble_eq_true rfl⟩ (fun v48 L48 κ48 H locs hp48 hM hS => ?_)
            obtain ⟨rfl, rfl, hV48, hk48⟩ := hp48
            have r49 := mStop_nz (x := a) (S := S) (show (8 : Int) ≠ 0 by decide)
            have r50 := congrFun (congrFun (mStop_a (y := 8) (x := a) (S := S)) 3)
            refine lv_aload_n hx hb d_Model_opens_81 rfl (lv_at hl 1 rfl) ?_
            refine mw_get (ci := 4) (i := 40) (v := .int (iI ((mStop 8 a S).f 5))) (C := R_Model) (T := T_Model) (N := 23) hx hb hts in_Model hown hK hM hV48.1 rfl rfl 15 (by decide) (hts _ m_560) rfl d_Model_opens_82 ?_
            have r51 : -1000000 ≤ (mStop 8 a S).f 5 ∧ (mStop 8 a S).f 5 ≤ 1000000 := hV48.2.2.2 5
            refine ia_if_eq (a := (mStop 8 a S).f 5) (tgt := 90) hx hb d_Model_opens_85 (by decide) (by omega) (fun c52 => ?_) (fun c52 => ?_)
            · refine lv_aload_n hx hb d_Model_opens_90 rfl (lv_at hl 1 rfl) ?_
              refine mw_get (ci := 4) (i := 40) (v := .ref (L 50)) (C := R_Model) (T := T_Model) (N := 23) hx hb hts in_Model hown hK hM hV48.1 rfl rfl 17 (by decide) (hts _ m_562) rfl d_Model_opens_91 ?_
              refine lv_iload_n hx hb d_Model_opens_94 rfl (lv_at hl 4 rfl) ?_
              refine lv_iload_n hx hb d_Model_opens_95 rfl (lv_at hl 2 rfl) ?_
              refine lv_lload hx hb d_Model_opens_96 (lv_at hl 0 rfl) ?_
              refine ia_l2i hx hb d_Model_opens_98 ?_
              refine ia_add hx hb d_Model_opens_99 ?_
              refine mw_iast (n := 20) (f := (mStop 8 a S).a 9) (a := op) (v := a + (mLow (S.a 3) a 4)) (i := 50) hx hb hK hM hS 1 (hV48.2.1 9 (by decide)) rfl rfl (by omega) (by decide) d_Model_opens_100 (fun κ53 H locs e53 hk53 hM hS => ?_)
              have hV53 : mds g L κ53 ((mStop 8 a S).st 9 ((op : Int).toNat) (a + (mLow (S.a 3) a 4))) := mds_st (k := 9) hV48 (by decide) e53 hk53 (show (-1000000 : Int) ≤ a + (mLow (S.a 3) a 4) ∧ a + (mLow (S.a 3) a 4) ≤ 1000000 by first | omega | (split <;> omega))
              refine lv_aload_n hx hb d_Model_opens_101 rfl (lv_at hl 1 rfl) ?_
              refine mw_get (ci := 4) (i := 40) (v := .ref (L 51)) (C := R_Model) (T := T_Model) (N := 23) hx hb hts in_Model hown hK hM hV53.1 rfl rfl 18 (by decide) (hts _ m_563) rfl d_Model_opens_102 ?_
              refine lv_iload_n hx hb d_Model_opens_105 rfl (lv_at hl 4 rfl) ?_
              refine lv_iload hx hb d_Model_opens_106 (lv_at hl 5 rfl) ?_
              refine mw_iast (n := 20) (f := (mStop 8 a S).a 10) (a := op) (v := nd) (i := 51) hx hb hK hM hS 1 (hV53.2.1 10 (by decide)) rfl rfl (by omega) (by decide) d_Model_opens_108 (fun κ54 H locs e54 hk54 hM hS => ?_)
              have hV54 : mds g L κ54 (((mStop 8 a S).st 9 ((op : Int).toNat) (a + (mLow (S.a 3) a 4))).st 10 ((op : Int).toNat) nd) := mds_st (k := 10) hV53 (by decide) e54 hk54 (show (-1000000 : Int) ≤ nd ∧ nd ≤ 1000000 by first | omega | (split <;> omega))
              refine lv_aload_n hx hb d_Model_opens_109 rfl (lv_at hl 1 rfl) ?_
              refine mw_get (ci := 4) (i := 40) (v := .ref (L 52)) (C := R_Model) (T := T_Model) (N := 23) hx hb hts in_Model hown hK hM hV54.1 rfl rfl 19 (by decide) (hts _ m_564) rfl d_Model_opens_110 ?_
              refine lv_iload_n hx hb d_Model_opens_113 rfl (lv_at hl 4 rfl) ?_
              refine lv_iconst (v := iI (0)) hx hb d_Model_opens_114 rfl ?_
              refine mw_iast (n := 20) (f := (mStop 8 a S).a 11) (a := op) (v := 0) (i := 52) hx hb hK hM hS 1 (hV54.2.1 11 (by decide)) rfl rfl (by omega) (by decide) d_Model_opens_115 (fun κ55 H locs e55 hk55 hM hS => ?_)
              have hV55 : mds g L κ55 ((((mStop 8 a S).st 9 ((op : Int).toNat) (a + (mLow (S.a 3) a 4))).st 10 ((op : Int).toNat) nd).st 11 ((op : Int).toNat) 0) := mds_st (k := 11) hV54 (by decide) e55 hk55 (show (-1000000 : Int) ≤ 0 ∧ 0 ≤ 1000000 by first | omega | (split <;> omega))
              refine lv_aload_n hx hb d_Model_opens_116 rfl (lv_at hl 1 rfl) ?_
              refine mw_get (ci := 4) (i := 40) (v := .ref (L 53)) (C := R_Model) (T := T_Model) (N := 23) hx hb hts in_Model hown hK hM hV55.1 rfl rfl 20 (by decide) (hts _ m_565) rfl d_Model_opens_117 ?_
              refine lv_iload_n hx hb d_Model_opens_120 rfl (lv_at hl 4 rfl) ?_
              refine lv_iload hx hb d_Model_opens_121 (lv_at hl 6 rfl) ?_
              refine ia_ifz_eq (x := r) (tgt := 130) hx hb d_Model_opens_123 (by decide) (fun c56 => ?_) (fun c56 => ?_)
              · refine lv_iconst (v := iI (0)) hx hb d_Model_opens_130 rfl ?_
                refine mw_iast (n := 20) (f := (mStop 8 a S).a 12) (a := op) (v := 0) (i := 53) hx hb hK hM hS 1 (hV55.2.1 12 (by decide)) rfl rfl (by omega) (by decide) d_Model_opens_131 (fun κ57 H locs e57 hk57 hM hS => ?_)
                have hV57 : mds g L κ57 (((((mStop 8 a S).st 9 ((op : Int).toNat) (a + (mLow (S.a 3) a 4))).st 10 ((op : Int).toNat) nd).st 11 ((op : Int).toNat) 0).st 12 ((op : Int).toNat) 0) := mds_st (k := 12) hV55 (by decide) e57 hk57 (show (-1000000 : Int) ≤ 0 ∧ 0 ≤ 1000000 by first | omega | (split <;> omega))
                refine lv_aload_n hx hb d_Model_opens_132 rfl (lv_at hl 1 rfl) ?_
                refine lv_iload_n hx hb d_Model_opens_133 rfl (lv_at hl 4 rfl) ?_
                refine lv_iconst (v := iI (1)) hx hb d_Model_opens_134 rfl ?_
                refine ia_add hx hb d_Model_opens_135 ?_
                refine lv_aload_n hx hb d_Model_opens_136 rfl (lv_at hl 1 rfl) ?_
                refine mw_get (ci := 4) (i := 40) (v := .int (iI ((mStop 8 a S).f 4))) (C := R_Model) (T := T_Model) (N := 23) hx hb hts in_Model hown hK hM hV57.1 rfl rfl 14 (by decide) (hts _ m_559) rfl d_Model_opens_137 ?_
                have r58 : -1000000 ≤ (mStop 8 a S).f 4 ∧ (mStop 8 a S).f 4 ≤ 1000000 := hV57.2.2.2 4
                refine ia_icmp_le (a := op + 1) (b := (mStop 8 a S).f 4) (tgt := 149) hx hb d_Model_opens_140 (by decide) (by omega) (by omega) (fun c59 => ?_) (fun c59 => ?_)
                · refine lv_aload_n hx hb d_Model_opens_149 rfl (lv_at hl 1 rfl) ?_
                  refine mw_get (ci := 4) (i := 40) (v := .int (iI ((mStop 8 a S).f 4))) (C := R_Model) (T := T_Model) (N := 23) hx hb hts in_Model hown hK hM hV57.1 rfl rfl 14 (by decide) (hts _ m_559) rfl d_Model_opens_150 ?_
                  have r60 : -1000000 ≤ (mStop 8 a S).f 4 ∧ (mStop 8 a S).f 4 ≤ 1000000 := hV57.2.2.2 4
                  refine mw_put (ci := 4) (i := 40) (v := .int (iI ((mStop 8 a S).f 4))) (C := R_Model) (T := T_Model) (N := 23) hx hb hts in_Model ty_Model ty_Model_ok nm_Model hown hK hM hS hV57.1 rfl rfl 14 (by decide) (hts _ m_559) rfl (ty_Model_ok 14 (by decide)) rfl rfl (Nat.le_of_ble_eq_true rfl) d_Model_opens_153 (fun κ61 H locs e61 hk61 hM hS => ?_)
                  have e61 : κ61 40 = some (.inr (4, [.int (iI ((mStop 8 a S).f 8)), .ref (L 41), .int (iI ((mStop 8 a S).f 0)), .int (iI ((mStop 8 a S).f 1)), .ref (L 42), .ref (L 43), .ref (L 44), .int (iI ((mStop 8 a S).f 2)), .int (iI ((mStop 8 a S).f 3)), .ref (L 45), .ref (L 46), .ref (L 47), .ref (L 48), .ref (L 49), .int (iI ((mStop 8 a S).f 4)), .int (iI ((mStop 8 a S).f 5)), .int (iI ((mStop 8 a S).f 6)), .ref (L 50), .ref (L 51), .ref (L 52), .ref (L 53), .ref (L 54), .int (iI ((mStop 8 a S).f 7))])) := e61
                  have hV61 : mds g L κ61 ((((((mStop 8 a S).st 9 ((op : Int).toNat) (a + (mLow (S.a 3) a 4))).st 10 ((op : Int).toNat) nd).st 11 ((op : Int).toNat) 0).st 12 ((op : Int).toNat) 0).pf 4 ((mStop 8 a S).f 4)) := mds_pf hV57 e61 hk61 (by first | omega | (split <;> omega))
                  refine lv_iconst (v := iI (1)) hx hb d_Model_opens_156 rfl ?_
                  exact mw_zret (v := true) hx hb hr hM hS hlocks d_Model_opens_157 (by rw [show mOpens a left op nd r S = (true, (((((mStop 8 a S).st 9 ((op : Int).toNat) (a + (mLow (S.a 3) a 4))).st 10 ((op : Int).toNat) nd).st 11 ((op : Int).toNat) 0).st 12 ((op : Int).toNat) 0).pf 4 ((mStop 8 a S).f 4)) by first | (exfalso; omega) | (unfold mOpens; rw [show mOpA a left op S = mStop 8 a S by unfold mOpA; (first | (exfalso; omega) | (repeat (first | rw [if_pos (by first | assumption | omega)] | rw [if_neg (by first | assumption | exact zne (by assumption) | omega)])))]; (first | (exfalso; omega) | (repeat (first | rw [if_pos (by first | assumption | omega)] | rw [if_neg (by first | assumption | exact zne (by assumption) | omega)]))); unfold mOpB; rw [show bI r = 0 by rw [show r = false by assumption]; rfl]; (first | (exfalso; omega) | (repeat (first | rw [if_pos (by first | assumption | omega)] | rw [if_neg (by first | assumption | exact zne (by assumption) | omega)]))))]; exact ⟨rfl, rfl, hV61, (fun r h => by rw [hk61 r (by omega), hk57 r (by omega), hk55 r (by omega), hk54 r (by omega), hk53 r (by omega), hk48 r (by omega)])⟩)
                · refine lv_iload_n hx hb d_Model_opens_143 rfl (lv_at hl 4 rfl) ?_
                  refine lv_iconst (v := iI (1)) hx hb d_Model_opens_144 rfl ?_
                  refine ia_add hx hb d_Model_opens_145 ?_
                  refine lv_goto (tgt := 153) hx hb d_Model_opens_146 (by decide) ?_
                  refine mw_put (ci := 4) (i := 40) (v := .int (iI (op + 1))) (C := R_Model) (T := T_Model) (N := 23) hx hb hts in_Model ty_Model ty_Model_ok nm_Model hown hK hM hS hV57.1 rfl rfl 14 (by decide) (hts _ m_559) rfl (ty_Model_ok 14 (by decide)) rfl rfl (Nat.le_of_ble_eq_true rfl) d_Model_opens_153 (fun κ62 H locs e62 hk62 hM hS => ?_)
                  have e62 : κ62 40 = some (.inr (4, [.int (iI ((mStop 8 a S).f 8)), .ref (L 41), .int (iI ((mStop 8 a S).f 0)), .int (iI ((mStop 8 a S).f 1)), .ref (L 42), .ref (L 43), .ref (L 44), .int (iI ((mStop 8 a S).f 2)), .int (iI ((mStop 8 a S).f 3)), .ref (L 45), .ref (L 46), .ref (L 47), .ref (L 48), .ref (L 49), .int (iI (op + 1)), .int (iI ((mStop 8 a S).f 5)), .int (iI ((mStop 8 a S).f 6)), .ref (L 50), .ref (L 51), .ref (L 52), .ref (L 53), .ref (L 54), .int (iI ((mStop 8 a S).f 7))])) := e62
                  have hV62 : mds g L κ62 ((((((mStop 8 a S).st 9 ((op : Int).toNat) (a + (mLow (S.a 3) a 4))).st 10 ((op : Int).toNat) nd).st 11 ((op : Int).toNat) 0).st 12 ((op : Int).toNat) 0).pf 4 (op + 1)) := mds_pf hV57 e62 hk62 (by first | omega | (split <;> omega))
                  refine lv_iconst (v := iI (1)) hx hb d_Model_opens_156 rfl ?_
                  exact mw_zret (v := true) hx hb hr hM hS hlocks d_Model_opens_157 (by rw [show mOpens a left op nd r S = (true, (((((mStop 8 a S).st 9 ((op : Int).toNat) (a + (mLow (S.a 3) a 4))).st 10 ((op : Int).toNat) nd).st 11 ((op : Int).toNat) 0).st 12 ((op : Int).toNat) 0).pf 4 (op + 1)) by first | (exfalso; omega) | (unfold mOpens; rw [show mOpA a left op S = mStop 8 a S by unfold mOpA; (first | (exfalso; omega) | (repeat (first | rw [if_pos (by first | assumption | omega)] | rw [if_neg (by first | assumption | exact zne (by assumption) | omega)])))]; (first | (exfalso; omega) | (repeat (first | rw [if_pos (by first | assumption | omega)] | rw [if_neg (by first | assumption | exact zne (by assumption) | omega)]))); unfold mOpB; rw [show bI r = 0 by rw [show r = false by assumption]; rfl]; (first | (exfalso; omega) | (repeat (first | rw [if_pos (by first | assumption | omega)] | rw [if_neg (by first | assumption | exact zne (by assumption) | omega)]))))]; exact ⟨rfl, rfl, hV62, (fun r h => by rw [hk62 r (by omega), hk57 r (by omega), hk55 r (by omega), hk54 r (by omega), hk53 r (by omega), hk48 r (by omega)])⟩)
              · refine lv_iconst (v := iI (1)) hx hb d_Model_opens_126 rfl ?_
                refine lv_goto (tgt := 131) hx hb d_Model_opens_127 (by decide) ?_
                refine mw_iast (n := 20) (f := (mStop 8 a S).a 12) (a := op) (v := 1) (i := 53) hx hb hK hM hS 1 (hV55.2.1 12 (by decide)) rfl rfl (by omega) (by decide) d_Model_opens_131 (fun κ63 H locs e63 hk63 hM hS => ?_)
                have hV63 : mds g L κ63 (((((mStop 8 a S).st 9 ((op : Int).toNat) (a + (mLow (S.a 3) a 4))).st 10 ((op : Int).toNat) nd).st 11 ((op : Int).toNat) 0).st 12 ((op : Int).toNat) 1) := mds_st (k := 12) hV55 (by decide) e63 hk63 (show (-1000000 : Int) ≤ 1 ∧ 1 ≤ 1000000 by first | omega | (split <;> omega))
                refine lv_aload_n hx hb d_Model_opens_132 rfl (lv_at hl 1 rfl) ?_
                refine lv_iload_n hx hb d_Model_opens_133 rfl (lv_at hl 4 rfl) ?_
                refine lv_iconst (v := iI (1)) hx hb d_Model_opens_134 rfl ?_
                refine ia_add hx hb d_Model_opens_135 ?_
                refine lv_aload_n hx hb d_Model_opens_136 rfl (lv_at hl 1 rfl) ?_
                refine mw_get (ci := 4) (i := 40) (v := .int (iI ((mStop 8 a S).f 4))) (C := R_Model) (T := T_Model) (N := 23) hx hb hts in_Model hown hK hM hV63.1 rfl rfl 14 (by decide) (hts _ m_559) rfl d_Model_opens_137 ?_
                have r64 : -1000000 ≤ (mStop 8 a S).f 4 ∧ (mStop 8 a S).f 4 ≤ 1000000 := hV63.2.2.2 4
                refine ia_icmp_le (a := op + 1) (b := (mStop 8 a S).f 4) (tgt := 149) hx hb d_Model_opens_140 (by decide) (by omega) (by omega) (fun c65 => ?_) (fun c65 => ?_)
                · refine lv_aload_n hx hb d_Model_opens_149 rfl (lv_at hl 1 rfl) ?_
                  refine mw_get (ci := 4) (i := 40) (v := .int (iI ((mStop 8 a S).f 4))) (C := R_Model) (T := T_Model) (N := 23) hx hb hts in_Model hown hK hM hV63.1 rfl rfl 14 (by decide) (hts _ m_559) rfl d_Model_opens_150 ?_
                  have r66 : -1000000 ≤ (mStop 8 a S).f 4 ∧ (mStop 8 a S).f 4 ≤ 1000000 := hV63.2.2.2 4
                  refine mw_put (ci := 4) (i := 40) (v := .int (iI ((mStop 8 a S).f 4))) (C := R_Model) (T := T_Model) (N := 23) hx hb hts in_Model ty_Model ty_Model_ok nm_Model hown hK hM hS hV63.1 rfl rfl 14 (by decide) (hts _ m_559) rfl (ty_Model_ok 14 (by decide)) rfl rfl (Nat.le_of_ble_eq_true rfl) d_Model_opens_153 (fun κ67 H locs e67 hk67 hM hS => ?_)
                  have e67 : κ67 40 = some (.inr (4, [.int (iI ((mStop 8 a S).f 8)), .ref (L 41), .int (iI ((mStop 8 a S).f 0)), .int (iI ((mStop 8 a S).f 1)), .ref (L 42), .ref (L 43), .ref (L 44), .int (iI ((mStop 8 a S).f 2)), .int (iI ((mStop 8 a S).f 3)), .ref (L 45), .ref (L 46), .ref (L 47), .ref (L 48), .ref (L 49), .int (iI ((mStop 8 a S).f 4)), .int (iI ((mStop 8 a S).f 5)), .int (iI ((mStop 8 a S).f 6)), .ref (L 50), .ref (L 51), .ref (L 52), .ref (L 53), .ref (L 54), .int (iI ((mStop 8 a S).f 7))])) := e67
                  have hV67 : mds g L κ67 ((((((mStop 8 a S).st 9 ((op : Int).toNat) (a + (mLow (S.a 3) a 4))).st 10 ((op : Int).toNat) nd).st 11 ((op : Int).toNat) 0).st 12 ((op : Int).toNat) 1).pf 4 ((mStop 8 a S).f 4)) := mds_pf hV63 e67 hk67 (by first | omega | (split <;> omega))
                  refine lv_iconst (v := iI (1)) hx hb d_Model_opens_156 rfl ?_
                  exact mw_zret (v := true) hx hb hr hM hS hlocks d_Model_opens_157 (by rw [show mOpens a left op nd r S = (true, (((((mStop 8 a S).st 9 ((op : Int).toNat) (a + (mLow (S.a 3) a 4))).st 10 ((op : Int).toNat) nd).st 11 ((op : Int).toNat) 0).st 12 ((op : Int).toNat) 1).pf 4 ((mStop 8 a S).f 4)) by first | (exfalso; omega) | (unfold mOpens; rw [show mOpA a left op S = mStop 8 a S by unfold mOpA; (first | (exfalso; omega) | (repeat (first | rw [if_pos (by first | assumption | omega)] | rw [if_neg (by first | assumption | exact zne (by assumption) | omega)])))]; (first | (exfalso; omega) | (repeat (first | rw [if_pos (by first | assumption | omega)] | rw [if_neg (by first | assumption | exact zne (by assumption) | omega)]))); unfold mOpB; rw [show bI r = 1 by rw [show r = true by assumption]; rfl]; (first | (exfalso; omega) | (repeat (first | rw [if_pos (by first | assumption | omega)] | rw [if_neg (by first | assumption | exact zne (by assumption) | omega)]))))]; exact ⟨rfl, rfl, hV67, (fun r h => by rw [hk67 r (by omega), hk63 r (by omega), hk55 r (by omega), hk54 r (by omega), hk53 r (by omega), hk48 r (by omega)])⟩)
                · refine lv_iload_n hx hb d_Model_opens_143 rfl (lv_at hl 4 rfl) ?_
                  refine lv_iconst (v := iI (1)) hx hb d_Model_opens_144 rfl ?_
                  refine ia_add hx hb d_Model_opens_145 ?_
                  refine lv_goto (tgt := 153) hx hb d_Model_opens_146 (by decide) ?_
                  refine mw_put (ci := 4) (i := 40) (v := .int (iI (op + 1))) (C := R_Model) (T := T_Model) (N := 23) hx hb hts in_Model ty_Model ty_Model_ok nm_Model hown hK hM hS hV63.1 rfl rfl 14 (by decide) (hts _ m_559) rfl (ty_Model_ok 14 (by decide)) rfl rfl (Nat.le_of_ble_eq_true rfl) d_Model_opens_153 (fun κ68 H locs e68 hk68 hM hS => ?_)
                  have e68 : κ68 40 = some (.inr (4, [.int (iI ((mStop 8 a S).f 8)), .ref (L 41), .int (iI ((mStop 8 a S).f 0)), .int (iI ((mStop 8 a S).f 1)), .ref (L 42), .ref (L 43), .ref (L 44), .int (iI ((mStop 8 a S).f 2)), .int (iI ((mStop 8 a S).f 3)), .ref (L 45), .ref (L 46), .ref (L 47), .ref (L 48), .ref (L 49), .int (iI (op + 1)), .int (iI ((mStop 8 a S).f 5)), .int (iI ((mStop 8 a S).f 6)), .ref (L 50), .ref (L 51), .ref (L 52), .ref (L 53), .ref (L 54), .int (iI ((mStop 8 a S).f 7))])) := e68
                  have hV68 : mds g L κ68 ((((((mStop 8 a S).st 9 ((op : Int).toNat) (a + (mLow (S.a 3) a 4))).st 10 ((op : Int).toNat) nd).st 11 ((op : Int).toNat) 0).st 12 ((op : Int).toNat) 1).pf 4 (op + 1)) := mds_pf hV63 e68 hk68 (by first | omega | (split <;> omega))
                  refine lv_iconst (v := iI (1)) hx hb d_Model_opens_156 rfl ?_
                  exact mw_zret (v := true) hx hb hr hM hS hlocks d_Model_opens_157 (by rw [show mOpens a left op nd r S = (true, (((((mStop 8 a S).st 9 ((op : Int).toNat) (a + (mLow (S.a 3) a 4))).st 10 ((op : Int).toNat) nd).st 11 ((op : Int).toNat) 0).st 12 ((op : Int).toNat) 1).pf 4 (op + 1)) by first | (exfalso; omega) | (unfold mOpens; rw [show mOpA a left op S = mStop 8 a S by unfold mOpA; (first | (exfalso; omega) | (repeat (first | rw [if_pos (by first | assumption | omega)] | rw [if_neg (by first | assumption | exact zne (by assumption) | omega)])))]; (first | (exfalso; omega) | (repeat (first | rw [if_pos (by first | assumption | omega)] | rw [if_neg (by first | assumption | exact zne (by assumption) | omega)]))); unfold mOpB; rw [show bI r = 1 by rw [show r = true by assumption]; rfl]; (first | (exfalso; omega) | (repeat (first | rw [if_pos (by first | assumption | omega)] | rw [if_neg (by first | assumption | exact zne (by assumption) | omega)]))))]; exact ⟨rfl, rfl, hV68, (fun r h => by rw [hk68 r (by omega), hk63 r (by omega), hk55 r (by omega), hk54 r (by omega), hk53 r (by omega), hk48 r (by omega)])⟩)
            · refine lv_iconst (v := iI (0)) hx hb d_Model_opens_88 rfl ?_
              exact mw_zret (v := false) hx hb hr hM hS hlocks d_Model_opens_89 (by rw [show mOpens a left op nd r S = (false, mStop 8 a S) by first | (exfalso; omega) | (unfold mOpens; rw [show mOpA a left op S = mStop 8 a S by unfold mOpA; (first | (exfalso; omega) | (repeat (first | rw [if_pos (by first | assumption | omega)] | rw [if_neg (by first | assumption | exact zne (by assumption) | omega)])))]; (first | (exfalso; omega) | (repeat (first | rw [if_pos (by first | assumption | omega)] | rw [if_neg (by first | assumption | exact zne (by assumption) | omega)]))))]; exact ⟨rfl, rfl, hV48, (fun r h => by rw [hk48 r (by omega)])⟩)
        · refine lv_aload_n hx hb d_Model_opens_59 rfl (lv_at hl 1 rfl) ?_
          refine lv_iconst (v := iI (1)) hx hb d_Model_opens_60 rfl ?_
          refine lv_iload_n hx hb d_Model_opens_61 rfl (lv_at hl 2 rfl) ?_
          refine mw_callV (i := 40) (As := [.int (iI 1), .int (iI a)]) (rest := []) ⟨hx, hb, hml, hown, hts⟩ hK hM hS rfl hV.1 rfl (c_Model_stop l D g lo L κ S hV 1 a (by omega) (by omega)) (cwV 2 hts (gV m_638 m_640 m_20 m_58 m_641) rfl rfl rfl (by decide +kernel) ⟨Nat.le_of_ble_eq_true rfl, Nat.le_of_ble_eq_true rfl⟩) rfl hl.1 rfl (Nat.le_of_ble_eq_true rfl) d_Model_opens_62 ⟨Nat.le_of_ble_eq_true rfl, Nat.le_of_ble_eq_true rfl⟩ (fun v69 L69 κ69 H locs hp69 hM hS => ?_)
          obtain ⟨rfl, rfl, hV69, hk69⟩ := hp69
          have r70 := mStop_nz (x := a) (S := S) (show (1 : Int) ≠ 0 by decide)
          have r71 := congrFun (congrFun (mStop_a (y := 1) (x := a) (S := S)) 3)
          refine lv_goto (tgt := 81) hx hb d_Model_opens_65 (by decide) ?_
          refine lv_aload_n hx hb d_Model_opens_81 rfl (lv_at hl 1 rfl) ?_
          refine mw_get (ci := 4) (i := 40) (v := .int (iI ((mStop 1 a S).f 5))) (C := R_Model) (T := T_Model) (N := 23) hx hb hts in_Model hown hK hM hV69.1 rfl rfl 15 (by decide) (hts _ m_560) rfl d_Model_opens_82 ?_
          have r72 : -1000000 ≤ (mStop 1 a S).f 5 ∧ (mStop 1 a S).f 5 ≤ 1000000 := hV69.2.2.2 5
          refine ia_if_eq (a := (mStop 1 a S).f 5) (tgt := 90) hx hb d_Model_opens_85 (by decide) (by omega) (fun c73 => ?_) (fun c73 => ?_)
          · refine lv_aload_n hx hb d_Model_opens_90 rfl (lv_at hl 1 rfl) ?_
            refine mw_get (ci := 4) (i := 40) (v := .ref (L 50)) (C := R_Model) (T := T_Model) (N := 23) hx hb hts in_Model hown hK hM hV69.1 rfl rfl 17 (by decide) (hts _ m_562) rfl d_Model_opens_91 ?_
            refine lv_iload_n hx hb d_Model_opens_94 rfl (lv_at hl 4 rfl) ?_
            refine lv_iload_n hx hb d_Model_opens_95 rfl (lv_at hl 2 rfl) ?_
            refine lv_lload hx hb d_Model_opens_96 (lv_at hl 0 rfl) ?_
            refine ia_l2i hx hb d_Model_opens_98 ?_
            refine ia_add hx hb d_Model_opens_99 ?_
            refine mw_iast (n := 20) (f := (mStop 1 a S).a 9) (a := op) (v := a + (mLow (S.a 3) a 4)) (i := 50) hx hb hK hM hS 1 (hV69.2.1 9 (by decide)) rfl rfl (by omega) (by decide) d_Model_opens_100 (fun κ74 H locs e74 hk74 hM hS => ?_)
            have hV74 : mds g L κ74 ((mStop 1 a S).st 9 ((op : Int).toNat) (a + (mLow (S.a 3) a 4))) := mds_st (k := 9) hV69 (by decide) e74 hk74 (show (-1000000 : Int) ≤ a + (mLow (S.a 3) a 4) ∧ a + (mLow (S.a 3) a 4) ≤ 1000000 by first | omega | (split <;> omega))
            refine lv_aload_n hx hb d_Model_opens_101 rfl (lv_at hl 1 rfl) ?_
            refine mw_get (ci := 4) (i := 40) (v := .ref (L 51)) (C := R_Model) (T := T_Model) (N := 23) hx hb hts in_Model hown hK hM hV74.1 rfl rfl 18 (by decide) (hts _ m_563) rfl d_Model_opens_102 ?_
            refine lv_iload_n hx hb d_Model_opens_105 rfl (lv_at hl 4 rfl) ?_
            refine lv_iload hx hb d_Model_opens_106 (lv_at hl 5 rfl) ?_
            refine mw_iast (n := 20) (f := (mStop 1 a S).a 10) (a := op) (v := nd) (i := 51) hx hb hK hM hS 1 (hV74.2.1 10 (by decide)) rfl rfl (by omega) (by decide) d_Model_opens_108 (fun κ75 H locs e75 hk75 hM hS => ?_)
            have hV75 : mds g L κ75 (((mStop 1 a S).st 9 ((op : Int).toNat) (a + (mLow (S.a 3) a 4))).st 10 ((op : Int).toNat) nd) := mds_st (k := 10) hV74 (by decide) e75 hk75 (show (-1000000 : Int) ≤ nd ∧ nd ≤ 1000000 by first | omega | (split <;> omega))
            refine lv_aload_n hx hb d_Model_opens_109 rfl (lv_at hl 1 rfl) ?_
            refine mw_get (ci := 4) (i := 40) (v := .ref (L 52)) (C := R_Model) (T := T_Model) (N := 23) hx hb hts in_Model hown hK hM hV75.1 rfl rfl 19 (by decide) (hts _ m_564) rfl d_Model_opens_110 ?_
            refine lv_iload_n hx hb d_Model_opens_113 rfl (lv_at hl 4 rfl) ?_
            refine lv_iconst (v := iI (0)) hx hb d_Model_opens_114 rfl ?_
            refine mw_iast (n := 20) (f := (mStop 1 a S).a 11) (a := op) (v := 0) (i := 52) hx hb hK hM hS 1 (hV75.2.1 11 (by decide)) rfl rfl (by omega) (by decide) d_Model_opens_115 (fun κ76 H locs e76 hk76 hM hS => ?_)
            have hV76 : mds g L κ76 ((((mStop 1 a S).st 9 ((op : Int).toNat) (a + (mLow (S.a 3) a 4))).st 10 ((op : Int).toNat) nd).st 11 ((op : Int).toNat) 0) := mds_st (k := 11) hV75 (by decide) e76 hk76 (show (-1000000 : Int) ≤ 0 ∧ 0 ≤ 1000000 by first | omega | (split <;> omega))
            refine lv_aload_n hx hb d_Model_opens_116 rfl (lv_at hl 1 rfl) ?_
            refine mw_get (ci := 4) (i := 40) (v := .ref (L 53)) (C := R_Model) (T := T_Model) (N := 23) hx hb hts in_Model hown hK hM hV76.1 rfl rfl 20 (by decide) (hts _ m_565) rfl d_Model_opens_117 ?_
            refine lv_iload_n hx hb d_Model_opens_120 rfl (lv_at hl 4 rfl) ?_
            refine lv_iload hx hb d_Model_opens_121 (lv_at hl 6 rfl) ?_
            refine ia_ifz_eq (x := r) (tgt := 130) hx hb d_Model_opens_123 (by decide) (fun c77 => ?_) (fun c77 => ?_)
            · refine lv_iconst (v := iI (0)) hx hb d_Model_opens_130 rfl ?_
              refine mw_iast (n := 20) (f := (mStop 1 a S).a 12) (a := op) (v := 0) (i := 53) hx hb hK hM hS 1 (hV76.2.1 12 (by decide)) rfl rfl (by omega) (by decide) d_Model_opens_131 (fun κ78 H locs e78 hk78 hM hS => ?_)
              have hV78 : mds g L κ78 (((((mStop 1 a S).st 9 ((op : Int).toNat) (a + (mLow (S.a 3) a 4))).st 10 ((op : Int).toNat) nd).st 11 ((op : Int).toNat) 0).st 12 ((op : Int).toNat) 0) := mds_st (k := 12) hV76 (by decide) e78 hk78 (show (-1000000 : Int) ≤ 0 ∧ 0 ≤ 1000000 by first | omega | (split <;> omega))
              refine lv_aload_n hx hb d_Model_opens_132 rfl (lv_at hl 1 rfl) ?_
              refine lv_iload_n hx hb d_Model_opens_133 rfl (lv_at hl 4 rfl) ?_
              refine lv_iconst (v := iI (1)) hx hb d_Model_opens_134 rfl ?_
              refine ia_add hx hb d_Model_opens_135 ?_
              refine lv_aload_n hx hb d_Model_opens_136 rfl (lv_at hl 1 rfl) ?_
              refine mw_get (ci := 4) (i := 40) (v := .int (iI ((mStop 1 a S).f 4))) (C := R_Model) (T := T_Model) (N := 23) hx hb hts in_Model hown hK hM hV78.1 rfl rfl 14 (by decide) (hts _ m_559) rfl d_Model_opens_137 ?_
              have r79 : -1000000 ≤ (mStop 1 a S).f 4 ∧ (mStop 1 a S).f 4 ≤ 1000000 := hV78.2.2.2 4
              refine ia_icmp_le (a := op + 1) (b := (mStop 1 a S).f 4) (tgt := 149) hx hb d_Model_opens_140 (by decide) (by omega) (by omega) (fun c80 => ?_) (fun c80 => ?_)
              · refine lv_aload_n hx hb d_Model_opens_149 rfl (lv_at hl 1 rfl) ?_
                refine mw_get (ci := 4) (i := 40) (v := .int (iI ((mStop 1 a S).f 4))) (C := R_Model) (T := T_Model) (N := 23) hx hb hts in_Model hown hK hM hV78.1 rfl rfl 14 (by decide) (hts _ m_559) rfl d_Model_opens_150 ?_
                have r81 : -1000000 ≤ (mStop 1 a S).f 4 ∧ (mStop 1 a S).f 4 ≤ 1000000 := hV78.2.2.2 4
                refine mw_put (ci := 4) (i := 40) (v := .int (iI ((mStop 1 a S).f 4))) (C := R_Model) (T := T_Model) (N := 23) hx hb hts in_Model ty_Model ty_Model_ok nm_Model hown hK hM hS hV78.1 rfl rfl 14 (by decide) (hts _ m_559) rfl (ty_Model_ok 14 (by decide)) rfl rfl (Nat.le_of_ble_eq_true rfl) d_Model_opens_153 (fun κ82 H locs e82 hk82 hM hS => ?_)
                have e82 : κ82 40 = some (.inr (4, [.int (iI ((mStop 1 a S).f 8)), .ref (L 41), .int (iI ((mStop 1 a S).f 0)), .int (iI ((mStop 1 a S).f 1)), .ref (L 42), .ref (L 43), .ref (L 44), .int (iI ((mStop 1 a S).f 2)), .int (iI ((mStop 1 a S).f 3)), .ref (L 45), .ref (L 46), .ref (L 47), .ref (L 48), .ref (L 49), .int (iI ((mStop 1 a S).f 4)), .int (iI ((mStop 1 a S).f 5)), .int (iI ((mStop 1 a S).f 6)), .ref (L 50), .ref (L 51), .ref (L 52), .ref (L 53), .ref (L 54), .int (iI ((mStop 1 a S).f 7))])) := e82
                have hV82 : mds g L κ82 ((((((mStop 1 a S).st 9 ((op : Int).toNat) (a + (mLow (S.a 3) a 4))).st 10 ((op : Int).toNat) nd).st 11 ((op : Int).toNat) 0).st 12 ((op : Int).toNat) 0).pf 4 ((mStop 1 a S).f 4)) := mds_pf hV78 e82 hk82 (by first | omega | (split <;> omega))
                refine lv_iconst (v := iI (1)) hx hb d_Model_opens_156 rfl ?_
                exact mw_zret (v := true) hx hb hr hM hS hlocks d_Model_opens_157 (by rw [show mOpens a left op nd r S = (true, (((((mStop 1 a S).st 9 ((op : Int).toNat) (a + (mLow (S.a 3) a 4))).st 10 ((op : Int).toNat) nd).st 11 ((op : Int).toNat) 0).st 12 ((op : Int).toNat) 0).pf 4 ((mStop 1 a S).f 4)) by first | (exfalso; omega) | (unfold mOpens; rw [show mOpA a left op S = mStop 1 a S by unfold mOpA; (first | (exfalso; omega) | (repeat (first | rw [if_pos (by first | assumption | omega)] | rw [if_neg (by first | assumption | exact zne (by assumption) | omega)])))]; (first | (exfalso; omega) | (repeat (first | rw [if_pos (by first | assumption | omega)] | rw [if_neg (by first | assumption | exact zne (by assumption) | omega)]))); unfold mOpB; rw [show bI r = 0 by rw [show r = false by assumption]; rfl]; (first | (exfalso; omega) | (repeat (first | rw [if_pos (by first | assumption | omega)] | rw [if_neg (by first | assumption | exact zne (by assumption) | omega)]))))]; exact ⟨rfl, rfl, hV82, (fun r h => by rw [hk82 r (by omega), hk78 r (by omega), hk76 r (by omega), hk75 r (by omega), hk74 r (by omega), hk69 r (by omega)])⟩)
              · refine lv_iload_n hx hb d_Model_opens_143 rfl (lv_at hl 4 rfl) ?_
                refine lv_iconst (v := iI (1)) hx hb d_Model_opens_144 rfl ?_
                refine ia_add hx hb d_Model_opens_145 ?_
                refine lv_goto (tgt := 153) hx hb d_Model_opens_146 (by decide) ?_
                refine mw_put (ci := 4) (i := 40) (v := .int (iI (op + 1))) (C := R_Model) (T := T_Model) (N := 23) hx hb hts in_Model ty_Model ty_Model_ok nm_Model hown hK hM hS hV78.1 rfl rfl 14 (by decide) (hts _ m_559) rfl (ty_Model_ok 14 (by decide)) rfl rfl (Nat.le_of_ble_eq_true rfl) d_Model_opens_153 (fun κ83 H locs e83 hk83 hM hS => ?_)
                have e83 : κ83 40 = some (.inr (4, [.int (iI ((mStop 1 a S).f 8)), .ref (L 41), .int (iI ((mStop 1 a S).f 0)), .int (iI ((mStop 1 a S).f 1)), .ref (L 42), .ref (L 43), .ref (L 44), .int (iI ((mStop 1 a S).f 2)), .int (iI ((mStop 1 a S).f 3)), .ref (L 45), .ref (L 46), .ref (L 47), .ref (L 48), .ref (L 49), .int (iI (op + 1)), .int (iI ((mStop 1 a S).f 5)), .int (iI ((mStop 1 a S).f 6)), .ref (L 50), .ref (L 51), .ref (L 52), .ref (L 53), .ref (L 54), .int (iI ((mStop 1 a S).f 7))])) := e83
                have hV83 : mds g L κ83 ((((((mStop 1 a S).st 9 ((op : Int).toNat) (a + (mLow (S.a 3) a 4))).st 10 ((op : Int).toNat) nd).st 11 ((op : Int).toNat) 0).st 12 ((op : Int).toNat) 0).pf 4 (op + 1)) := mds_pf hV78 e83 hk83 (by first | omega | (split <;> omega))
                refine lv_iconst (v := iI (1)) hx hb d_Model_opens_156 rfl ?_
                exact mw_zret (v := true) hx hb hr hM hS hlocks d_Model_opens_157 (by rw [show mOpens a left op nd r S = (true, (((((mStop 1 a S).st 9 ((op : Int).toNat) (a + (mLow (S.a 3) a 4))).st 10 ((op : Int).toNat) nd).st 11 ((op : Int).toNat) 0).st 12 ((op : Int).toNat) 0).pf 4 (op + 1)) by first | (exfalso; omega) | (unfold mOpens; rw [show mOpA a left op S = mStop 1 a S by unfold mOpA; (first | (exfalso; omega) | (repeat (first | rw [if_pos (by first | assumption | omega)] | rw [if_neg (by first | assumption | exact zne (by assumption) | omega)])))]; (first | (exfalso; omega) | (repeat (first | rw [if_pos (by first | assumption | omega)] | rw [if_neg (by first | assumption | exact zne (by assumption) | omega)]))); unfold mOpB; rw [show bI r = 0 by rw [show r = false by assumption]; rfl]; (first | (exfalso; omega) | (repeat (first | rw [if_pos (by first | assumption | omega)] | rw [if_neg (by first | assumption | exact zne (by assumption) | omega)]))))]; exact ⟨rfl, rfl, hV83, (fun r h => by rw [hk83 r (by omega), hk78 r (by omega), hk76 r (by omega), hk75 r (by omega), hk74 r (by omega), hk69 r (by omega)])⟩)
            · refine lv_iconst (v := iI (1)) hx hb d_Model_opens_126 rfl ?_
              refine lv_goto (tgt := 131) hx hb d_Model_opens_127 (by decide) ?_
              refine mw_iast (n := 20) (f := (mStop 1 a S).a 12) (a := op) (v := 1) (i := 53) hx hb hK hM hS 1 (hV76.2.1 12 (by decide)) rfl rfl (by omega) (by decide) d_Model_opens_131 (fun κ84 H locs e84 hk84 hM hS => ?_)
              have hV84 : mds g L κ84 (((((mStop 1 a S).st 9 ((op : Int).toNat) (a + (mLow (S.a 3) a 4))).st 10 ((op : Int).toNat) nd).st 11 ((op : Int).toNat) 0).st 12 ((op : Int).toNat) 1) := mds_st (k := 12) hV76 (by decide) e84 hk84 (show (-1000000 : Int) ≤ 1 ∧ 1 ≤ 1000000 by first | omega | (split <;> omega))
              refine lv_aload_n hx hb d_Model_opens_132 rfl (lv_at hl 1 rfl) ?_
              refine lv_iload_n hx hb d_Model_opens_133 rfl (lv_at hl 4 rfl) ?_
              refine lv_iconst (v := iI (1)) hx hb d_Model_opens_134 rfl ?_
              refine ia_add hx hb d_Model_opens_135 ?_
              refine lv_aload_n hx hb d_Model_opens_136 rfl (lv_at hl 1 rfl) ?_
              refine mw_get (ci := 4) (i := 40) (v := .int (iI ((mStop 1 a S).f 4))) (C := R_Model) (T := T_Model) (N := 23) hx hb hts in_Model hown hK hM hV84.1 rfl rfl 14 (by decide) (hts _ m_559) rfl d_Model_opens_137 ?_
              have r85 : -1000000 ≤ (mStop 1 a S).f 4 ∧ (mStop 1 a S).f 4 ≤ 1000000 := hV84.2.2.2 4
              refine ia_icmp_le (a := op + 1) (b := (mStop 1 a S).f 4) (tgt := 149) hx hb d_Model_opens_140 (by decide) (by omega) (by omega) (fun c86 => ?_) (fun c86 => ?_)
              · refine lv_aload_n hx hb d_Model_opens_149 rfl (lv_at hl 1 rfl) ?_
                refine mw_get (ci := 4) (i := 40) (v := .int (iI ((mStop 1 a S).f 4))) (C := R_Model) (T := T_Model) (N := 23) hx hb hts in_Model hown hK hM hV84.1 rfl rfl 14 (by decide) (hts _ m_559) rfl d_Model_opens_150 ?_
                have r87 : -1000000 ≤ (mStop 1 a S).f 4 ∧ (mStop 1 a S).f 4 ≤ 1000000 := hV84.2.2.2 4
                refine mw_put (ci := 4) (i := 40) (v := .int (iI ((mStop 1 a S).f 4))) (C := R_Model) (T := T_Model) (N := 23) hx hb hts in_Model ty_Model ty_Model_ok nm_Model hown hK hM hS hV84.1 rfl rfl 14 (by decide) (hts _ m_559) rfl (ty_Model_ok 14 (by decide)) rfl rfl (Nat.le_of_ble_eq_true rfl) d_Model_opens_153 (fun κ88 H locs e88 hk88 hM hS => ?_)
                have e88 : κ88 40 = some (.inr (4, [.int (iI ((mStop 1 a S).f 8)), .ref (L 41), .int (iI ((mStop 1 a S).f 0)), .int (iI ((mStop 1 a S).f 1)), .ref (L 42), .ref (L 43), .ref (L 44), .int (iI ((mStop 1 a S).f 2)), .int (iI ((mStop 1 a S).f 3)), .ref (L 45), .ref (L 46), .ref (L 47), .ref (L 48), .ref (L 49), .int (iI ((mStop 1 a S).f 4)), .int (iI ((mStop 1 a S).f 5)), .int (iI ((mStop 1 a S).f 6)), .ref (L 50), .ref (L 51), .ref (L 52), .ref (L 53), .ref (L 54), .int (iI ((mStop 1 a S).f 7))])) := e88
                have hV88 : mds g L κ88 ((((((mStop 1 a S).st 9 ((op : Int).toNat) (a + (mLow (S.a 3) a 4))).st 10 ((op : Int).toNat) nd).st 11 ((op : Int).toNat) 0).st 12 ((op : Int).toNat) 1).pf 4 ((mStop 1 a S).f 4)) := mds_pf hV84 e88 hk88 (by first | omega | (split <;> omega))
                refine lv_iconst (v := iI (1)) hx hb d_Model_opens_156 rfl ?_
                exact mw_zret (v := true) hx hb hr hM hS hlocks d_Model_opens_157 (by rw [show mOpens a left op nd r S = (true, (((((mStop 1 a S).st 9 ((op : Int).toNat) (a + (mLow (S.a 3) a 4))).st 10 ((op : Int).toNat) nd).st 11 ((op : Int).toNat) 0).st 12 ((op : Int).toNat) 1).pf 4 ((mStop 1 a S).f 4)) by first | (exfalso; omega) | (unfold mOpens; rw [show mOpA a left op S = mStop 1 a S by unfold mOpA; (first | (exfalso; omega) | (repeat (first | rw [if_pos (by first | assumption | omega)] | rw [if_neg (by first | assumption | exact zne (by assumption) | omega)])))]; (first | (exfalso; omega) | (repeat (first | rw [if_pos (by first | assumption | omega)] | rw [if_neg (by first | assumption | exact zne (by assumption) | omega)]))); unfold mOpB; rw [show bI r = 1 by rw [show r = true by assumption]; rfl]; (first | (exfalso; omega) | (repeat (first | rw [if_pos (by first | assumption | omega)] | rw [if_neg (by first | assumption | exact zne (by assumption) | omega)]))))]; exact ⟨rfl, rfl, hV88, (fun r h => by rw [hk88 r (by omega), hk84 r (by omega), hk76 r (by omega), hk75 r (by omega), hk74 r (by omega), hk69 r (by omega)])⟩)
              · refine lv_iload_n hx hb d_Model_opens_143 rfl (lv_at hl 4 rfl) ?_
                refine lv_iconst (v := iI (1)) hx hb d_Model_opens_144 rfl ?_
                refine ia_add hx hb d_Model_opens_145 ?_
                refine lv_goto (tgt := 153) hx hb d_Model_opens_146 (by decide) ?_
                refine mw_put (ci := 4) (i := 40) (v := .int (iI (op + 1))) (C := R_Model) (T := T_Model) (N := 23) hx hb hts in_Model ty_Model ty_Model_ok nm_Model hown hK hM hS hV84.1 rfl rfl 14 (by decide) (hts _ m_559) rfl (ty_Model_ok 14 (by decide)) rfl rfl (Nat.le_of_ble_eq_true rfl) d_Model_opens_153 (fun κ89 H locs e89 hk89 hM hS => ?_)
                have e89 : κ89 40 = some (.inr (4, [.int (iI ((mStop 1 a S).f 8)), .ref (L 41), .int (iI ((mStop 1 a S).f 0)), .int (iI ((mStop 1 a S).f 1)), .ref (L 42), .ref (L 43), .ref (L 44), .int (iI ((mStop 1 a S).f 2)), .int (iI ((mStop 1 a S).f 3)), .ref (L 45), .ref (L 46), .ref (L 47), .ref (L 48), .ref (L 49), .int (iI (op + 1)), .int (iI ((mStop 1 a S).f 5)), .int (iI ((mStop 1 a S).f 6)), .ref (L 50), .ref (L 51), .ref (L 52), .ref (L 53), .ref (L 54), .int (iI ((mStop 1 a S).f 7))])) := e89
                have hV89 : mds g L κ89 ((((((mStop 1 a S).st 9 ((op : Int).toNat) (a + (mLow (S.a 3) a 4))).st 10 ((op : Int).toNat) nd).st 11 ((op : Int).toNat) 0).st 12 ((op : Int).toNat) 1).pf 4 (op + 1)) := mds_pf hV84 e89 hk89 (by first | omega | (split <;> omega))
                refine lv_iconst (v := iI (1)) hx hb d_Model_opens_156 rfl ?_
                exact mw_zret (v := true) hx hb hr hM hS hlocks d_Model_opens_157 (by rw [show mOpens a left op nd r S = (true, (((((mStop 1 a S).st 9 ((op : Int).toNat) (a + (mLow (S.a 3) a 4))).st 10 ((op : Int).toNat) nd).st 11 ((op : Int).toNat) 0).st 12 ((op : Int).toNat) 1).pf 4 (op + 1)) by first | (exfalso; omega) | (unfold mOpens; rw [show mOpA a left op S = mStop 1 a S by unfold mOpA; (first | (exfalso; omega) | (repeat (first | rw [if_pos (by first | assumption | omega)] | rw [if_neg (by first | assumption | exact zne (by assumption) | omega)])))]; (first | (exfalso; omega) | (repeat (first | rw [if_pos (by first | assumption | omega)] | rw [if_neg (by first | assumption | exact zne (by assumption) | omega)]))); unfold mOpB; rw [show bI r = 1 by rw [show r = true by assumption]; rfl]; (first | (exfalso; omega) | (repeat (first | rw [if_pos (by first | assumption | omega)] | rw [if_neg (by first | assumption | exact zne (by assumption) | omega)]))))]; exact ⟨rfl, rfl, hV89, (fun r h => by rw [hk89 r (by omega), hk84 r (by omega), hk76 r (by omega), hk75 r (by omega), hk74 r (by omega), hk69 r (by omega)])⟩)
          · refine lv_iconst (v := iI (0)) hx hb d_Model_opens_88 rfl ?_
            exact mw_zret (v := false) hx hb hr hM hS hlocks d_Model_opens_89 (by rw [show mOpens a left op nd r S = (false, mStop 1 a S) by first | (exfalso; omega) | (unfold mOpens; rw [show mOpA a left op S = mStop 1 a S by unfold mOpA; (first | (exfalso; omega) | (repeat (first | rw [if_pos (by first | assumption | omega)] | rw [if_neg (by first | assumption | exact zne (by assumption) | omega)])))]; (first | (exfalso; omega) | (repeat (first | rw [if_pos (by first | assumption | omega)] | rw [if_neg (by first | assumption | exact zne (by assumption) | omega)]))))]; exact ⟨rfl, rfl, hV69, (fun r h => by rw [hk69 r (by omega)])⟩)
      · refine lv_lload hx hb d_Model_opens_34 (lv_at hl 0 rfl) ?_
        refine lv_iload_n hx hb d_Model_opens_36 rfl (lv_at hl 3 rfl) ?_
        refine ia_i2l hx hb (by omega) d_Model_opens_37 ?_
        refine ia_lcmp (a := mLow (S.a 3) a 4) (b := left) hx hb (by omega) (by omega) d_Model_opens_38 ?_
        have r90 := cmpI_s (mLow (S.a 3) a 4) left
        refine ia_if_ge (a := cmpI (mLow (S.a 3) a 4) left) (tgt := 51) hx hb d_Model_opens_39 (by decide) (by omega) (fun c91 => ?_) (fun c91 => ?_)
        · refine lv_lload hx hb d_Model_opens_51 (lv_at hl 0 rfl) ?_
          refine lv_iload_n hx hb d_Model_opens_53 rfl (lv_at hl 3 rfl) ?_
          refine ia_i2l hx hb (by omega) d_Model_opens_54 ?_
          refine ia_lcmp (a := mLow (S.a 3) a 4) (b := left) hx hb (by omega) (by omega) d_Model_opens_55 ?_
          have r92 := cmpI_s (mLow (S.a 3) a 4) left
          refine ia_if_le (a := cmpI (mLow (S.a 3) a 4) left) (tgt := 68) hx hb d_Model_opens_56 (by decide) (by omega) (fun c93 => ?_) (fun c93 => ?_)
          · refine lv_iload_n hx hb d_Model_opens_68 rfl (lv_at hl 4 rfl) ?_
            refine lv_bipush (v := iI (16)) hx hb d_Model_opens_69 (by decide) ?_
            refine ia_icmp_ne (a := op) (b := 16) (tgt := 81) hx hb d_Model_opens_71 (by decide) (by omega) (by omega) (fun c94 => ?_) (fun c94 => ?_)
            · refine lv_aload_n hx hb d_Model_opens_81 rfl (lv_at hl 1 rfl) ?_
              refine mw_get (ci := 4) (i := 40) (v := .int (iI (S.f 5))) (C := R_Model) (T := T_Model) (N := 23) hx hb hts in_Model hown hK hM hV.1 rfl rfl 15 (by decide) (hts _ m_560) rfl d_Model_opens_82 ?_
              have r95 : -1000000 ≤ S.f 5 ∧ S.f 5 ≤ 1000000 := hV.2.2.2 5
              refine ia_if_eq (a := S.f 5) (tgt := 90) hx hb d_Model_opens_85 (by decide) (by omega) (fun c96 => ?_) (fun c96 => ?_)
              · refine lv_aload_n hx hb d_Model_opens_90 rfl (lv_at hl 1 rfl) ?_
                refine mw_get (ci := 4) (i := 40) (v := .ref (L 50)) (C := R_Model) (T := T_Model) (N := 23) hx hb hts in_Model hown hK hM hV.1 rfl rfl 17 (by decide) (hts _ m_562) rfl d_Model_opens_91 ?_
                refine lv_iload_n hx hb d_Model_opens_94 rfl (lv_at hl 4 rfl) ?_
                refine lv_iload_n hx hb d_Model_opens_95 rfl (lv_at hl 2 rfl) ?_
                refine lv_lload hx hb d_Model_opens_96 (lv_at hl 0 rfl) ?_
                refine ia_l2i hx hb d_Model_opens_98 ?_
                refine ia_add hx hb d_Model_opens_99 ?_
                refine mw_iast (n := 20) (f := S.a 9) (a := op) (v := a + (mLow (S.a 3) a 4)) (i := 50) hx hb hK hM hS 1 (hV.2.1 9 (by decide)) rfl rfl (by omega) (by decide) d_Model_opens_100 (fun κ97 H locs e97 hk97 hM hS => ?_)
                have hV97 : mds g L κ97 (S.st 9 ((op : Int).toNat) (a + (mLow (S.a 3) a 4))) := mds_st (k := 9) hV (by decide) e97 hk97 (show (-1000000 : Int) ≤ a + (mLow (S.a 3) a 4) ∧ a + (mLow (S.a 3) a 4) ≤ 1000000 by first | omega | (split <;> omega))
                refine lv_aload_n hx hb d_Model_opens_101 rfl (lv_at hl 1 rfl) ?_
                refine mw_get (ci := 4) (i := 40) (v := .ref (L 51)) (C := R_Model) (T := T_Model) (N := 23) hx hb hts in_Model hown hK hM hV97.1 rfl rfl 18 (by decide) (hts _ m_563) rfl d_Model_opens_102 ?_
                refine lv_iload_n hx hb d_Model_opens_105 rfl (lv_at hl 4 rfl) ?_
                refine lv_iload hx hb d_Model_opens_106 (lv_at hl 5 rfl) ?_
                refine mw_iast (n := 20) (f := S.a 10) (a := op) (v := nd) (i := 51) hx hb hK hM hS 1 (hV97.2.1 10 (by decide)) rfl rfl (by omega) (by decide) d_Model_opens_108 (fun κ98 H locs e98 hk98 hM hS => ?_)
                have hV98 : mds g L κ98 ((S.st 9 ((op : Int).toNat) (a + (mLow (S.a 3) a 4))).st 10 ((op : Int).toNat) nd) := mds_st (k := 10) hV97 (by decide) e98 hk98 (show (-1000000 : Int) ≤ nd ∧ nd ≤ 1000000 by first | omega | (split <;> omega))
                refine lv_aload_n hx hb d_Model_opens_109 rfl (lv_at hl 1 rfl) ?_
                refine mw_get (ci := 4) (i := 40) (v := .ref (L 52)) (C := R_Model) (T := T_Model) (N := 23) hx hb hts in_Model hown hK hM hV98.1 rfl rfl 19 (by decide) (hts _ m_564) rfl d_Model_opens_110 ?_
                refine lv_iload_n hx hb d_Model_opens_113 rfl (lv_at hl 4 rfl) ?_
                refine lv_iconst (v := iI (0)) hx hb d_Model_opens_114 rfl ?_
                refine mw_iast (n := 20) (f := S.a 11) (a := op) (v := 0) (i := 52) hx hb hK hM hS 1 (hV98.2.1 11 (by decide)) rfl rfl (by omega) (by decide) d_Model_opens_115 (fun κ99 H locs e99 hk99 hM hS => ?_)
                have hV99 : mds g L κ99 (((S.st 9 ((op : Int).toNat) (a + (mLow (S.a 3) a 4))).st 10 ((op : Int).toNat) nd).st 11 ((op : Int).toNat) 0) := mds_st (k := 11) hV98 (by decide) e99 hk99 (show (-1000000 : Int) ≤ 0 ∧ 0 ≤ 1000000 by first | omega | (split <;> omega))
                refine lv_aload_n hx hb d_Model_opens_116 rfl (lv_at hl 1 rfl) ?_
                refine mw_get (ci := 4) (i := 40) (v := .ref (L 53)) (C := R_Model) (T := T_Model) (N := 23) hx hb hts in_Model hown hK hM hV99.1 rfl rfl 20 (by decide) (hts _ m_565) rfl d_Model_opens_117 ?_
                refine lv_iload_n hx hb d_Model_opens_120 rfl (lv_at hl 4 rfl) ?_
                refine lv_iload hx hb d_Model_opens_121 (lv_at hl 6 rfl) ?_
                refine ia_ifz_eq (x := r) (tgt := 130) hx hb d_Model_opens_123 (by decide) (fun c100 => ?_) (fun c100 => ?_)
                · refine lv_iconst (v := iI (0)) hx hb d_Model_opens_130 rfl ?_
                  refine mw_iast (n := 20) (f := S.a 12) (a := op) (v := 0) (i := 53) hx hb hK hM hS 1 (hV99.2.1 12 (by decide)) rfl rfl (by omega) (by decide) d_Model_opens_131 (fun κ101 H locs e101 hk101 hM hS => ?_)
                  have hV101 : mds g L κ101 ((((S.st 9 ((op : Int).toNat) (a + (mLow (S.a 3) a 4))).st 10 ((op : Int).toNat) nd).st 11 ((op : Int).toNat) 0).st 12 ((op : Int).toNat) 0) := mds_st (k := 12) hV99 (by decide) e101 hk101 (show (-1000000 : Int) ≤ 0 ∧ 0 ≤ 1000000 by first | omega | (split <;> omega))
                  refine lv_aload_n hx hb d_Model_opens_132 rfl (lv_at hl 1 rfl) ?_
                  refine lv_iload_n hx hb d_Model_opens_133 rfl (lv_at hl 4 rfl) ?_
                  refine lv_iconst (v := iI (1)) hx hb d_Model_opens_134 rfl ?_
                  refine ia_add hx hb d_Model_opens_135 ?_
                  refine lv_aload_n hx hb d_Model_opens_136 rfl (lv_at hl 1 rfl) ?_
                  refine mw_get (ci := 4) (i := 40) (v := .int (iI (S.f 4))) (C := R_Model) (T := T_Model) (N := 23) hx hb hts in_Model hown hK hM hV101.1 rfl rfl 14 (by decide) (hts _ m_559) rfl d_Model_opens_137 ?_
                  have r102 : -1000000 ≤ S.f 4 ∧ S.f 4 ≤ 1000000 := hV101.2.2.2 4
                  refine ia_icmp_le (a := op + 1) (b := S.f 4) (tgt := 149) hx hb d_Model_opens_140 (by decide) (by omega) (by omega) (fun c103 => ?_) (fun c103 => ?_)
                  · refine lv_aload_n hx hb d_Model_opens_149 rfl (lv_at hl 1 rfl) ?_
                    refine mw_get (ci := 4) (i := 40) (v := .int (iI (S.f 4))) (C := R_Model) (T := T_Model) (N := 23) hx hb hts in_Model hown hK hM hV101.1 rfl rfl 14 (by decide) (hts _ m_559) rfl d_Model_opens_150 ?_
                    have r104 : -1000000 ≤ S.f 4 ∧ S.f 4 ≤ 1000000 := hV101.2.2.2 4
                    refine mw_put (ci := 4) (i := 40) (v := .int (iI (S.f 4))) (C := R_Model) (T := T_Model) (N := 23) hx hb hts in_Model ty_Model ty_Model_ok nm_Model hown hK hM hS hV101.1 rfl rfl 14 (by decide) (hts _ m_559) rfl (ty_Model_ok 14 (by decide)) rfl rfl (Nat.le_of_ble_eq_true rfl) d_Model_opens_153 (fun κ105 H locs e105 hk105 hM hS => ?_)
                    have e105 : κ105 40 = some (.inr (4, [.int (iI (S.f 8)), .ref (L 41), .int (iI (S.f 0)), .int (iI (S.f 1)), .ref (L 42), .ref (L 43), .ref (L 44), .int (iI (S.f 2)), .int (iI (S.f 3)), .ref (L 45), .ref (L 46), .ref (L 47), .ref (L 48), .ref (L 49), .int (iI (S.f 4)), .int (iI (S.f 5)), .int (iI (S.f 6)), .ref (L 50), .ref (L 51), .ref (L 52), .ref (L 53), .ref (L 54), .int (iI (S.f 7))])) := e105
                    have hV105 : mds g L κ105 (((((S.st 9 ((op : Int).toNat) (a + (mLow (S.a 3) a 4))).st 10 ((op : Int).toNat) nd).st 11 ((op : Int).toNat) 0).st 12 ((op : Int).toNat) 0).pf 4 (S.f 4)) := mds_pf hV101 e105 hk105 (by first | omega | (split <;> omega))
                    refine lv_iconst (v := iI (1)) hx hb d_Model_opens_156 rfl ?_
                    exact mw_zret (v := true) hx hb hr hM hS hlocks d_Model_opens_157 (by rw [show mOpens a left op nd r S = (true, ((((S.st 9 ((op : Int).toNat) (a + (mLow (S.a 3) a 4))).st 10 ((op : Int).toNat) nd).st 11 ((op : Int).toNat) 0).st 12 ((op : Int).toNat) 0).pf 4 (S.f 4)) by first | (exfalso; omega) | (unfold mOpens; rw [show mOpA a left op S = S by unfold mOpA; (first | (exfalso; omega) | (repeat (first | rw [if_pos (by first | assumption | omega)] | rw [if_neg (by first | assumption | exact zne (by assumption) | omega)])))]; (first | (exfalso; omega) | (repeat (first | rw [if_pos (by first | assumption | omega)] | rw [if_neg (by first | assumption | exact zne (by assumption) | omega)]))); unfold mOpB; rw [show bI r = 0 by rw [show r = false by assumption]; rfl]; (first | (exfalso; omega) | (repeat (first | rw [if_pos (by first | assumption | omega)] | rw [if_neg (by first | assumption | exact zne (by assumption) | omega)]))))]; exact ⟨rfl, rfl, hV105, (fun r h => by rw [hk105 r (by omega), hk101 r (by omega), hk99 r (by omega), hk98 r (by omega), hk97 r (by omega)])⟩)
                  · refine lv_iload_n hx hb d_Model_opens_143 rfl (lv_at hl 4 rfl) ?_
                    refine lv_iconst (v := iI (1)) hx hb d_Model_opens_144 rfl ?_
                    refine ia_add hx hb d_Model_opens_145 ?_
                    refine lv_goto (tgt := 153) hx hb d_Model_opens_146 (by decide) ?_
                    refine mw_put (ci := 4) (i := 40) (v := .int (iI (op + 1))) (C := R_Model) (T := T_Model) (N := 23) hx hb hts in_Model ty_Model ty_Model_ok nm_Model hown hK hM hS hV101.1 rfl rfl 14 (by decide) (hts _ m_559) rfl (ty_Model_ok 14 (by decide)) rfl rfl (Nat.le_of_ble_eq_true rfl) d_Model_opens_153 (fun κ106 H locs e106 hk106 hM hS => ?_)
                    have e106 : κ106 40 = some (.inr (4, [.int (iI (S.f 8)), .ref (L 41), .int (iI (S.f 0)), .int (iI (S.f 1)), .ref (L 42), .ref (L 43), .ref (L 44), .int (iI (S.f 2)), .int (iI (S.f 3)), .ref (L 45), .ref (L 46), .ref (L 47), .ref (L 48), .ref (L 49), .int (iI (op + 1)), .int (iI (S.f 5)), .int (iI (S.f 6)), .ref (L 50), .ref (L 51), .ref (L 52), .ref (L 53), .ref (L 54), .int (iI (S.f 7))])) := e106
                    have hV106 : mds g L κ106 (((((S.st 9 ((op : Int).toNat) (a + (mLow (S.a 3) a 4))).st 10 ((op : Int).toNat) nd).st 11 ((op : Int).toNat) 0).st 12 ((op : Int).toNat) 0).pf 4 (op + 1)) := mds_pf hV101 e106 hk106 (by first | omega | (split <;> omega))
                    refine lv_iconst (v := iI (1)) hx hb d_Model_opens_156 rfl ?_
                    exact mw_zret (v := true) hx hb hr hM hS hlocks d_Model_opens_157 (by rw [show mOpens a left op nd r S = (true, ((((S.st 9 ((op : Int).toNat) (a + (mLow (S.a 3) a 4))).st 10 ((op : Int).toNat) nd).st 11 ((op : Int).toNat) 0).st 12 ((op : Int).toNat) 0).pf 4 (op + 1)) by first | (exfalso; omega) | (unfold mOpens; rw [show mOpA a left op S = S by unfold mOpA; (first | (exfalso; omega) | (repeat (first | rw [if_pos (by first | assumption | omega)] | rw [if_neg (by first | assumption | exact zne (by assumption) | omega)])))]; (first | (exfalso; omega) | (repeat (first | rw [if_pos (by first | assumption | omega)] | rw [if_neg (by first | assumption | exact zne (by assumption) | omega)]))); unfold mOpB; rw [show bI r = 0 by rw [show r = false by assumption]; rfl]; (first | (exfalso; omega) | (repeat (first | rw [if_pos (by first | assumption | omega)] | rw [if_neg (by first | assumption | exact zne (by assumption) | omega)]))))]; exact ⟨rfl, rfl, hV106, (fun r h => by rw [hk106 r (by omega), hk101 r (by omega), hk99 r (by omega), hk98 r (by omega), hk97 r (by omega)])⟩)
                · refine lv_iconst (v := iI (1)) hx hb d_Model_opens_126 rfl ?_
                  refine lv_goto (tgt := 131) hx hb d_Model_opens_127 (by decide) ?_
                  refine mw_iast (n := 20) (f := S.a 12) (a := op) (v := 1) (i := 53) hx hb hK hM hS 1 (hV99.2.1 12 (by decide)) rfl rfl (by omega) (by decide) d_Model_opens_131 (fun κ107 H locs e107 hk107 hM hS => ?_)
                  have hV107 : mds g L κ107 ((((S.st 9 ((op : Int).toNat) (a + (mLow (S.a 3) a 4))).st 10 ((op : Int).toNat) nd).st 11 ((op : Int).toNat) 0).st 12 ((op : Int).toNat) 1) := mds_st (k := 12) hV99 (by decide) e107 hk107 (show (-1000000 : Int) ≤ 1 ∧ 1 ≤ 1000000 by first | omega | (split <;> omega))
                  refine lv_aload_n hx hb d_Model_opens_132 rfl (lv_at hl 1 rfl) ?_
                  refine lv_iload_n hx hb d_Model_opens_133 rfl (lv_at hl 4 rfl) ?_
                  refine lv_iconst (v := iI (1)) hx hb d_Model_opens_134 rfl ?_
                  refine ia_add hx hb d_Model_opens_135 ?_
                  refine lv_aload_n hx hb d_Model_opens_136 rfl (lv_at hl 1 rfl) ?_
                  refine mw_get (ci := 4) (i := 40) (v := .int (iI (S.f 4))) (C := R_Model) (T := T_Model) (N := 23) hx hb hts in_Model hown hK hM hV107.1 rfl rfl 14 (by decide) (hts _ m_559) rfl d_Model_opens_137 ?_
                  have r108 : -1000000 ≤ S.f 4 ∧ S.f 4 ≤ 1000000 := hV107.2.2.2 4
                  refine ia_icmp_le (a := op + 1) (b := S.f 4) (tgt := 149) hx hb d_Model_opens_140 (by decide) (by omega) (by omega) (fun c109 => ?_) (fun c109 => ?_)
                  · refine lv_aload_n hx hb d_Model_opens_149 rfl (lv_at hl 1 rfl) ?_
                    refine mw_get (ci := 4) (i := 40) (v := .int (iI (S.f 4))) (C := R_Model) (T := T_Model) (N := 23) hx hb hts in_Model hown hK hM hV107.1 rfl rfl 14 (by decide) (hts _ m_559) rfl d_Model_opens_150 ?_
                    have r110 : -1000000 ≤ S.f 4 ∧ S.f 4 ≤ 1000000 := hV107.2.2.2 4
                    refine mw_put (ci := 4) (i := 40) (v := .int (iI (S.f 4))) (C := R_Model) (T := T_Model) (N := 23) hx hb hts in_Model ty_Model ty_Model_ok nm_Model hown hK hM hS hV107.1 rfl rfl 14 (by decide) (hts _ m_559) rfl (ty_Model_ok 14 (by decide)) rfl rfl (Nat.le_of_ble_eq_true rfl) d_Model_opens_153 (fun κ111 H locs e111 hk111 hM hS => ?_)
                    have e111 : κ111 40 = some (.inr (4, [.int (iI (S.f 8)), .ref (L 41), .int (iI (S.f 0)), .int (iI (S.f 1)), .ref (L 42), .ref (L 43), .ref (L 44), .int (iI (S.f 2)), .int (iI (S.f 3)), .ref (L 45), .ref (L 46), .ref (L 47), .ref (L 48), .ref (L 49), .int (iI (S.f 4)), .int (iI (S.f 5)), .int (iI (S.f 6)), .ref (L 50), .ref (L 51), .ref (L 52), .ref (L 53), .ref (L 54), .int (iI (S.f 7))])) := e111
                    have hV111 : mds g L κ111 (((((S.st 9 ((op : Int).toNat) (a + (mLow (S.a 3) a 4))).st 10 ((op : Int).toNat) nd).st 11 ((op : Int).toNat) 0).st 12 ((op : Int).toNat) 1).pf 4 (S.f 4)) := mds_pf hV107 e111 hk111 (by first | omega | (split <;> omega))
                    refine lv_iconst (v := iI (1)) hx hb d_Model_opens_156 rfl ?_
                    exact mw_zret (v := true) hx hb hr hM hS hlocks d_Model_opens_157 (by rw [show mOpens a left op nd r S = (true, ((((S.st 9 ((op : Int).toNat) (a + (mLow (S.a 3) a 4))).st 10 ((op : Int).toNat) nd).st 11 ((op : Int).toNat) 0).st 12 ((op : Int).toNat) 1).pf 4 (S.f 4)) by first | (exfalso; omega) | (unfold mOpens; rw [show mOpA a left op S = S by unfold mOpA; (first | (exfalso; omega) | (repeat (first | rw [if_pos (by first | assumption | omega)] | rw [if_neg (by first | assumption | exact zne (by assumption) | omega)])))]; (first | (exfalso; omega) | (repeat (first | rw [if_pos (by first | assumption | omega)] | rw [if_neg (by first | assumption | exact zne (by assumption) | omega)]))); unfold mOpB; rw [show bI r = 1 by rw [show r = true by assumption]; rfl]; (first | (exfalso; omega) | (repeat (first | rw [if_pos (by first | assumption | omega)] | rw [if_neg (by first | assumption | exact zne (by assumption) | omega)]))))]; exact ⟨rfl, rfl, hV111, (fun r h => by rw [hk111 r (by omega), hk107 r (by omega), hk99 r (by omega), hk98 r (by omega), hk97 r (by omega)])⟩)
                  · refine lv_iload_n hx hb d_Model_opens_143 rfl (lv_at hl 4 rfl) ?_
                    refine lv_iconst (v := iI (1)) hx hb d_Model_opens_144 rfl ?_
                    refine ia_add hx hb d_Model_opens_145 ?_
                    refine lv_goto (tgt := 153) hx hb d_Model_opens_146 (by decide) ?_
                    refine mw_put (ci := 4) (i := 40) (v := .int (iI (op + 1))) (C := R_Model) (T := T_Model) (N := 23) hx hb hts in_Model ty_Model ty_Model_ok nm_Model hown hK hM hS hV107.1 rfl rfl 14 (by decide) (hts _ m_559) rfl (ty_Model_ok 14 (by decide)) rfl rfl (Nat.le_of_ble_eq_true rfl) d_Model_opens_153 (fun κ112 H locs e112 hk112 hM hS => ?_)
                    have e112 : κ112 40 = some (.inr (4, [.int (iI (S.f 8)), .ref (L 41), .int (iI (S.f 0)), .int (iI (S.f 1)), .ref (L 42), .ref (L 43), .ref (L 44), .int (iI (S.f 2)), .int (iI (S.f 3)), .ref (L 45), .ref (L 46), .ref (L 47), .ref (L 48), .ref (L 49), .int (iI (op + 1)), .int (iI (S.f 5)), .int (iI (S.f 6)), .ref (L 50), .ref (L 51), .ref (L 52), .ref (L 53), .ref (L 54), .int (iI (S.f 7))])) := e112
                    have hV112 : mds g L κ112 (((((S.st 9 ((op : Int).toNat) (a + (mLow (S.a 3) a 4))).st 10 ((op : Int).toNat) nd).st 11 ((op : Int).toNat) 0).st 12 ((op : Int).toNat) 1).pf 4 (op + 1)) := mds_pf hV107 e112 hk112 (by first | omega | (split <;> omega))
                    refine lv_iconst (v := iI (1)) hx hb d_Model_opens_156 rfl ?_
                    exact mw_zret (v := true) hx hb hr hM hS hlocks d_Model_opens_157 (by rw [show mOpens a left op nd r S = (true, ((((S.st 9 ((op : Int).toNat) (a + (mLow (S.a 3) a 4))).st 10 ((op : Int).toNat) nd).st 11 ((op : Int).toNat) 0).st 12 ((op : Int).toNat) 1).pf 4 (op + 1)) by first | (exfalso; omega) | (unfold mOpens; rw [show mOpA a left op S = S by unfold mOpA; (first | (exfalso; omega) | (repeat (first | rw [if_pos (by first | assumption | omega)] | rw [if_neg (by first | assumption | exact zne (by assumption) | omega)])))]; (first | (exfalso; omega) | (repeat (first | rw [if_pos (by first | assumption | omega)] | rw [if_neg (by first | assumption | exact zne (by assumption) | omega)]))); unfold mOpB; rw [show bI r = 1 by rw [show r = true by assumption]; rfl]; (first | (exfalso; omega) | (repeat (first | rw [if_pos (by first | assumption | omega)] | rw [if_neg (by first | assumption | exact zne (by assumption) | omega)]))))]; exact ⟨rfl, rfl, hV112, (fun r h => by rw [hk112 r (by omega), hk107 r (by omega), hk99 r (by omega), hk98 r (by omega), hk97 r (by omega)])⟩)
              · refine lv_iconst (v := iI (0)) hx hb d_Model_opens_88 rfl ?_
                exact mw_zret (v := false) hx hb hr hM hS hlocks d_Model_opens_89 (by rw [show mOpens a left op nd r S = (false, S) by first | (exfalso; omega) | (unfold mOpens; rw [show mOpA a left op S = S by unfold mOpA; (first | (exfalso; omega) | (repeat (first | rw [if_pos (by first | assumption | omega)] | rw [if_neg (by first | assumption | exact zne (by assumption) | omega)])))]; (first | (exfalso; omega) | (repeat (first | rw [if_pos (by first | assumption | omega)] | rw [if_neg (by first | assumption | exact zne (by assumption) | omega)]))))]; exact ⟨rfl, rfl, hV, (fun r h => rfl)⟩)
            · refine lv_aload_n hx hb d_Model_opens_74 rfl (lv_at hl 1 rfl) ?_
              refine lv_bipush (v := iI (8)) hx hb d_Model_opens_75 (by decide) ?_
              refine lv_iload_n hx hb d_Model_opens_77 rfl (lv_at hl 2 rfl) ?_
              refine mw_callV (i := 40) (As := [.int (iI 8), .int (iI a)]) (rest := []) ⟨hx, hb, hml, hown, hts⟩ hK hM hS rfl hV.1 rfl (c_Model_stop l D g lo L κ S hV 8 a (by omega) (by omega)) (cwV 2 hts (gV m_638 m_640 m_20 m_58 m_641) rfl rfl rfl (by decide +kernel) ⟨Nat.le_of_ble_eq_true rfl, Nat.le_of_ble_eq_true rfl⟩) rfl hl.1 rfl (Nat.le_of_ble_eq_true rfl) d_Model_opens_78 ⟨Nat.le_of_ble_eq_true rfl, Nat.le_of_ble_eq_true rfl⟩ (fun v113 L113 κ113 H locs hp113 hM hS => ?_)
              obtain ⟨rfl, rfl, hV113, hk113⟩ := hp113
              have r114 := mStop_nz (x := a) (S := S) (show (8 : Int) ≠ 0 by decide)
              have r115 := congrFun (congrFun (mStop_a (y := 8) (x := a) (S := S)) 3)
              refine lv_aload_n hx hb d_Model_opens_81 rfl (lv_at hl 1 rfl) ?_
              refine mw_get (ci := 4) (i := 40) (v := .int (iI ((mStop 8 a S).f 5))) (C := R_Model) (T := T_Model) (N := 23) hx hb hts in_Model hown hK hM hV113.1 rfl rfl 15 (by decide) (hts _ m_560) rfl d_Model_opens_82 ?_
              have r116 : -1000000 ≤ (mStop 8 a S).f 5 ∧ (mStop 8 a S).f 5 ≤ 1000000 := hV113.2.2.2 5
              refine ia_if_eq (a := (mStop 8 a S).f 5) (tgt := 90) hx hb d_Model_opens_85 (by decide) (by omega) (fun c117 => ?_) (fun c117 => ?_)
              · refine lv_aload_n hx hb d_Model_opens_90 rfl (lv_at hl 1 rfl) ?_
                refine mw_get (ci := 4) (i := 40) (v := .ref (L 50)) (C := R_Model) (T := T_Model) (N := 23) hx hb hts in_Model hown hK hM hV113.1 rfl rfl 17 (by decide) (hts _ m_562) rfl d_Model_opens_91 ?_
                refine lv_iload_n hx hb d_Model_opens_94 rfl (lv_at hl 4 rfl) ?_
                refine lv_iload_n hx hb d_Model_opens_95 rfl (lv_at hl 2 rfl) ?_
                refine lv_lload hx hb d_Model_opens_96 (lv_at hl 0 rfl) ?_
                refine ia_l2i hx hb d_Model_opens_98 ?_
                refine ia_add hx hb d_Model_opens_99 ?_
                refine mw_iast (n := 20) (f := (mStop 8 a S).a 9) (a := op) (v := a + (mLow (S.a 3) a 4)) (i := 50) hx hb hK hM hS 1 (hV113.2.1 9 (by decide)) rfl rfl (by omega) (by decide) d_Model_opens_100 (fun κ118 H locs e118 hk118 hM hS => ?_)
                have hV118 : mds g L κ118 ((mStop 8 a S).st 9 ((op : Int).toNat) (a + (mLow (S.a 3) a 4))) := mds_st (k := 9) hV113 (by decide) e118 hk118 (show (-1000000 : Int) ≤ a + (mLow (S.a 3) a 4) ∧ a + (mLow (S.a 3) a 4) ≤ 1000000 by first | omega | (split <;> omega))
                refine lv_aload_n hx hb d_Model_opens_101 rfl (lv_at hl 1 rfl) ?_
                refine mw_get (ci := 4) (i := 40) (v := .ref (L 51)) (C := R_Model) (T := T_Model) (N := 23) hx hb hts in_Model hown hK hM hV118.1 rfl rfl 18 (by decide) (hts _ m_563) rfl d_Model_opens_102 ?_
                refine lv_iload_n hx hb d_Model_opens_105 rfl (lv_at hl 4 rfl) ?_
                refine lv_iload hx hb d_Model_opens_106 (lv_at hl 5 rfl) ?_
                refine mw_iast (n := 20) (f := (mStop 8 a S).a 10) (a := op) (v := nd) (i := 51) hx hb hK hM hS 1 (hV118.2.1 10 (by decide)) rfl rfl (by omega) (by decide) d_Model_opens_108 (fun κ119 H locs e119 hk119 hM hS => ?_)
                have hV119 : mds g L κ119 (((mStop 8 a S).st 9 ((op : Int).toNat) (a + (mLow (S.a 3) a 4))).st 10 ((op : Int).toNat) nd) := mds_st (k := 10) hV118 (by decide) e119 hk119 (show (-1000000 : Int) ≤ nd ∧ nd ≤ 1000000 by first | omega | (split <;> omega))
                refine lv_aload_n hx hb d_Model_opens_109 rfl (lv_at hl 1 rfl) ?_
                refine mw_get (ci := 4) (i := 40) (v := .ref (L 52)) (C := R_Model) (T := T_Model) (N := 23) hx hb hts in_Model hown hK hM hV119.1 rfl rfl 19 (by decide) (hts _ m_564) rfl d_Model_opens_110 ?_
                refine lv_iload_n hx hb d_Model_opens_113 rfl (lv_at hl 4 rfl) ?_
                refine lv_iconst (v := iI (0)) hx hb d_Model_opens_114 rfl ?_
                refine mw_iast (n := 20) (f := (mStop 8 a S).a 11) (a := op) (v := 0) (i := 52) hx hb hK hM hS 1 (hV119.2.1 11 (by decide)) rfl rfl (by omega) (by decide) d_Model_opens_115 (fun κ120 H locs e120 hk120 hM hS => ?_)
                have hV120 : mds g L κ120 ((((mStop 8 a S).st 9 ((op : Int).toNat) (a + (mLow (S.a 3) a 4))).st 10 ((op : Int).toNat) nd).st 11 ((op : Int).toNat) 0) := mds_st (k := 11) hV119 (by decide) e120 hk120 (show (-1000000 : Int) ≤ 0 ∧ 0 ≤ 1000000 by first | omega | (split <;> omega))
                refine lv_aload_n hx hb d_Model_opens_116 rfl (lv_at hl 1 rfl) ?_
                refine mw_get (ci := 4) (i := 40) (v := .ref (L 53)) (C := R_Model) (T := T_Model) (N := 23) hx hb hts in_Model hown hK hM hV120.1 rfl rfl 20 (by decide) (hts _ m_565) rfl d_Model_opens_117 ?_
                refine lv_iload_n hx hb d_Model_opens_120 rfl (lv_at hl 4 rfl) ?_
                refine lv_iload hx hb d_Model_opens_121 (lv_at hl 6 rfl) ?_
                refine ia_ifz_eq (x := r) (tgt := 130) hx hb d_Model_opens_123 (by decide) (fun c121 => ?_) (fun c121 => ?_)
                · refine lv_iconst (v := iI (0)) hx hb d_Model_opens_130 rfl ?_
                  refine mw_iast (n := 20) (f := (mStop 8 a S).a 12) (a := op) (v := 0) (i := 53) hx hb hK hM hS 1 (hV120.2.1 12 (by decide)) rfl rfl (by omega) (by decide) d_Model_opens_131 (fun κ122 H locs e122 hk122 hM hS => ?_)
                  have hV122 : mds g L κ122 (((((mStop 8 a S).st 9 ((op : Int).toNat) (a + (mLow (S.a 3) a 4))).st 10 ((op : Int).toNat) nd).st 11 ((op : Int).toNat) 0).st 12 ((op : Int).toNat) 0) := mds_st (k := 12) hV120 (by decide) e122 hk122 (show (-1000000 : Int) ≤ 0 ∧ 0 ≤ 1000000 by first | omega | (split <;> omega))
                  refine lv_aload_n hx hb d_Model_opens_132 rfl (lv_at hl 1 rfl) ?_
                  refine lv_iload_n hx hb d_Model_opens_133 rfl (lv_at hl 4 rfl) ?_
                  refine lv_iconst (v := iI (1)) hx hb d_Model_opens_134 rfl ?_
                  refine ia_add hx hb d_Model_opens_135 ?_
                  refine lv_aload_n hx hb d_Model_opens_136 rfl (lv_at hl 1 rfl) ?_
                  refine mw_get (ci := 4) (i := 40) (v := .int (iI ((mStop 8 a S).f 4))) (C := R_Model) (T := T_Model) (N := 23) hx hb hts in_Model hown hK hM hV122.1 rfl rfl 14 (by decide) (hts _ m_559) rfl d_Model_opens_137 ?_
                  have r123 : -1000000 ≤ (mStop 8 a S).f 4 ∧ (mStop 8 a S).f 4 ≤ 1000000 := hV122.2.2.2 4
                  refine ia_icmp_le (a := op + 1) (b := (mStop 8 a S).f 4) (tgt := 149) hx hb d_Model_opens_140 (by decide) (by omega) (by omega) (fun c124 => ?_) (fun c124 => ?_)
                  · refine lv_aload_n hx hb d_Model_opens_149 rfl (lv_at hl 1 rfl) ?_
                    refine mw_get (ci := 4) (i := 40) (v := .int (iI ((mStop 8 a S).f 4))) (C := R_Model) (T := T_Model) (N := 23) hx hb hts in_Model hown hK hM hV122.1 rfl rfl 14 (by decide) (hts _ m_559) rfl d_Model_opens_150 ?_
                    have r125 : -1000000 ≤ (mStop 8 a S).f 4 ∧ (mStop 8 a S).f 4 ≤ 1000000 := hV122.2.2.2 4
                    refine mw_put (ci := 4) (i := 40) (v := .int (iI ((mStop 8 a S).f 4))) (C := R_Model) (T := T_Model) (N := 23) hx hb hts in_Model ty_Model ty_Model_ok nm_Model hown hK hM hS hV122.1 rfl rfl 14 (by decide) (hts _ m_559) rfl (ty_Model_ok 14 (by decide)) rfl rfl (Nat.le_of_ble_eq_true rfl) d_Model_opens_153 (fun κ126 H locs e126 hk126 hM hS => ?_)
                    have e126 : κ126 40 = some (.inr (4, [.int (iI ((mStop 8 a S).f 8)), .ref (L 41), .int (iI ((mStop 8 a S).f 0)), .int (iI ((mStop 8 a S).f 1)), .ref (L 42), .ref (L 43), .ref (L 44), .int (iI ((mStop 8 a S).f 2)), .int (iI ((mStop 8 a S).f 3)), .ref (L 45), .ref (L 46), .ref (L 47), .ref (L 48), .ref (L 49), .int (iI ((mStop 8 a S).f 4)), .int (iI ((mStop 8 a S).f 5)), .int (iI ((mStop 8 a S).f 6)), .ref (L 50), .ref (L 51), .ref (L 52), .ref (L 53), .ref (L 54), .int (iI ((mStop 8 a S).f 7))])) := e126
                    have hV126 : mds g L κ126 ((((((mStop 8 a S).st 9 ((op : Int).toNat) (a + (mLow (S.a 3) a 4))).st 10 ((op : Int).toNat) nd).st 11 ((op : Int).toNat) 0).st 12 ((op : Int).toNat) 0).pf 4 ((mStop 8 a S).f 4)) := mds_pf hV122 e126 hk126 (by first | omega | (split <;> omega))
                    refine lv_iconst (v := iI (1)) hx hb d_Model_opens_156 rfl ?_
                    exact mw_zret (v := true) hx hb hr hM hS hlocks d_Model_opens_157 (by rw [show mOpens a left op nd r S = (true, (((((mStop 8 a S).st 9 ((op : Int).toNat) (a + (mLow (S.a 3) a 4))).st 10 ((op : Int).toNat) nd).st 11 ((op : Int).toNat) 0).st 12 ((op : Int).toNat) 0).pf 4 ((mStop 8 a S).f 4)) by first | (exfalso; omega) | (unfold mOpens; rw [show mOpA a left op S = mStop 8 a S by unfold mOpA; (first | (exfalso; omega) | (repeat (first | rw [if_pos (by first | assumption | omega)] | rw [if_neg (by first | assumption | exact zne (by assumption) | omega)])))]; (first | (exfalso; omega) | (repeat (first | rw [if_pos (by first | assumption | omega)] | rw [if_neg (by first | assumption | exact zne (by assumption) | omega)]))); unfold mOpB; rw [show bI r = 0 by rw [show r = false by assumption]; rfl]; (first | (exfalso; omega) | (repeat (first | rw [if_pos (by first | assumption | omega)] | rw [if_neg (by first | assumption | exact zne (by assumption) | omega)]))))]; exact ⟨rfl, rfl, hV126, (fun r h => by rw [hk126 r (by omega), hk122 r (by omega), hk120 r (by omega), hk119 r (by omega), hk118 r (by omega), hk113 r (by omega)])⟩)
                  · refine lv_iload_n hx hb d_Model_opens_143 rfl (lv_at hl 4 rfl) ?_
                    refine lv_iconst (v := iI (1)) hx hb d_Model_opens_144 rfl ?_
                    refine ia_add hx hb d_Model_opens_145 ?_
                    refine lv_goto (tgt := 153) hx hb d_Model_opens_146 (by decide) ?_
                    refine mw_put (ci := 4) (i := 40) (v := .int (iI (op + 1))) (C := R_Model) (T := T_Model) (N := 23) hx hb hts in_Model ty_Model ty_Model_ok nm_Model hown hK hM hS hV122.1 rfl rfl 14 (by decide) (hts _ m_559) rfl (ty_Model_ok 14 (by decide)) rfl rfl (Nat.le_of_ble_eq_true rfl) d_Model_opens_153 (fun κ127 H locs e127 hk127 hM hS => ?_)
                    have e127 : κ127 40 = some (.inr (4, [.int (iI ((mStop 8 a S).f 8)), .ref (L 41), .int (iI ((mStop 8 a S).f 0)), .int (iI ((mStop 8 a S).f 1)), .ref (L 42), .ref (L 43), .ref (L 44), .int (iI ((mStop 8 a S).f 2)), .int (iI ((mStop 8 a S).f 3)), .ref (L 45), .ref (L 46), .ref (L 47), .ref (L 48), .ref (L 49), .int (iI (op + 1)), .int (iI ((mStop 8 a S).f 5)), .int (iI ((mStop 8 a S).f 6)), .ref (L 50), .ref (L 51), .ref (L 52), .ref (L 53), .ref (L 54), .int (iI ((mStop 8 a S).f 7))])) := e127
                    have hV127 : mds g L κ127 ((((((mStop 8 a S).st 9 ((op : Int).toNat) (a + (mLow (S.a 3) a 4))).st 10 ((op : Int).toNat) nd).st 11 ((op : Int).toNat) 0).st 12 ((op : Int).toNat) 0).pf 4 (op + 1)) := mds_pf hV122 e127 hk127 (by first | omega | (split <;> omega))
                    refine lv_iconst (v := iI (1)) hx hb d_Model_opens_156 rfl ?_
                    exact mw_zret (v := true) hx hb hr hM hS hlocks d_Model_opens_157 (by rw [show mOpens a left op nd r S = (true, (((((mStop 8 a S).st 9 ((op : Int).toNat) (a + (mLow (S.a 3) a 4))).st 10 ((op : Int).toNat) nd).st 11 ((op : Int).toNat) 0).st 12 ((op : Int).toNat) 0).pf 4 (op + 1)) by first | (exfalso; omega) | (unfold mOpens; rw [show mOpA a left op S = mStop 8 a S by unfold mOpA; (first | (exfalso; omega) | (repeat (first | rw [if_pos (by first | assumption | omega)] | rw [if_neg (by first | assumption | exact zne (by assumption) | omega)])))]; (first | (exfalso; omega) | (repeat (first | rw [if_pos (by first | assumption | omega)] | rw [if_neg (by first | assumption | exact zne (by assumption) | omega)]))); unfold mOpB; rw [show bI r = 0 by rw [show r = false by assumption]; rfl]; (first | (exfalso; omega) | (repeat (first | rw [if_pos (by first | assumption | omega)] | rw [if_neg (by first | assumption | exact zne (by assumption) | omega)]))))]; exact ⟨rfl, rfl, hV127, (fun r h => by rw [hk127 r (by omega), hk122 r (by omega), hk120 r (by omega), hk119 r (by omega), hk118 r (by omega), hk113 r (by omega)])⟩)
                · refine lv_iconst (v := iI (1)) hx hb d_Model_opens_126 rfl ?_
                  refine lv_goto (tgt := 131) hx hb d_Model_opens_127 (by decide) ?_
                  refine mw_iast (n := 20) (f := (mStop 8 a S).a 12) (a := op) (v := 1) (i := 53) hx hb hK hM hS 1 (hV120.2.1 12 (by decide)) rfl rfl (by omega) (by decide) d_Model_opens_131 (fun κ128 H locs e128 hk128 hM hS => ?_)
                  have hV128 : mds g L κ128 (((((mStop 8 a S).st 9 ((op : Int).toNat) (a + (mLow (S.a 3) a 4))).st 10 ((op : Int).toNat) nd).st 11 ((op : Int).toNat) 0).st 12 ((op : Int).toNat) 1) := mds_st (k := 12) hV120 (by decide) e128 hk128 (show (-1000000 : Int) ≤ 1 ∧ 1 ≤ 1000000 by first | omega | (split <;> omega))
                  refine lv_aload_n hx hb d_Model_opens_132 rfl (lv_at hl 1 rfl) ?_
                  refine lv_iload_n hx hb d_Model_opens_133 rfl (lv_at hl 4 rfl) ?_
                  refine lv_iconst (v := iI (1)) hx hb d_Model_opens_134 rfl ?_
                  refine ia_add hx hb d_Model_opens_135 ?_
                  refine lv_aload_n hx hb d_Model_opens_136 rfl (lv_at hl 1 rfl) ?_
                  refine mw_get (ci := 4) (i := 40) (v := .int (iI ((mStop 8 a S).f 4))) (C := R_Model) (T := T_Model) (N := 23) hx hb hts in_Model hown hK hM hV128.1 rfl rfl 14 (by decide) (hts _ m_559) rfl d_Model_opens_137 ?_
                  have r129 : -1000000 ≤ (mStop 8 a S).f 4 ∧ (mStop 8 a S).f 4 ≤ 1000000 := hV128.2.2.2 4
                  refine ia_icmp_le (a := op + 1) (b := (mStop 8 a S).f 4) (tgt := 149) hx hb d_Model_opens_140 (by decide) (by omega) (by omega) (fun c130 => ?_) (fun c130 => ?_)
                  · refine lv_aload_n hx hb d_Model_opens_149 rfl (lv_at hl 1 rfl) ?_
                    refine mw_get (ci := 4) (i := 40) (v := .int (iI ((mStop 8 a S).f 4))) (C := R_Model) (T := T_Model) (N := 23) hx hb hts in_Model hown hK hM hV128.1 rfl rfl 14 (by decide) (hts _ m_559) rfl d_Model_opens_150 ?_
                    have r131 : -1000000 ≤ (mStop 8 a S).f 4 ∧ (mStop 8 a S).f 4 ≤ 1000000 := hV128.2.2.2 4
                    refine mw_put (ci := 4) (i := 40) (v := .int (iI ((mStop 8 a S).f 4))) (C := R_Model) (T := T_Model) (N := 23) hx hb hts in_Model ty_Model ty_Model_ok nm_Model hown hK hM hS hV128.1 rfl rfl 14 (by decide) (hts _ m_559) rfl (ty_Model_ok 14 (by decide)) rfl rfl (Nat.le_of_ble_eq_true rfl) d_Model_opens_153 (fun κ132 H locs e132 hk132 hM hS => ?_)
                    have e132 : κ132 40 = some (.inr (4, [.int (iI ((mStop 8 a S).f 8)), .ref (L 41), .int (iI ((mStop 8 a S).f 0)), .int (iI ((mStop 8 a S).f 1)), .ref (L 42), .ref (L 43), .ref (L 44), .int (iI ((mStop 8 a S).f 2)), .int (iI ((mStop 8 a S).f 3)), .ref (L 45), .ref (L 46), .ref (L 47), .ref (L 48), .ref (L 49), .int (iI ((mStop 8 a S).f 4)), .int (iI ((mStop 8 a S).f 5)), .int (iI ((mStop 8 a S).f 6)), .ref (L 50), .ref (L 51), .ref (L 52), .ref (L 53), .ref (L 54), .int (iI ((mStop 8 a S).f 7))])) := e132
                    have hV132 : mds g L κ132 ((((((mStop 8 a S).st 9 ((op : Int).toNat) (a + (mLow (S.a 3) a 4))).st 10 ((op : Int).toNat) nd).st 11 ((op : Int).toNat) 0).st 12 ((op : Int).toNat) 1).pf 4 ((mStop 8 a S).f 4)) := mds_pf hV128 e132 hk132 (by first | omega | (split <;> omega))
                    refine lv_iconst (v := iI (1)) hx hb d_Model_opens_156 rfl ?_
                    exact mw_zret (v := true) hx hb hr hM hS hlocks d_Model_opens_157 (by rw [show mOpens a left op nd r S = (true, (((((mStop 8 a S).st 9 ((op : Int).toNat) (a + (mLow (S.a 3) a 4))).st 10 ((op : Int).toNat) nd).st 11 ((op : Int).toNat) 0).st 12 ((op : Int).toNat) 1).pf 4 ((mStop 8 a S).f 4)) by first | (exfalso; omega) | (unfold mOpens; rw [show mOpA a left op S = mStop 8 a S by unfold mOpA; (first | (exfalso; omega) | (repeat (first | rw [if_pos (by first | assumption | omega)] | rw [if_neg (by first | assumption | exact zne (by assumption) | omega)])))]; (first | (exfalso; omega) | (repeat (first | rw [if_pos (by first | assumption | omega)] | rw [if_neg (by first | assumption | exact zne (by assumption) | omega)]))); unfold mOpB; rw [show bI r = 1 by rw [show r = true by assumption]; rfl]; (first | (exfalso; omega) | (repeat (first | rw [if_pos (by first | assumption | omega)] | rw [if_neg (by first | assumption | exact zne (by assumption) | omega)]))))]; exact ⟨rfl, rfl, hV132, (fun r h => by rw [hk132 r (by omega), hk128 r (by omega), hk120 r (by omega), hk119 r (by omega), hk118 r (by omega), hk113 r (by omega)])⟩)
                  · refine lv_iload_n hx hb d_Model_opens_143 rfl (lv_at hl 4 rfl) ?_
                    refine lv_iconst (v := iI (1)) hx hb d_Model_opens_144 rfl ?_
                    refine ia_add hx hb d_Model_opens_145 ?_
                    refine lv_goto (tgt := 153) hx hb d_Model_opens_146 (by decide) ?_
                    refine mw_put (ci := 4) (i := 40) (v := .int (iI (op + 1))) (C := R_Model) (T := T_Model) (N := 23) hx hb hts in_Model ty_Model ty_Model_ok nm_Model hown hK hM hS hV128.1 rfl rfl 14 (by decide) (hts _ m_559) rfl (ty_Model_ok 14 (by decide)) rfl rfl (Nat.le_of_ble_eq_true rfl) d_Model_opens_153 (fun κ133 H locs e133 hk133 hM hS => ?_)
                    have e133 : κ133 40 = some (.inr (4, [.int (iI ((mStop 8 a S).f 8)), .ref (L 41), .int (iI ((mStop 8 a S).f 0)), .int (iI ((mStop 8 a S).f 1)), .ref (L 42), .ref (L 43), .ref (L 44), .int (iI ((mStop 8 a S).f 2)), .int (iI ((mStop 8 a S).f 3)), .ref (L 45), .ref (L 46), .ref (L 47), .ref (L 48), .ref (L 49), .int (iI (op + 1)), .int (iI ((mStop 8 a S).f 5)), .int (iI ((mStop 8 a S).f 6)), .ref (L 50), .ref (L 51), .ref (L 52), .ref (L 53), .ref (L 54), .int (iI ((mStop 8 a S).f 7))])) := e133
                    have hV133 : mds g L κ133 ((((((mStop 8 a S).st 9 ((op : Int).toNat) (a + (mLow (S.a 3) a 4))).st 10 ((op : Int).toNat) nd).st 11 ((op : Int).toNat) 0).st 12 ((op : Int).toNat) 1).pf 4 (op + 1)) := mds_pf hV128 e133 hk133 (by first | omega | (split <;> omega))
                    refine lv_iconst (v := iI (1)) hx hb d_Model_opens_156 rfl ?_
                    exact mw_zret (v := true) hx hb hr hM hS hlocks d_Model_opens_157 (by rw [show mOpens a left op nd r S = (true, (((((mStop 8 a S).st 9 ((op : Int).toNat) (a + (mLow (S.a 3) a 4))).st 10 ((op : Int).toNat) nd).st 11 ((op : Int).toNat) 0).st 12 ((op : Int).toNat) 1).pf 4 (op + 1)) by first | (exfalso; omega) | (unfold mOpens; rw [show mOpA a left op S = mStop 8 a S by unfold mOpA; (first | (exfalso; omega) | (repeat (first | rw [if_pos (by first | assumption | omega)] | rw [if_neg (by first | assumption | exact zne (by assumption) | omega)])))]; (first | (exfalso; omega) | (repeat (first | rw [if_pos (by first | assumption | omega)] | rw [if_neg (by first | assumption | exact zne (by assumption) | omega)]))); unfold mOpB; rw [show bI r = 1 by rw [show r = true by assumption]; rfl]; (first | (exfalso; omega) | (repeat (first | rw [if_pos (by first | assumption | omega)] | rw [if_neg (by first | assumption | exact zne (by assumption) | omega)]))))]; exact ⟨rfl, rfl, hV133, (fun r h => by rw [hk133 r (by omega), hk128 r (by omega), hk120 r (by omega), hk119 r (by omega), hk118 r (by omega), hk113 r (by omega)])⟩)
              · refine lv_iconst (v := iI (0)) hx hb d_Model_opens_88 rfl ?_
                exact mw_zret (v := false) hx hb hr hM hS hlocks d_Model_opens_89 (by rw [show mOpens a left op nd r S = (false, mStop 8 a S) by first | (exfalso; omega) | (unfold mOpens; rw [show mOpA a left op S = mStop 8 a S by unfold mOpA; (first | (exfalso; omega) | (repeat (first | rw [if_pos (by first | assumption | omega)] | rw [if_neg (by first | assumption | exact zne (by assumption) | omega)])))]; (first | (exfalso; omega) | (repeat (first | rw [if_pos (by first | assumption | omega)] | rw [if_neg (by first | assumption | exact zne (by assumption) | omega)]))))]; exact ⟨rfl, rfl, hV113, (fun r h => by rw [hk113 r (by omega)])⟩)
          · refine lv_aload_n hx hb d_Model_opens_59 rfl (lv_at hl 1 rfl) ?_
            refine lv_iconst (v := iI (1)) hx hb d_Model_opens_60 rfl ?_
            refine lv_iload_n hx hb d_Model_opens_61 rfl (lv_at hl 2 rfl) ?_
            refine mw_callV (i := 40) (As := [.int (iI 1), .int (iI a)]) (rest := []) ⟨hx, hb, hml, hown, hts⟩ hK hM hS rfl hV.1 rfl (c_Model_stop l D g lo L κ S hV 1 a (by omega) (by omega)) (cwV 2 hts (gV m_638 m_640 m_20 m_58 m_641) rfl rfl rfl (by decide +kernel) ⟨Nat.le_of_ble_eq_true rfl, Nat.le_of_ble_eq_true rfl⟩) rfl hl.1 rfl (Nat.le_of_ble_eq_true rfl) d_Model_opens_62 ⟨Nat.le_of_ble_eq_true rfl, Nat.le_of_ble_eq_true rfl⟩ (fun v134 L134 κ134 H locs hp134 hM hS => ?_)
            obtain ⟨rfl, rfl, hV134, hk134⟩ := hp134
            have r135 := mStop_nz (x := a) (S := S) (show (1 : Int) ≠ 0 by decide)
            have r136 := congrFun (congrFun (mStop_a (y := 1) (x := a) (S := S)) 3)
            refine lv_goto (tgt := 81) hx hb d_Model_opens_65 (by decide) ?_
            refine lv_aload_n hx hb d_Model_opens_81 rfl (lv_at hl 1 rfl) ?_
            refine mw_get (ci := 4) (i := 40) (v := .int (iI ((mStop 1 a S).f 5))) (C := R_Model) (T := T_Model) (N := 23) hx hb hts in_Model hown hK hM hV134.1 rfl rfl 15 (by decide) (hts _ m_560) rfl d_Model_opens_82 ?_
            have r137 : -1000000 ≤ (mStop 1 a S).f 5 ∧ (mStop 1 a S).f 5 ≤ 1000000 := hV134.2.2.2 5
            refine ia_if_eq (a := (mStop 1 a S).f 5) (tgt := 90) hx hb d_Model_opens_85 (by decide) (by omega) (fun c138 => ?_) (fun c138 => ?_)
            · refine lv_aload_n hx hb d_Model_opens_90 rfl (lv_at hl 1 rfl) ?_
              refine mw_get (ci := 4) (i := 40) (v := .ref (L 50)) (C := R_Model) (T := T_Model) (N := 23) hx hb hts in_Model hown hK hM hV134.1 rfl rfl 17 (by decide) (hts _ m_562) rfl d_Model_opens_91 ?_
              refine lv_iload_n hx hb d_Model_opens_94 rfl (lv_at hl 4 rfl) ?_
              refine lv_iload_n hx hb d_Model_opens_95 rfl (lv_at hl 2 rfl) ?_
              refine lv_lload hx hb d_Model_opens_96 (lv_at hl 0 rfl) ?_
              refine ia_l2i hx hb d_Model_opens_98 ?_
              refine ia_add hx hb d_Model_opens_99 ?_
              refine mw_iast (n := 20) (f := (mStop 1 a S).a 9) (a := op) (v := a + (mLow (S.a 3) a 4)) (i := 50) hx hb hK hM hS 1 (hV134.2.1 9 (by decide)) rfl rfl (by omega) (by decide) d_Model_opens_100 (fun κ139 H locs e139 hk139 hM hS => ?_)
              have hV139 : mds g L κ139 ((mStop 1 a S).st 9 ((op : Int).toNat) (a + (mLow (S.a 3) a 4))) := mds_st (k := 9) hV134 (by decide) e139 hk139 (show (-1000000 : Int) ≤ a + (mLow (S.a 3) a 4) ∧ a + (mLow (S.a 3) a 4) ≤ 1000000 by first | omega | (split <;> omega))
              refine lv_aload_n hx hb d_Model_opens_101 rfl (lv_at hl 1 rfl) ?_
              refine mw_get (ci := 4) (i := 40) (v := .ref (L 51)) (C := R_Model) (T := T_Model) (N := 23) hx hb hts in_Model hown hK hM hV139.1 rfl rfl 18 (by decide) (hts _ m_563) rfl d_Model_opens_102 ?_
              refine lv_iload_n hx hb d_Model_opens_105 rfl (lv_at hl 4 rfl) ?_
              refine lv_iload hx hb d_Model_opens_106 (lv_at hl 5 rfl) ?_
              refine mw_iast (n := 20) (f := (mStop 1 a S).a 10) (a := op) (v := nd) (i := 51) hx hb hK hM hS 1 (hV139.2.1 10 (by decide)) rfl rfl (by omega) (by decide) d_Model_opens_108 (fun κ140 H locs e140 hk140 hM hS => ?_)
              have hV140 : mds g L κ140 (((mStop 1 a S).st 9 ((op : Int).toNat) (a + (mLow (S.a 3) a 4))).st 10 ((op : Int).toNat) nd) := mds_st (k := 10) hV139 (by decide) e140 hk140 (show (-1000000 : Int) ≤ nd ∧ nd ≤ 1000000 by first | omega | (split <;> omega))
              refine lv_aload_n hx hb d_Model_opens_109 rfl (lv_at hl 1 rfl) ?_
              refine mw_get (ci := 4) (i := 40) (v := .ref (L 52)) (C := R_Model) (T := T_Model) (N := 23) hx hb hts in_Model hown hK hM hV140.1 rfl rfl 19 (by decide) (hts _ m_564) rfl d_Model_opens_110 ?_
              refine lv_iload_n hx hb d_Model_opens_113 rfl (lv_at hl 4 rfl) ?_
              refine lv_iconst (v := iI (0)) hx hb d_Model_opens_114 rfl ?_
              refine mw_iast (n := 20) (f := (mStop 1 a S).a 11) (a := op) (v := 0) (i := 52) hx hb hK hM hS 1 (hV140.2.1 11 (by decide)) rfl rfl (by omega) (by decide) d_Model_opens_115 (fun κ141 H locs e141 hk141 hM hS => ?_)
              have hV141 : mds g L κ141 ((((mStop 1 a S).st 9 ((op : Int).toNat) (a + (mLow (S.a 3) a 4))).st 10 ((op : Int).toNat) nd).st 11 ((op : Int).toNat) 0) := mds_st (k := 11) hV140 (by decide) e141 hk141 (show (-1000000 : Int) ≤ 0 ∧ 0 ≤ 1000000 by first | omega | (split <;> omega))
              refine lv_aload_n hx hb d_Model_opens_116 rfl (lv_at hl 1 rfl) ?_
              refine mw_get (ci := 4) (i := 40) (v := .ref (L 53)) (C := R_Model) (T := T_Model) (N := 23) hx hb hts in_Model hown hK hM hV141.1 rfl rfl 20 (by decide) (hts _ m_565) rfl d_Model_opens_117 ?_
              refine lv_iload_n hx hb d_Model_opens_120 rfl (lv_at hl 4 rfl) ?_
              refine lv_iload hx hb d_Model_opens_121 (lv_at hl 6 rfl) ?_
              refine ia_ifz_eq (x := r) (tgt := 130) hx hb d_Model_opens_123 (by decide) (fun c142 => ?_) (fun c142 => ?_)
              · refine lv_iconst (v := iI (0)) hx hb d_Model_opens_130 rfl ?_
                refine mw_iast (n := 20) (f := (mStop 1 a S).a 12) (a := op) (v := 0) (i := 53) hx hb hK hM hS 1 (hV141.2.1 12 (by decide)) rfl rfl (by omega) (by decide) d_Model_opens_131 (fun κ143 H locs e143 hk143 hM hS => ?_)
                have hV143 : mds g L κ143 (((((mStop 1 a S).st 9 ((op : Int).toNat) (a + (mLow (S.a 3) a 4))).st 10 ((op : Int).toNat) nd).st 11 ((op : Int).toNat) 0).st 12 ((op : Int).toNat) 0) := mds_st (k := 12) hV141 (by decide) e143 hk143 (show (-1000000 : Int) ≤ 0 ∧ 0 ≤ 1000000 by first | omega | (split <;> omega))
                refine lv_aload_n hx hb d_Model_opens_132 rfl (lv_at hl 1 rfl) ?_
                refine lv_iload_n hx hb d_Model_opens_133 rfl (lv_at hl 4 rfl) ?_
                refine lv_iconst (v := iI (1)) hx hb d_Model_opens_134 rfl ?_
                refine ia_add hx hb d_Model_opens_135 ?_
                refine lv_aload_n hx hb d_Model_opens_136 rfl (lv_at hl 1 rfl) ?_
                refine mw_get (ci := 4) (i := 40) (v := .int (iI ((mStop 1 a S).f 4))) (C := R_Model) (T := T_Model) (N := 23) hx hb hts in_Model hown hK hM hV143.1 rfl rfl 14 (by decide) (hts _ m_559) rfl d_Model_opens_137 ?_
                have r144 : -1000000 ≤ (mStop 1 a S).f 4 ∧ (mStop 1 a S).f 4 ≤ 1000000 := hV143.2.2.2 4
                refine ia_icmp_le (a := op + 1) (b := (mStop 1 a S).f 4) (tgt := 149) hx hb d_Model_opens_140 (by decide) (by omega) (by omega) (fun c145 => ?_) (fun c145 => ?_)
                · refine lv_aload_n hx hb d_Model_opens_149 rfl (lv_at hl 1 rfl) ?_
                  refine mw_get (ci := 4) (i := 40) (v := .int (iI ((mStop 1 a S).f 4))) (C := R_Model) (T := T_Model) (N := 23) hx hb hts in_Model hown hK hM hV143.1 rfl rfl 14 (by decide) (hts _ m_559) rfl d_Model_opens_150 ?_
                  have r146 : -1000000 ≤ (mStop 1 a S).f 4 ∧ (mStop 1 a S).f 4 ≤ 1000000 := hV143.2.2.2 4
                  refine mw_put (ci := 4) (i := 40) (v := .int (iI ((mStop 1 a S).f 4))) (C := R_Model) (T := T_Model) (N := 23) hx hb hts in_Model ty_Model ty_Model_ok nm_Model hown hK hM hS hV143.1 rfl rfl 14 (by decide) (hts _ m_559) rfl (ty_Model_ok 14 (by decide)) rfl rfl (Nat.le_of_ble_eq_true rfl) d_Model_opens_153 (fun κ147 H locs e147 hk147 hM hS => ?_)
                  have e147 : κ147 40 = some (.inr (4, [.int (iI ((mStop 1 a S).f 8)), .ref (L 41), .int (iI ((mStop 1 a S).f 0)), .int (iI ((mStop 1 a S).f 1)), .ref (L 42), .ref (L 43), .ref (L 44), .int (iI ((mStop 1 a S).f 2)), .int (iI ((mStop 1 a S).f 3)), .ref (L 45), .ref (L 46), .ref (L 47), .ref (L 48), .ref (L 49), .int (iI ((mStop 1 a S).f 4)), .int (iI ((mStop 1 a S).f 5)), .int (iI ((mStop 1 a S).f 6)), .ref (L 50), .ref (L 51), .ref (L 52), .ref (L 53), .ref (L 54), .int (iI ((mStop 1 a S).f 7))])) := e147
                  have hV147 : mds g L κ147 ((((((mStop 1 a S).st 9 ((op : Int).toNat) (a + (mLow (S.a 3) a 4))).st 10 ((op : Int).toNat) nd).st 11 ((op : Int).toNat) 0).st 12 ((op : Int).toNat) 0).pf 4 ((mStop 1 a S).f 4)) := mds_pf hV143 e147 hk147 (by first | omega | (split <;> omega))
                  refine lv_iconst (v := iI (1)) hx hb d_Model_opens_156 rfl ?_
                  exact mw_zret (v := true) hx hb hr hM hS hlocks d_Model_opens_157 (by rw [show mOpens a left op nd r S = (true, (((((mStop 1 a S).st 9 ((op : Int).toNat) (a + (mLow (S.a 3) a 4))).st 10 ((op : Int).toNat) nd).st 11 ((op : Int).toNat) 0).st 12 ((op : Int).toNat) 0).pf 4 ((mStop 1 a S).f 4)) by first | (exfalso; omega) | (unfold mOpens; rw [show mOpA a left op S = mStop 1 a S by unfold mOpA; (first | (exfalso; omega) | (repeat (first | rw [if_pos (by first | assumption | omega)] | rw [if_neg (by first | assumption | exact zne (by assumption) | omega)])))]; (first | (exfalso; omega) | (repeat (first | rw [if_pos (by first | assumption | omega)] | rw [if_neg (by first | assumption | exact zne (by assumption) | omega)]))); unfold mOpB; rw [show bI r = 0 by rw [show r = false by assumption]; rfl]; (first | (exfalso; omega) | (repeat (first | rw [if_pos (by first | assumption | omega)] | rw [if_neg (by first | assumption | exact zne (by assumption) | omega)]))))]; exact ⟨rfl, rfl, hV147, (fun r h => by rw [hk147 r (by omega), hk143 r (by omega), hk141 r (by omega), hk140 r (by omega), hk139 r (by omega), hk134 r (by omega)])⟩)
                · refine lv_iload_n hx hb d_Model_opens_143 rfl (lv_at hl 4 rfl) ?_
                  refine lv_iconst (v := iI (1)) hx hb d_Model_opens_144 rfl ?_
                  refine ia_add hx hb d_Model_opens_145 ?_
                  refine lv_goto (tgt := 153) hx hb d_Model_opens_146 (by decide) ?_
                  refine mw_put (ci := 4) (i := 40) (v := .int (iI (op + 1))) (C := R_Model) (T := T_Model) (N := 23) hx hb hts in_Model ty_Model ty_Model_ok nm_Model hown hK hM hS hV143.1 rfl rfl 14 (by decide) (hts _ m_559) rfl (ty_Model_ok 14 (by decide)) rfl rfl (Nat.le_of_ble_eq_true rfl) d_Model_opens_153 (fun κ148 H locs e148 hk148 hM hS => ?_)
                  have e148 : κ148 40 = some (.inr (4, [.int (iI ((mStop 1 a S).f 8)), .ref (L 41), .int (iI ((mStop 1 a S).f 0)), .int (iI ((mStop 1 a S).f 1)), .ref (L 42), .ref (L 43), .ref (L 44), .int (iI ((mStop 1 a S).f 2)), .int (iI ((mStop 1 a S).f 3)), .ref (L 45), .ref (L 46), .ref (L 47), .ref (L 48), .ref (L 49), .int (iI (op + 1)), .int (iI ((mStop 1 a S).f 5)), .int (iI ((mStop 1 a S).f 6)), .ref (L 50), .ref (L 51), .ref (L 52), .ref (L 53), .ref (L 54), .int (iI ((mStop 1 a S).f 7))])) := e148
                  have hV148 : mds g L κ148 ((((((mStop 1 a S).st 9 ((op : Int).toNat) (a + (mLow (S.a 3) a 4))).st 10 ((op : Int).toNat) nd).st 11 ((op : Int).toNat) 0).st 12 ((op : Int).toNat) 0).pf 4 (op + 1)) := mds_pf hV143 e148 hk148 (by first | omega | (split <;> omega))
                  refine lv_iconst (v := iI (1)) hx hb d_Model_opens_156 rfl ?_
                  exact mw_zret (v := true) hx hb hr hM hS hlocks d_Model_opens_157 (by rw [show mOpens a left op nd r S = (true, (((((mStop 1 a S).st 9 ((op : Int).toNat) (a + (mLow (S.a 3) a 4))).st 10 ((op : Int).toNat) nd).st 11 ((op : Int).toNat) 0).st 12 ((op : Int).toNat) 0).pf 4 (op + 1)) by first | (exfalso; omega) | (unfold mOpens; rw [show mOpA a left op S = mStop 1 a S by unfold mOpA; (first | (exfalso; omega) | (repeat (first | rw [if_pos (by first | assumption | omega)] | rw [if_neg (by first | assumption | exact zne (by assumption) | omega)])))]; (first | (exfalso; omega) | (repeat (first | rw [if_pos (by first | assumption | omega)] | rw [if_neg (by first | assumption | exact zne (by assumption) | omega)]))); unfold mOpB; rw [show bI r = 0 by rw [show r = false by assumption]; rfl]; (first | (exfalso; omega) | (repeat (first | rw [if_pos (by first | assumption | omega)] | rw [if_neg (by first | assumption | exact zne (by assumption) | omega)]))))]; exact ⟨rfl, rfl, hV148, (fun r h => by rw [hk148 r (by omega), hk143 r (by omega), hk141 r (by omega), hk140 r (by omega), hk139 r (by omega), hk134 r (by omega)])⟩)
              · refine lv_iconst (v := iI (1)) hx hb d_Model_opens_126 rfl ?_
                refine lv_goto (tgt := 131) hx hb d_Model_opens_127 (by decide) ?_
                refine mw_iast (n := 20) (f := (mStop 1 a S).a 12) (a := op) (v := 1) (i := 53) hx hb hK hM hS 1 (hV141.2.1 12 (by decide)) rfl rfl (by omega) (by decide) d_Model_opens_131 (fun κ149 H locs e149 hk149 hM hS => ?_)
                have hV149 : mds g L κ149 (((((mStop 1 a S).st 9 ((op : Int).toNat) (a + (mLow (S.a 3) a 4))).st 10 ((op : Int).toNat) nd).st 11 ((op : Int).toNat) 0).st 12 ((op : Int).toNat) 1) := mds_st (k := 12) hV141 (by decide) e149 hk149 (show (-1000000 : Int) ≤ 1 ∧ 1 ≤ 1000000 by first | omega | (split <;> omega))
                refine lv_aload_n hx hb d_Model_opens_132 rfl (lv_at hl 1 rfl) ?_
                refine lv_iload_n hx hb d_Model_opens_133 rfl (lv_at hl 4 rfl) ?_
                refine lv_iconst (v := iI (1)) hx hb d_Model_opens_134 rfl ?_
                refine ia_add hx hb d_Model_opens_135 ?_
                refine lv_aload_n hx hb d_Model_opens_136 rfl (lv_at hl 1 rfl) ?_
                refine mw_get (ci := 4) (i := 40) (v := .int (iI ((mStop 1 a S).f 4))) (C := R_Model) (T := T_Model) (N := 23) hx hb hts in_Model hown hK hM hV149.1 rfl rfl 14 (by decide) (hts _ m_559) rfl d_Model_opens_137 ?_
                have r150 : -1000000 ≤ (mStop 1 a S).f 4 ∧ (mStop 1 a S).f 4 ≤ 1000000 := hV149.2.2.2 4
                refine ia_icmp_le (a := op + 1) (b := (mStop 1 a S).f 4) (tgt := 149) hx hb d_Model_opens_140 (by decide) (by omega) (by omega) (fun c151 => ?_) (fun c151 => ?_)
                · refine lv_aload_n hx hb d_Model_opens_149 rfl (lv_at hl 1 rfl) ?_
                  refine mw_get (ci := 4) (i := 40) (v := .int (iI ((mStop 1 a S).f 4))) (C := R_Model) (T := T_Model) (N := 23) hx hb hts in_Model hown hK hM hV149.1 rfl rfl 14 (by decide) (hts _ m_559) rfl d_Model_opens_150 ?_
                  have r152 : -1000000 ≤ (mStop 1 a S).f 4 ∧ (mStop 1 a S).f 4 ≤ 1000000 := hV149.2.2.2 4
                  refine mw_put (ci := 4) (i := 40) (v := .int (iI ((mStop 1 a S).f 4))) (C := R_Model) (T := T_Model) (N := 23) hx hb hts in_Model ty_Model ty_Model_ok nm_Model hown hK hM hS hV149.1 rfl rfl 14 (by decide) (hts _ m_559) rfl (ty_Model_ok 14 (by decide)) rfl rfl (Nat.le_of_ble_eq_true rfl) d_Model_opens_153 (fun κ153 H locs e153 hk153 hM hS => ?_)
                  have e153 : κ153 40 = some (.inr (4, [.int (iI ((mStop 1 a S).f 8)), .ref (L 41), .int (iI ((mStop 1 a S).f 0)), .int (iI ((mStop 1 a S).f 1)), .ref (L 42), .ref (L 43), .ref (L 44), .int (iI ((mStop 1 a S).f 2)), .int (iI ((mStop 1 a S).f 3)), .ref (L 45), .ref (L 46), .ref (L 47), .ref (L 48), .ref (L 49), .int (iI ((mStop 1 a S).f 4)), .int (iI ((mStop 1 a S).f 5)), .int (iI ((mStop 1 a S).f 6)), .ref (L 50), .ref (L 51), .ref (L 52), .ref (L 53), .ref (L 54), .int (iI ((mStop 1 a S).f 7))])) := e153
                  have hV153 : mds g L κ153 ((((((mStop 1 a S).st 9 ((op : Int).toNat) (a + (mLow (S.a 3) a 4))).st 10 ((op : Int).toNat) nd).st 11 ((op : Int).toNat) 0).st 12 ((op : Int).toNat) 1).pf 4 ((mStop 1 a S).f 4)) := mds_pf hV149 e153 hk153 (by first | omega | (split <;> omega))
                  refine lv_iconst (v := iI (1)) hx hb d_Model_opens_156 rfl ?_
                  exact mw_zret (v := true) hx hb hr hM hS hlocks d_Model_opens_157 (by rw [show mOpens a left op nd r S = (true, (((((mStop 1 a S).st 9 ((op : Int).toNat) (a + (mLow (S.a 3) a 4))).st 10 ((op : Int).toNat) nd).st 11 ((op : Int).toNat) 0).st 12 ((op : Int).toNat) 1).pf 4 ((mStop 1 a S).f 4)) by first | (exfalso; omega) | (unfold mOpens; rw [show mOpA a left op S = mStop 1 a S by unfold mOpA; (first | (exfalso; omega) | (repeat (first | rw [if_pos (by first | assumption | omega)] | rw [if_neg (by first | assumption | exact zne (by assumption) | omega)])))]; (first | (exfalso; omega) | (repeat (first | rw [if_pos (by first | assumption | omega)] | rw [if_neg (by first | assumption | exact zne (by assumption) | omega)]))); unfold mOpB; rw [show bI r = 1 by rw [show r = true by assumption]; rfl]; (first | (exfalso; omega) | (repeat (first | rw [if_pos (by first | assumption | omega)] | rw [if_neg (by first | assumption | exact zne (by assumption) | omega)]))))]; exact ⟨rfl, rfl, hV153, (fun r h => by rw [hk153 r (by omega), hk149 r (by omega), hk141 r (by omega), hk140 r (by omega), hk139 r (by omega), hk134 r (by omega)])⟩)
                · refine lv_iload_n hx hb d_Model_opens_143 rfl (lv_at hl 4 rfl) ?_
                  refine lv_iconst (v := iI (1)) hx hb d_Model_opens_144 rfl ?_
                  refine ia_add hx hb d_Model_opens_145 ?_
                  refine lv_goto (tgt := 153) hx hb d_Model_opens_146 (by decide) ?_
                  refine mw_put (ci := 4) (i := 40) (v := .int (iI (op + 1))) (C := R_Model) (T := T_Model) (N := 23) hx hb hts in_Model ty_Model ty_Model_ok nm_Model hown hK hM hS hV149.1 rfl rfl 14 (by decide) (hts _ m_559) rfl (ty_Model_ok 14 (by decide)) rfl rfl (Nat.le_of_ble_eq_true rfl) d_Model_opens_153 (fun κ154 H locs e154 hk154 hM hS => ?_)
                  have e154 : κ154 40 = some (.inr (4, [.int (iI ((mStop 1 a S).f 8)), .ref (L 41), .int (iI ((mStop 1 a S).f 0)), .int (iI ((mStop 1 a S).f 1)), .ref (L 42), .ref (L 43), .ref (L 44), .int (iI ((mStop 1 a S).f 2)), .int (iI ((mStop 1 a S).f 3)), .ref (L 45), .ref (L 46), .ref (L 47), .ref (L 48), .ref (L 49), .int (iI (op + 1)), .int (iI ((mStop 1 a S).f 5)), .int (iI ((mStop 1 a S).f 6)), .ref (L 50), .ref (L 51), .ref (L 52), .ref (L 53), .ref (L 54), .int (iI ((mStop 1 a S).f 7))])) := e154
                  have hV154 : mds g L κ154 ((((((mStop 1 a S).st 9 ((op : Int).toNat) (a + (mLow (S.a 3) a 4))).st 10 ((op : Int).toNat) nd).st 11 ((op : Int).toNat) 0).st 12 ((op : Int).toNat) 1).pf 4 (op + 1)) := mds_pf hV149 e154 hk154 (by first | omega | (split <;> omega))
                  refine lv_iconst (v := iI (1)) hx hb d_Model_opens_156 rfl ?_
                  exact mw_zret (v := true) hx hb hr hM hS hlocks d_Model_opens_157 (by rw [show mOpens a left op nd r S = (true, (((((mStop 1 a S).st 9 ((op : Int).toNat) (a + (mLow (S.a 3) a 4))).st 10 ((op : Int).toNat) nd).st 11 ((op : Int).toNat) 0).st 12 ((op : Int).toNat) 1).pf 4 (op + 1)) by first | (exfalso; omega) | (unfold mOpens; rw [show mOpA a left op S = mStop 1 a S by unfold mOpA; (first | (exfalso; omega) | (repeat (first | rw [if_pos (by first | assumption | omega)] | rw [if_neg (by first | assumption | exact zne (by assumption) | omega)])))]; (first | (exfalso; omega) | (repeat (first | rw [if_pos (by first | assumption | omega)] | rw [if_neg (by first | assumption | exact zne (by assumption) | omega)]))); unfold mOpB; rw [show bI r = 1 by rw [show r = true by assumption]; rfl]; (first | (exfalso; omega) | (repeat (first | rw [if_pos (by first | assumption | omega)] | rw [if_neg (by first | assumption | exact zne (by assumption) | omega)]))))]; exact ⟨rfl, rfl, hV154, (fun r h => by rw [hk154 r (by omega), hk149 r (by omega), hk141 r (by omega), hk140 r (by omega), hk139 r (by omega), hk134 r (by omega)])⟩)
            · refine lv_iconst (v := iI (0)) hx hb d_Model_opens_88 rfl ?_
              exact mw_zret (v := false) hx hb hr hM hS hlocks d_Model_opens_89 (by rw [show mOpens a left op nd r S = (false, mStop 1 a S) by first | (exfalso; omega) | (unfold mOpens; rw [show mOpA a left op S = mStop 1 a S by unfold mOpA; (first | (exfalso; omega) | (repeat (first | rw [if_pos (by first | assumption | omega)] | rw [if_neg (by first | assumption | exact zne (by assumption) | omega)])))]; (first | (exfalso; omega) | (repeat (first | rw [if_pos (by first | assumption | omega)] | rw [if_neg (by first | assumption | exact zne (by assumption) | omega)]))))]; exact ⟨rfl, rfl, hV134, (fun r h => by rw [hk134 r (by omega)])⟩)
        · refine lv_aload_n hx hb d_Model_opens_42 rfl (lv_at hl 1 rfl) ?_
          refine lv_iconst (v := iI (2)) hx hb d_Model_opens_43 rfl ?_
          refine lv_iload_n hx hb d_Model_opens_44 rfl (lv_at hl 2 rfl) ?_
          refine mw_callV (i := 40) (As := [.int (iI 2), .int (iI a)]) (rest := []) ⟨hx, hb, hml, hown, hts⟩ hK hM hS rfl hV.1 rfl (c_Model_stop l D g lo L κ S hV 2 a (by omega) (by omega)) (cwV 2 hts (gV m_638 m_640 m_20 m_58 m_641) rfl rfl rfl (by decide +kernel) ⟨Nat.le_of_ble_eq_true rfl, Nat.le_of_ble_eq_true rfl⟩) rfl hl.1 rfl (Nat.le_of_ble_eq_true rfl) d_Model_opens_45 ⟨Nat.le_of_ble_eq_true rfl, Nat.le_of_ble_eq_true rfl⟩ (fun v155 L155 κ155 H locs hp155 hM hS => ?_)
          obtain ⟨rfl, rfl, hV155, hk155⟩ := hp155
          have r156 := mStop_nz (x := a) (S := S) (show (2 : Int) ≠ 0 by decide)
          have r157 := congrFun (congrFun (mStop_a (y := 2) (x := a) (S := S)) 3)
          refine lv_goto (tgt := 81) hx hb d_Model_opens_48 (by decide) ?_
          refine lv_aload_n hx hb d_Model_opens_81 rfl (lv_at hl 1 rfl) ?_
          refine mw_get (ci := 4) (i := 40) (v := .int (iI ((mStop 2 a S).f 5))) (C := R_Model) (T := T_Model) (N := 23) hx hb hts in_Model hown hK hM hV155.1 rfl rfl 15 (by decide) (hts _ m_560) rfl d_Model_opens_82 ?_
          have r158 : -1000000 ≤ (mStop 2 a S).f 5 ∧ (mStop 2 a S).f 5 ≤ 1000000 := hV155.2.2.2 5
          refine ia_if_eq (a := (mStop 2 a S).f 5) (tgt := 90) hx hb d_Model_opens_85 (by decide) (by omega) (fun c159 => ?_) (fun c159 => ?_)
          · refine lv_aload_n hx hb d_Model_opens_90 rfl (lv_at hl 1 rfl) ?_
            refine mw_get (ci := 4) (i := 40) (v := .ref (L 50)) (C := R_Model) (T := T_Model) (N := 23) hx hb hts in_Model hown hK hM hV155.1 rfl rfl 17 (by decide) (hts _ m_562) rfl d_Model_opens_91 ?_
            refine lv_iload_n hx hb d_Model_opens_94 rfl (lv_at hl 4 rfl) ?_
            refine lv_iload_n hx hb d_Model_opens_95 rfl (lv_at hl 2 rfl) ?_
            refine lv_lload hx hb d_Model_opens_96 (lv_at hl 0 rfl) ?_
            refine ia_l2i hx hb d_Model_opens_98 ?_
            refine ia_add hx hb d_Model_opens_99 ?_
            refine mw_iast (n := 20) (f := (mStop 2 a S).a 9) (a := op) (v := a + (mLow (S.a 3) a 4)) (i := 50) hx hb hK hM hS 1 (hV155.2.1 9 (by decide)) rfl rfl (by omega) (by decide) d_Model_opens_100 (fun κ160 H locs e160 hk160 hM hS => ?_)
            have hV160 : mds g L κ160 ((mStop 2 a S).st 9 ((op : Int).toNat) (a + (mLow (S.a 3) a 4))) := mds_st (k := 9) hV155 (by decide) e160 hk160 (show (-1000000 : Int) ≤ a + (mLow (S.a 3) a 4) ∧ a + (mLow (S.a 3) a 4) ≤ 1000000 by first | omega | (split <;> omega))
            refine lv_aload_n hx hb d_Model_opens_101 rfl (lv_at hl 1 rfl) ?_
            refine mw_get (ci := 4) (i := 40) (v := .ref (L 51)) (C := R_Model) (T := T_Model) (N := 23) hx hb hts in_Model hown hK hM hV160.1 rfl rfl 18 (by decide) (hts _ m_563) rfl d_Model_opens_102 ?_
            refine lv_iload_n hx hb d_Model_opens_105 rfl (lv_at hl 4 rfl) ?_
            refine lv_iload hx hb d_Model_opens_106 (lv_at hl 5 rfl) ?_
            refine mw_iast (n := 20) (f := (mStop 2 a S).a 10) (a := op) (v := nd) (i := 51) hx hb hK hM hS 1 (hV160.2.1 10 (by decide)) rfl rfl (by omega) (by decide) d_Model_opens_108 (fun κ161 H locs e161 hk161 hM hS => ?_)
            have hV161 : mds g L κ161 (((mStop 2 a S).st 9 ((op : Int).toNat) (a + (mLow (S.a 3) a 4))).st 10 ((op : Int).toNat) nd) := mds_st (k := 10) hV160 (by decide) e161 hk161 (show (-1000000 : Int) ≤ nd ∧ nd ≤ 1000000 by first | omega | (split <;> omega))
            refine lv_aload_n hx hb d_Model_opens_109 rfl (lv_at hl 1 rfl) ?_
            refine mw_get (ci := 4) (i := 40) (v := .ref (L 52)) (C := R_Model) (T := T_Model) (N := 23) hx hb hts in_Model hown hK hM hV161.1 rfl rfl 19 (by decide) (hts _ m_564) rfl d_Model_opens_110 ?_
            refine lv_iload_n hx hb d_Model_opens_113 rfl (lv_at hl 4 rfl) ?_
            refine lv_iconst (v := iI (0)) hx hb d_Model_opens_114 rfl ?_
            refine mw_iast (n := 20) (f := (mStop 2 a S).a 11) (a := op) (v := 0) (i := 52) hx hb hK hM hS 1 (hV161.2.1 11 (by decide)) rfl rfl (by omega) (by decide) d_Model_opens_115 (fun κ162 H locs e162 hk162 hM hS => ?_)
            have hV162 : mds g L κ162 ((((mStop 2 a S).st 9 ((op : Int).toNat) (a + (mLow (S.a 3) a 4))).st 10 ((op : Int).toNat) nd).st 11 ((op : Int).toNat) 0) := mds_st (k := 11) hV161 (by decide) e162 hk162 (show (-1000000 : Int) ≤ 0 ∧ 0 ≤ 1000000 by first | omega | (split <;> omega))
            refine lv_aload_n hx hb d_Model_opens_116 rfl (lv_at hl 1 rfl) ?_
            refine mw_get (ci := 4) (i := 40) (v := .ref (L 53)) (C := R_Model) (T := T_Model) (N := 23) hx hb hts in_Model hown hK hM hV162.1 rfl rfl 20 (by decide) (hts _ m_565) rfl d_Model_opens_117 ?_
            refine lv_iload_n hx hb d_Model_opens_120 rfl (lv_at hl 4 rfl) ?_
            refine lv_iload hx hb d_Model_opens_121 (lv_at hl 6 rfl) ?_
            refine ia_ifz_eq (x := r) (tgt := 130) hx hb d_Model_opens_123 (by decide) (fun c163 => ?_) (fun c163 => ?_)
            · refine lv_iconst (v := iI (0)) hx hb d_Model_opens_130 rfl ?_
              refine mw_iast (n := 20) (f := (mStop 2 a S).a 12) (a := op) (v := 0) (i := 53) hx hb hK hM hS 1 (hV162.2.1 12 (by decide)) rfl rfl (by omega) (by decide) d_Model_opens_131 (fun κ164 H locs e164 hk164 hM hS => ?_)
              have hV164 : mds g L κ164 (((((mStop 2 a S).st 9 ((op : Int).toNat) (a + (mLow (S.a 3) a 4))).st 10 ((op : Int).toNat) nd).st 11 ((op : Int).toNat) 0).st 12 ((op : Int).toNat) 0) := mds_st (k := 12) hV162 (by decide) e164 hk164 (show (-1000000 : Int) ≤ 0 ∧ 0 ≤ 1000000 by first | omega | (split <;> omega))
              refine lv_aload_n hx hb d_Model_opens_132 rfl (lv_at hl 1 rfl) ?_
              refine lv_iload_n hx hb d_Model_opens_133 rfl (lv_at hl 4 rfl) ?_
              refine lv_iconst (v := iI (1)) hx hb d_Model_opens_134 rfl ?_
              refine ia_add hx hb d_Model_opens_135 ?_
              refine lv_aload_n hx hb d_Model_opens_136 rfl (lv_at hl 1 rfl) ?_
              refine mw_get (ci := 4) (i := 40) (v := .int (iI ((mStop 2 a S).f 4))) (C := R_Model) (T := T_Model) (N := 23) hx hb hts in_Model hown hK hM hV164.1 rfl rfl 14 (by decide) (hts _ m_559) rfl d_Model_opens_137 ?_
              have r165 : -1000000 ≤ (mStop 2 a S).f 4 ∧ (mStop 2 a S).f 4 ≤ 1000000 := hV164.2.2.2 4
              refine ia_icmp_le (a := op + 1) (b := (mStop 2 a S).f 4) (tgt := 149) hx hb d_Model_opens_140 (by decide) (by omega) (by omega) (fun c166 => ?_) (fun c166 => ?_)
              · refine lv_aload_n hx hb d_Model_opens_149 rfl (lv_at hl 1 rfl) ?_
                refine mw_get (ci := 4) (i := 40) (v := .int (iI ((mStop 2 a S).f 4))) (C := R_Model) (T := T_Model) (N := 23) hx hb hts in_Model hown hK hM hV164.1 rfl rfl 14 (by decide) (hts _ m_559) rfl d_Model_opens_150 ?_
                have r167 : -1000000 ≤ (mStop 2 a S).f 4 ∧ (mStop 2 a S).f 4 ≤ 1000000 := hV164.2.2.2 4
                refine mw_put (ci := 4) (i := 40) (v := .int (iI ((mStop 2 a S).f 4))) (C := R_Model) (T := T_Model) (N := 23) hx hb hts in_Model ty_Model ty_Model_ok nm_Model hown hK hM hS hV164.1 rfl rfl 14 (by decide) (hts _ m_559) rfl (ty_Model_ok 14 (by decide)) rfl rfl (Nat.le_of_ble_eq_true rfl) d_Model_opens_153 (fun κ168 H locs e168 hk168 hM hS => ?_)
                have e168 : κ168 40 = some (.inr (4, [.int (iI ((mStop 2 a S).f 8)), .ref (L 41), .int (iI ((mStop 2 a S).f 0)), .int (iI ((mStop 2 a S).f 1)), .ref (L 42), .ref (L 43), .ref (L 44), .int (iI ((mStop 2 a S).f 2)), .int (iI ((mStop 2 a S).f 3)), .ref (L 45), .ref (L 46), .ref (L 47), .ref (L 48), .ref (L 49), .int (iI ((mStop 2 a S).f 4)), .int (iI ((mStop 2 a S).f 5)), .int (iI ((mStop 2 a S).f 6)), .ref (L 50), .ref (L 51), .ref (L 52), .ref (L 53), .ref (L 54), .int (iI ((mStop 2 a S).f 7))])) := e168
                have hV168 : mds g L κ168 ((((((mStop 2 a S).st 9 ((op : Int).toNat) (a + (mLow (S.a 3) a 4))).st 10 ((op : Int).toNat) nd).st 11 ((op : Int).toNat) 0).st 12 ((op : Int).toNat) 0).pf 4 ((mStop 2 a S).f 4)) := mds_pf hV164 e168 hk168 (by first | omega | (split <;> omega))
                refine lv_iconst (v := iI (1)) hx hb d_Model_opens_156 rfl ?_
                exact mw_zret (v := true) hx hb hr hM hS hlocks d_Model_opens_157 (by rw [show mOpens a left op nd r S = (true, (((((mStop 2 a S).st 9 ((op : Int).toNat) (a + (mLow (S.a 3) a 4))).st 10 ((op : Int).toNat) nd).st 11 ((op : Int).toNat) 0).st 12 ((op : Int).toNat) 0).pf 4 ((mStop 2 a S).f 4)) by first | (exfalso; omega) | (unfold mOpens; rw [show mOpA a left op S = mStop 2 a S by unfold mOpA; (first | (exfalso; omega) | (repeat (first | rw [if_pos (by first | assumption | omega)] | rw [if_neg (by first | assumption | exact zne (by assumption) | omega)])))]; (first | (exfalso; omega) | (repeat (first | rw [if_pos (by first | assumption | omega)] | rw [if_neg (by first | assumption | exact zne (by assumption) | omega)]))); unfold mOpB; rw [show bI r = 0 by rw [show r = false by assumption]; rfl]; (first | (exfalso; omega) | (repeat (first | rw [if_pos (by first | assumption | omega)] | rw [if_neg (by first | assumption | exact zne (by assumption) | omega)]))))]; exact ⟨rfl, rfl, hV168, (fun r h => by rw [hk168 r (by omega), hk164 r (by omega), hk162 r (by omega), hk161 r (by omega), hk160 r (by omega), hk155 r (by omega)])⟩)
              · refine lv_iload_n hx hb d_Model_opens_143 rfl (lv_at hl 4 rfl) ?_
                refine lv_iconst (v := iI (1)) hx hb d_Model_opens_144 rfl ?_
                refine ia_add hx hb d_Model_opens_145 ?_
                refine lv_goto (tgt := 153) hx hb d_Model_opens_146 (by decide) ?_
                refine mw_put (ci := 4) (i := 40) (v := .int (iI (op + 1))) (C := R_Model) (T := T_Model) (N := 23) hx hb hts in_Model ty_Model ty_Model_ok nm_Model hown hK hM hS hV164.1 rfl rfl 14 (by decide) (hts _ m_559) rfl (ty_Model_ok 14 (by decide)) rfl rfl (Nat.le_of_ble_eq_true rfl) d_Model_opens_153 (fun κ169 H locs e169 hk169 hM hS => ?_)
                have e169 : κ169 40 = some (.inr (4, [.int (iI ((mStop 2 a S).f 8)), .ref (L 41), .int (iI ((mStop 2 a S).f 0)), .int (iI ((mStop 2 a S).f 1)), .ref (L 42), .ref (L 43), .ref (L 44), .int (iI ((mStop 2 a S).f 2)), .int (iI ((mStop 2 a S).f 3)), .ref (L 45), .ref (L 46), .ref (L 47), .ref (L 48), .ref (L 49), .int (iI (op + 1)), .int (iI ((mStop 2 a S).f 5)), .int (iI ((mStop 2 a S).f 6)), .ref (L 50), .ref (L 51), .ref (L 52), .ref (L 53), .ref (L 54), .int (iI ((mStop 2 a S).f 7))])) := e169
                have hV169 : mds g L κ169 ((((((mStop 2 a S).st 9 ((op : Int).toNat) (a + (mLow (S.a 3) a 4))).st 10 ((op : Int).toNat) nd).st 11 ((op : Int).toNat) 0).st 12 ((op : Int).toNat) 0).pf 4 (op + 1)) := mds_pf hV164 e169 hk169 (by first | omega | (split <;> omega))
                refine lv_iconst (v := iI (1)) hx hb d_Model_opens_156 rfl ?_
                exact mw_zret (v := true) hx hb hr hM hS hlocks d_Model_opens_157 (by rw [show mOpens a left op nd r S = (true, (((((mStop 2 a S).st 9 ((op : Int).toNat) (a + (mLow (S.a 3) a 4))).st 10 ((op : Int).toNat) nd).st 11 ((op : Int).toNat) 0).st 12 ((op : Int).toNat) 0).pf 4 (op + 1)) by first | (exfalso; omega) | (unfold mOpens; rw [show mOpA a left op S = mStop 2 a S by unfold mOpA; (first | (exfalso; omega) | (repeat (first | rw [if_pos (by first | assumption | omega)] | rw [if_neg (by first | assumption | exact zne (by assumption) | omega)])))]; (first | (exfalso; omega) | (repeat (first | rw [if_pos (by first | assumption | omega)] | rw [if_neg (by first | assumption | exact zne (by assumption) | omega)]))); unfold mOpB; rw [show bI r = 0 by rw [show r = false by assumption]; rfl]; (first | (exfalso; omega) | (repeat (first | rw [if_pos (by first | assumption | omega)] | rw [if_neg (by first | assumption | exact zne (by assumption) | omega)]))))]; exact ⟨rfl, rfl, hV169, (fun r h => by rw [hk169 r (by omega), hk164 r (by omega), hk162 r (by omega), hk161 r (by omega), hk160 r (by omega), hk155 r (by omega)])⟩)
            · refine lv_iconst (v := iI (1)) hx hb d_Model_opens_126 rfl ?_
              refine lv_goto (tgt := 131) hx hb d_Model_opens_127 (by decide) ?_
              refine mw_iast (n := 20) (f := (mStop 2 a S).a 12) (a := op) (v := 1) (i := 53) hx hb hK hM hS 1 (hV162.2.1 12 (by decide)) rfl rfl (by omega) (by decide) d_Model_opens_131 (fun κ170 H locs e170 hk170 hM hS => ?_)
              have hV170 : mds g L κ170 (((((mStop 2 a S).st 9 ((op : Int).toNat) (a + (mLow (S.a 3) a 4))).st 10 ((op : Int).toNat) nd).st 11 ((op : Int).toNat) 0).st 12 ((op : Int).toNat) 1) := mds_st (k := 12) hV162 (by decide) e170 hk170 (show (-1000000 : Int) ≤ 1 ∧ 1 ≤ 1000000 by first | omega | (split <;> omega))
              refine lv_aload_n hx hb d_Model_opens_132 rfl (lv_at hl 1 rfl) ?_
              refine lv_iload_n hx hb d_Model_opens_133 rfl (lv_at hl 4 rfl) ?_
              refine lv_iconst (v := iI (1)) hx hb d_Model_opens_134 rfl ?_
              refine ia_add hx hb d_Model_opens_135 ?_
              refine lv_aload_n hx hb d_Model_opens_136 rfl (lv_at hl 1 rfl) ?_
              refine mw_get (ci := 4) (i := 40) (v := .int (iI ((mStop 2 a S).f 4))) (C := R_Model) (T := T_Model) (N := 23) hx hb hts in_Model hown hK hM hV170.1 rfl rfl 14 (by decide) (hts _ m_559) rfl d_Model_opens_137 ?_
              have r171 : -1000000 ≤ (mStop 2 a S).f 4 ∧ (mStop 2 a S).f 4 ≤ 1000000 := hV170.2.2.2 4
              refine ia_icmp_le (a := op + 1) (b := (mStop 2 a S).f 4) (tgt := 149) hx hb d_Model_opens_140 (by decide) (by omega) (by omega) (fun c172 => ?_) (fun c172 => ?_)
              · refine lv_aload_n hx hb d_Model_opens_149 rfl (lv_at hl 1 rfl) ?_
                refine mw_get (ci := 4) (i := 40) (v := .int (iI ((mStop 2 a S).f 4))) (C := R_Model) (T := T_Model) (N := 23) hx hb hts in_Model hown hK hM hV170.1 rfl rfl 14 (by decide) (hts _ m_559) rfl d_Model_opens_150 ?_
                have r173 : -1000000 ≤ (mStop 2 a S).f 4 ∧ (mStop 2 a S).f 4 ≤ 1000000 := hV170.2.2.2 4
                refine mw_put (ci := 4) (i := 40) (v := .int (iI ((mStop 2 a S).f 4))) (C := R_Model) (T := T_Model) (N := 23) hx hb hts in_Model ty_Model ty_Model_ok nm_Model hown hK hM hS hV170.1 rfl rfl 14 (by decide) (hts _ m_559) rfl (ty_Model_ok 14 (by decide)) rfl rfl (Nat.le_of_ble_eq_true rfl) d_Model_opens_153 (fun κ174 H locs e174 hk174 hM hS => ?_)
                have e174 : κ174 40 = some (.inr (4, [.int (iI ((mStop 2 a S).f 8)), .ref (L 41), .int (iI ((mStop 2 a S).f 0)), .int (iI ((mStop 2 a S).f 1)), .ref (L 42), .ref (L 43), .ref (L 44), .int (iI ((mStop 2 a S).f 2)), .int (iI ((mStop 2 a S).f 3)), .ref (L 45), .ref (L 46), .ref (L 47), .ref (L 48), .ref (L 49), .int (iI ((mStop 2 a S).f 4)), .int (iI ((mStop 2 a S).f 5)), .int (iI ((mStop 2 a S).f 6)), .ref (L 50), .ref (L 51), .ref (L 52), .ref (L 53), .ref (L 54), .int (iI ((mStop 2 a S).f 7))])) := e174
                have hV174 : mds g L κ174 ((((((mStop 2 a S).st 9 ((op : Int).toNat) (a + (mLow (S.a 3) a 4))).st 10 ((op : Int).toNat) nd).st 11 ((op : Int).toNat) 0).st 12 ((op : Int).toNat) 1).pf 4 ((mStop 2 a S).f 4)) := mds_pf hV170 e174 hk174 (by first | omega | (split <;> omega))
                refine lv_iconst (v := iI (1)) hx hb d_Model_opens_156 rfl ?_
                exact mw_zret (v := true) hx hb hr hM hS hlocks d_Model_opens_157 (by rw [show mOpens a left op nd r S = (true, (((((mStop 2 a S).st 9 ((op : Int).toNat) (a + (mLow (S.a 3) a 4))).st 10 ((op : Int).toNat) nd).st 11 ((op : Int).toNat) 0).st 12 ((op : Int).toNat) 1).pf 4 ((mStop 2 a S).f 4)) by first | (exfalso; omega) | (unfold mOpens; rw [show mOpA a left op S = mStop 2 a S by unfold mOpA; (first | (exfalso; omega) | (repeat (first | rw [if_pos (by first | assumption | omega)] | rw [if_neg (by first | assumption | exact zne (by assumption) | omega)])))]; (first | (exfalso; omega) | (repeat (first | rw [if_pos (by first | assumption | omega)] | rw [if_neg (by first | assumption | exact zne (by assumption) | omega)]))); unfold mOpB; rw [show bI r = 1 by rw [show r = true by assumption]; rfl]; (first | (exfalso; omega) | (repeat (first | rw [if_pos (by first | assumption | omega)] | rw [if_neg (by first | assumption | exact zne (by assumption) | omega)]))))]; exact ⟨rfl, rfl, hV174, (fun r h => by rw [hk174 r (by omega), hk170 r (by omega), hk162 r (by omega), hk161 r (by omega), hk160 r (by omega), hk155 r (by omega)])⟩)
              · refine lv_iload_n hx hb d_Model_opens_143 rfl (lv_at hl 4 rfl) ?_
                refine lv_iconst (v := iI (1)) hx hb d_Model_opens_144 rfl ?_
                refine ia_add hx hb d_Model_opens_145 ?_
                refine lv_goto (tgt := 153) hx hb d_Model_opens_146 (by decide) ?_
                refine mw_put (ci := 4) (i := 40) (v := .int (iI (op + 1))) (C := R_Model) (T := T_Model) (N := 23) hx hb hts in_Model ty_Model ty_Model_ok nm_Model hown hK hM hS hV170.1 rfl rfl 14 (by decide) (hts _ m_559) rfl (ty_Model_ok 14 (by decide)) rfl rfl (Nat.le_of_ble_eq_true rfl) d_Model_opens_153 (fun κ175 H locs e175 hk175 hM hS => ?_)
                have e175 : κ175 40 = some (.inr (4, [.int (iI ((mStop 2 a S).f 8)), .ref (L 41), .int (iI ((mStop 2 a S).f 0)), .int (iI ((mStop 2 a S).f 1)), .ref (L 42), .ref (L 43), .ref (L 44), .int (iI ((mStop 2 a S).f 2)), .int (iI ((mStop 2 a S).f 3)), .ref (L 45), .ref (L 46), .ref (L 47), .ref (L 48), .ref (L 49), .int (iI (op + 1)), .int (iI ((mStop 2 a S).f 5)), .int (iI ((mStop 2 a S).f 6)), .ref (L 50), .ref (L 51), .ref (L 52), .ref (L 53), .ref (L 54), .int (iI ((mStop 2 a S).f 7))])) := e175
                have hV175 : mds g L κ175 ((((((mStop 2 a S).st 9 ((op : Int).toNat) (a + (mLow (S.a 3) a 4))).st 10 ((op : Int).toNat) nd).st 11 ((op : Int).toNat) 0).st 12 ((op : Int).toNat) 1).pf 4 (op + 1)) := mds_pf hV170 e175 hk175 (by first | omega | (split <;> omega))
                refine lv_iconst (v := iI (1)) hx hb d_Model_opens_156 rfl ?_
                exact mw_zret (v := true) hx hb hr hM hS hlocks d_Model_opens_157 (by rw [show mOpens a left op nd r S = (true, (((((mStop 2 a S).st 9 ((op : Int).toNat) (a + (mLow (S.a 3) a 4))).st 10 ((op : Int).toNat) nd).st 11 ((op : Int).toNat) 0).st 12 ((op : Int).toNat) 1).pf 4 (op + 1)) by first | (exfalso; omega) | (unfold mOpens; rw [show mOpA a left op S = mStop 2 a S by unfold mOpA; (first | (exfalso; omega) | (repeat (first | rw [if_pos (by first | assumption | omega)] | rw [if_neg (by first | assumption | exact zne (by assumption) | omega)])))]; (first | (exfalso; omega) | (repeat (first | rw [if_pos (by first | assumption | omega)] | rw [if_neg (by first | assumption | exact zne (by assumption) | omega)]))); unfold mOpB; rw [show bI r = 1 by rw [show r = true by assumption]; rfl]; (first | (exfalso; omega) | (repeat (first | rw [if_pos (by first | assumption | omega)] | rw [if_neg (by first | assumption | exact zne (by assumption) | omega)]))))]; exact ⟨rfl, rfl, hV175, (fun r h => by rw [hk175 r (by omega), hk170 r (by omega), hk162 r (by omega), hk161 r (by omega), hk160 r (by omega), hk155 r (by omega)])⟩)
          · refine lv_iconst (v := iI (0)) hx hb d_Model_opens_88 rfl ?_
            exact mw_zret (v := false) hx hb hr hM hS hlocks d_Model_opens_89 (by rw [show mOpens a left op nd r S = (false, mStop 2 a S) by first | (exfalso; omega) | (unfold mOpens; rw [show mOpA a left op S = mStop 2 a S by unfold mOpA; (first | (exfalso; omega) | (repeat (first | rw [if_pos (by first | assumption | omega)] | rw [if_neg (by first | assumption | exact zne (by assumption) | omega)])))]; (first | (exfalso; omega) | (repeat (first | rw [if_pos (by first | assumption | omega)] | rw [if_neg (by first | assumption | exact zne (by assumption) | omega)]))))]; exact ⟨rfl, rfl, hV155, (fun r h => by rw [hk155 r (by omega)])⟩)
  · refine lv_aload_n hx hb d_Model_opens_5 rfl (lv_at hl 0 rfl) ?_
    refine lv_iconst (v := iI (1)) hx hb d_Model_opens_6 rfl ?_
    refine lv_iload_n hx hb d_Model_opens_7 rfl (lv_at hl 1 rfl) ?_
    refine mw_callV (i := 40) (As := [.int (iI 1), .int (iI a)]) (rest := []) ⟨hx, hb, hml, hown, hts⟩ hK hM hS rfl hV.1 rfl (c_Model_stop l D g lo L κ S hV 1 a (by omega) (by omega)) (cwV 2 hts (gV m_638 m_640 m_20 m_58 m_641) rfl rfl rfl (by decide +kernel) ⟨Nat.le_of_ble_eq_true rfl, Nat.le_of_ble_eq_true rfl⟩) rfl hl.1 rfl (Nat.le_of_ble_eq_true rfl) d_Model_opens_8 ⟨Nat.le_of_ble_eq_true rfl, Nat.le_of_ble_eq_true rfl⟩ (fun v176 L176 κ176 H locs hp176 hM hS => ?_)
    obtain ⟨rfl, rfl, hV176, hk176⟩ := hp176
    have r177 := mStop_nz (x := a) (S := S) (show (1 : Int) ≠ 0 by decide)
    have r178 := congrFun (congrFun (mStop_a (y := 1) (x := a) (S := S)) 3)
    refine lv_iconst (v := iI (0)) hx hb d_Model_opens_11 rfl ?_
    exact mw_zret (v := false) hx hb hr hM hS hlocks d_Model_opens_12 (by rw [show mOpens a left op nd r S = (false, mStop 1 a S) by first | (exfalso; omega) | (unfold mOpens; (first | (exfalso; omega) | (repeat (first | rw [if_pos (by first | assumption | omega)] | rw [if_neg (by first | assumption | exact zne (by assumption) | omega)]))))]; exact ⟨rfl, rfl, hV176, (fun r h => by rw [hk176 r (by omega)])⟩)
set_option maxHeartbeats 4000000 in
set_option maxRecDepth 100000 in
theorem c_Model_isKind (l : Launch) (D : va_G) (g : Nat → ClassId) (lo : Nat) (L : Nat → Nat) (κ : Nat → Option va_E) (S : MS) (hV : mds g L κ S) (a : Int) (ha : -2147483648 ≤ a ∧ a < 2147483648) : Met l y_Model_isKind w_Model_isKind ({ frames := 0, cells := 0, slots := 0, locals := 0 }) (mwP D vwCl (tyL g) lo L κ [.ref (L 40), .int (iI a)]) (mwQ D vwCl lo (mwR (some (.int (iI (bI (kIs a))))) L κ)) 0 0 (fun q => lo ≤ q) := by
  refine Met.ofW (cc := b_Model_isKind) (maxL := 2) (ret := (Option.some Jvm.ClassFile.FieldType.boolean)) (by decide) rfl ?_
  intro p e s m args below meth c s₁ B hml hpre
  obtain ⟨hargs, hM, hK⟩ := hpre
  have hx := B.exec
  have hb := B.bytes
  have hr := B.returns
  have hts : ∀ w ∈ wA, w.before args s = true := fun w h => atoms_spec (ws := w_Model_isKind) B.pre w (List.mem_cons_of_mem _ h)
  have hown : s.vm.findClass R_Model = some m.cls := findClass_of_methodNamed B.named
  have hlocks := B.notSynchronized
  have hS : va_S (fun q => lo ≤ q) s.heap s.heap [] := va_S.rf
  obtain ⟨ls, hls, hl⟩ := mw_entry (m := m) [.ref (L 40), .int (iI a)] (n := 2) (Nat.le_of_ble_eq_true rfl) hargs
  refine W.eq hls ?_
  have hl : lv_has ls 2 [(0, .ref (L 40)), (1, .int (iI a))] := hl
  refine lv_iload_n hx hb d_Model_isKind_0 rfl (lv_at hl 1 rfl) ?_
  refine lv_iconst (v := iI (2)) hx hb d_Model_isKind_1 rfl ?_
  refine ia_icmp_eq (a := a) (b := 2) (tgt := 39) hx hb d_Model_isKind_2 (by decide) (by omega) (by omega) (fun c1 => ?_) (fun c1 => ?_)
  · refine lv_iconst (v := iI (1)) hx hb d_Model_isKind_39 rfl ?_
    refine lv_goto (tgt := 44) hx hb d_Model_isKind_40 (by decide) ?_
    exact mw_zret (v := true) hx hb hr hM hS hlocks d_Model_isKind_44 (mwR_z (by exact (decide_eq_true (by omega)).symm))
  · refine lv_iload_n hx hb d_Model_isKind_5 rfl (lv_at hl 1 rfl) ?_
    refine lv_iconst (v := iI (3)) hx hb d_Model_isKind_6 rfl ?_
    refine ia_icmp_eq (a := a) (b := 3) (tgt := 39) hx hb d_Model_isKind_7 (by decide) (by omega) (by omega) (fun c2 => ?_) (fun c2 => ?_)
    · refine lv_iconst (v := iI (1)) hx hb d_Model_isKind_39 rfl ?_
      refine lv_goto (tgt := 44) hx hb d_Model_isKind_40 (by decide) ?_
      exact mw_zret (v := true) hx hb hr hM hS hlocks d_Model_isKind_44 (mwR_z (by exact (decide_eq_true (by omega)).symm))
    · refine lv_iload_n hx hb d_Model_isKind_10 rfl (lv_at hl 1 rfl) ?_
      refine lv_iconst (v := iI (4)) hx hb d_Model_isKind_11 rfl ?_
      refine ia_icmp_eq (a := a) (b := 4) (tgt := 39) hx hb d_Model_isKind_12 (by decide) (by omega) (by omega) (fun c3 => ?_) (fun c3 => ?_)
      · refine lv_iconst (v := iI (1)) hx hb d_Model_isKind_39 rfl ?_
        refine lv_goto (tgt := 44) hx hb d_Model_isKind_40 (by decide) ?_
        exact mw_zret (v := true) hx hb hr hM hS hlocks d_Model_isKind_44 (mwR_z (by exact (decide_eq_true (by omega)).symm))
      · refine lv_iload_n hx hb d_Model_isKind_15 rfl (lv_at hl 1 rfl) ?_
        refine lv_bipush (v := iI (8)) hx hb d_Model_isKind_16 (by decide) ?_
        refine ia_icmp_eq (a := a) (b := 8) (tgt := 39) hx hb d_Model_isKind_18 (by decide) (by omega) (by omega) (fun c4 => ?_) (fun c4 => ?_)
        · refine lv_iconst (v := iI (1)) hx hb d_Model_isKind_39 rfl ?_
          refine lv_goto (tgt := 44) hx hb d_Model_isKind_40 (by decide) ?_
          exact mw_zret (v := true) hx hb hr hM hS hlocks d_Model_isKind_44 (mwR_z (by exact (decide_eq_true (by omega)).symm))
        · refine lv_iload_n hx hb d_Model_isKind_21 rfl (lv_at hl 1 rfl) ?_
          refine lv_bipush (v := iI (10)) hx hb d_Model_isKind_22 (by decide) ?_
          refine ia_icmp_eq (a := a) (b := 10) (tgt := 39) hx hb d_Model_isKind_24 (by decide) (by omega) (by omega) (fun c5 => ?_) (fun c5 => ?_)
          · refine lv_iconst (v := iI (1)) hx hb d_Model_isKind_39 rfl ?_
            refine lv_goto (tgt := 44) hx hb d_Model_isKind_40 (by decide) ?_
            exact mw_zret (v := true) hx hb hr hM hS hlocks d_Model_isKind_44 (mwR_z (by exact (decide_eq_true (by omega)).symm))
          · refine lv_iload_n hx hb d_Model_isKind_27 rfl (lv_at hl 1 rfl) ?_
            refine lv_bipush (v := iI (16)) hx hb d_Model_isKind_28 (by decide) ?_
            refine ia_icmp_eq (a := a) (b := 16) (tgt := 39) hx hb d_Model_isKind_30 (by decide) (by omega) (by omega) (fun c6 => ?_) (fun c6 => ?_)
            · refine lv_iconst (v := iI (1)) hx hb d_Model_isKind_39 rfl ?_
              refine lv_goto (tgt := 44) hx hb d_Model_isKind_40 (by decide) ?_
              exact mw_zret (v := true) hx hb hr hM hS hlocks d_Model_isKind_44 (mwR_z (by exact (decide_eq_true (by omega)).symm))
            · refine lv_iload_n hx hb d_Model_isKind_33 rfl (lv_at hl 1 rfl) ?_
              refine lv_bipush (v := iI (18)) hx hb d_Model_isKind_34 (by decide) ?_
              refine ia_icmp_ne (a := a) (b := 18) (tgt := 43) hx hb d_Model_isKind_36 (by decide) (by omega) (by omega) (fun c7 => ?_) (fun c7 => ?_)
              · refine lv_iconst (v := iI (0)) hx hb d_Model_isKind_43 rfl ?_
                exact mw_zret (v := false) hx hb hr hM hS hlocks d_Model_isKind_44 (mwR_z (by exact (decide_eq_false (by omega)).symm))
              · refine lv_iconst (v := iI (1)) hx hb d_Model_isKind_39 rfl ?_
                refine lv_goto (tgt := 44) hx hb d_Model_isKind_40 (by decide) ?_
                exact mw_zret (v := true) hx hb hr hM hS hlocks d_Model_isKind_44 (mwR_z (by exact (decide_eq_true (by omega)).symm))
set_option maxHeartbeats 4000000 in
set_option maxRecDepth 100000 in
theorem c_Model_digits (l : Launch) (D : va_G) (g : Nat → ClassId) (lo : Nat) (L : Nat → Nat) (κ : Nat → Option va_E) (a : Int) (ha : -2147483648 ≤ a ∧ a < 2147483648) : Met l y_Model_digits w_Model_digits ({ frames := 0, cells := 0, slots := 0, locals := 0 }) (mwP D vwCl (tyL g) lo L κ [.int (iI a)]) (mwQ D vwCl lo (mwR (some (.int (iI (bDigits a)))) L κ)) 0 0 (fun q => lo ≤ q) := by
  refine Met.ofW (cc := b_Model_digits) (maxL := 1) (ret := (Option.some Jvm.ClassFile.FieldType.int)) (by decide) rfl ?_
  intro p e s m args below meth c s₁ B hml hpre
  obtain ⟨hargs, hM, hK⟩ := hpre
  have hx := B.exec
  have hb := B.bytes
  have hr := B.returns
  have hts : ∀ w ∈ wA, w.before args s = true := fun w h => atoms_spec (ws := w_Model_digits) B.pre w (List.mem_cons_of_mem _ h)
  have hown : s.vm.findClass R_Model = some m.cls := findClass_of_methodNamed B.named
  have hlocks := B.notSynchronized
  have hS : va_S (fun q => lo ≤ q) s.heap s.heap [] := va_S.rf
  obtain ⟨ls, hls, hl⟩ := mw_entry (m := m) [.int (iI a)] (n := 1) (Nat.le_of_ble_eq_true rfl) hargs
  refine W.eq hls ?_
  have hl : lv_has ls 1 [(0, .int (iI a))] := hl
  refine lv_iload_n hx hb d_Model_digits_0 rfl (lv_at hl 0 rfl) ?_
  refine lv_sipush (v := iI (999)) hx hb d_Model_digits_1 (by decide) ?_
  refine ia_icmp_le (a := a) (b := 999) (tgt := 11) hx hb d_Model_digits_4 (by decide) (by omega) (by omega) (fun c1 => ?_) (fun c1 => ?_)
  · refine lv_iload_n hx hb d_Model_digits_11 rfl (lv_at hl 0 rfl) ?_
    refine lv_bipush (v := iI (99)) hx hb d_Model_digits_12 (by decide) ?_
    refine ia_icmp_le (a := a) (b := 99) (tgt := 21) hx hb d_Model_digits_14 (by decide) (by omega) (by omega) (fun c2 => ?_) (fun c2 => ?_)
    · refine lv_iload_n hx hb d_Model_digits_21 rfl (lv_at hl 0 rfl) ?_
      refine lv_bipush (v := iI (9)) hx hb d_Model_digits_22 (by decide) ?_
      refine ia_icmp_le (a := a) (b := 9) (tgt := 31) hx hb d_Model_digits_24 (by decide) (by omega) (by omega) (fun c3 => ?_) (fun c3 => ?_)
      · refine lv_iconst (v := iI (1)) hx hb d_Model_digits_31 rfl ?_
        exact mw_iret hx hb hr hM hS hlocks d_Model_digits_32 (mwR_i (by unfold bDigits; (repeat split) <;> omega))
      · refine lv_iconst (v := iI (2)) hx hb d_Model_digits_27 rfl ?_
        refine lv_goto (tgt := 32) hx hb d_Model_digits_28 (by decide) ?_
        exact mw_iret hx hb hr hM hS hlocks d_Model_digits_32 (mwR_i (by unfold bDigits; (repeat split) <;> omega))
    · refine lv_iconst (v := iI (3)) hx hb d_Model_digits_17 rfl ?_
      refine lv_goto (tgt := 32) hx hb d_Model_digits_18 (by decide) ?_
      exact mw_iret hx hb hr hM hS hlocks d_Model_digits_32 (mwR_i (by unfold bDigits; (repeat split) <;> omega))
  · refine lv_iconst (v := iI (4)) hx hb d_Model_digits_7 rfl ?_
    refine lv_goto (tgt := 32) hx hb d_Model_digits_8 (by decide) ?_
    exact mw_iret hx hb hr hM hS hlocks d_Model_digits_32 (mwR_i (by unfold bDigits; (repeat split) <;> omega))
set_option maxHeartbeats 4000000 in
set_option maxRecDepth 100000 in
theorem c_Model_digit (l : Launch) (D : va_G) (g : Nat → ClassId) (lo : Nat) (L : Nat → Nat) (κ : Nat → Option va_E) (v k : Int) (hv : 0 ≤ v ∧ v ≤ 1000000) (hk0 : -10 ≤ k ∧ k ≤ 10) : Met l y_Model_digit w_Model_digit ({ frames := 1, cells := 0, slots := 0, locals := 20 }) (mwP D vwCl (tyL g) lo L κ [.int (iI v), .int (iI k)]) (mwQ D vwCl lo (mwR (some (.int (iI (mDigit v k)))) L κ)) 0 0 (fun q => lo ≤ q) := by
  refine Met.ofW (cc := b_Model_digit) (maxL := 4) (ret := (Option.some Jvm.ClassFile.FieldType.int)) (by decide) rfl ?_
  intro p e s m args below meth c s₁ B hml hpre
  obtain ⟨hargs, hM, hK⟩ := hpre
  have hx := B.exec
  have hb := B.bytes
  have hr := B.returns
  have hts : ∀ w ∈ wA, w.before args s = true := fun w h => atoms_spec (ws := w_Model_digit) B.pre w (List.mem_cons_of_mem _ h)
  have hown : s.vm.findClass R_Model = some m.cls := findClass_of_methodNamed B.named
  have hlocks := B.notSynchronized
  have hS : va_S (fun q => lo ≤ q) s.heap s.heap [] := va_S.rf
  have loop9 : ∀ (N : Nat) (i : Int) (t : Int), (i - k).toNat < N → (-20 ≤ i ∧ i ≤ 10) → (0 ≤ t ∧ t ≤ 1000000) → (mDigN (bDigits v - 1 - k).toNat v = mDigN (i - k).toNat t) → ∀ (H : Heap) (locs : List Loc) (ls : Array Slot), mw D vwCl lo L κ H → va_S (fun q => lo ≤ q) s.heap H locs → lv_has ls 4 [(3, .int (iI i)), (2, .int (iI t)), (0, .int (iI v)), (1, .int (iI k))] → W p l e (headSpec w_Model_digit ({ frames := 1, cells := 0, slots := 0, locals := 20 })).room s m args below meth c H locs 0 0 (MQ below (mwQ D vwCl lo (mwR (some (.int (iI (mDigit v k)))) L κ)) args s 0 0 (fun q => lo ≤ q)) (F0 m 9 ls []) := by
    intro N
    induction N with
    | zero => intro i t hms; exact absurd hms (Nat.not_lt_zero _)
    | succ N ih =>
      intro i t hms hi ht hres H locs ls hM hS hl
      refine lv_iload_n hx hb d_Model_digit_9 rfl (lv_at hl 0 rfl) ?_
      refine lv_iload_n hx hb d_Model_digit_10 rfl (lv_at hl 3 rfl) ?_
      refine ia_icmp_le (a := i) (b := k) (tgt := 25) hx hb d_Model_digit_11 (by decide) (by omega) (by omega) (fun c1 => ?_) (fun c1 => ?_)
      · refine lv_bipush (v := iI (48)) hx hb d_Model_digit_25 (by decide) ?_
        refine lv_iload_n hx hb d_Model_digit_27 rfl (lv_at hl 1 rfl) ?_
        refine lv_bipush (v := iI (10)) hx hb d_Model_digit_28 (by decide) ?_
        refine ia_rem hx hb (by omega) (by omega) d_Model_digit_30 ?_
        refine ia_add hx hb d_Model_digit_31 ?_
        exact mw_iret hx hb hr hM hS hlocks d_Model_digit_32 (mwR_i (by unfold mDigit; rw [hres, mDigN_e (by omega)]))
      · refine lv_iload_n hx hb d_Model_digit_14 rfl (lv_at hl 1 rfl) ?_
        refine lv_bipush (v := iI (10)) hx hb d_Model_digit_15 (by decide) ?_
        refine ia_div hx hb (by omega) (by omega) d_Model_digit_17 ?_
        refine lv_istore_n (lv' := [(2, .int (iI (t / 10))), (3, .int (iI i)), (0, .int (iI v)), (1, .int (iI k))]) hx hb d_Model_digit_18 rfl hl (by decide) rfl (fun ls hl => ?_)
        refine lv_iinc (v := iI (i + (-1))) (lv' := [(3, .int (iI (i + (-1)))), (2, .int (iI (t / 10))), (0, .int (iI v)), (1, .int (iI k))]) hx hb d_Model_digit_19 hl (k := 1) rfl (iI_inc _ _) (by decide) rfl (fun ls hl => ?_)
        refine lv_goto (tgt := 9) hx hb d_Model_digit_22 (by decide) ?_
        exact ih (i + (-1)) (t / 10) (by omega) (by omega) (by omega) (by rw [hres, mDigN_s (by omega)]) _ _ ls hM hS (lv_sub hl [0, 1, 2, 3] rfl)
  obtain ⟨ls, hls, hl⟩ := mw_entry (m := m) [.int (iI v), .int (iI k)] (n := 4) (Nat.le_of_ble_eq_true rfl) hargs
  refine W.eq hls ?_
  have hl : lv_has ls 4 [(0, .int (iI v)), (1, .int (iI k))] := hl
  refine lv_iload_n hx hb d_Model_digit_0 rfl (lv_at hl 0 rfl) ?_
  refine lv_istore_n (lv' := [(2, .int (iI v)), (0, .int (iI v)), (1, .int (iI k))]) hx hb d_Model_digit_1 rfl hl (by decide) rfl (fun ls hl => ?_)
  refine lv_iload_n hx hb d_Model_digit_2 rfl (lv_at hl 1 rfl) ?_
  refine mw_rdS (As := [.int (iI v)]) (rest := []) ⟨hx, hb, hml, hown, hts⟩ hK hM hS (c_Model_digits l D g lo L κ v (by omega)) (cwS 1 hts (gS m_672 m_673 m_58 m_674) rfl rfl rfl (by decide +kernel) ⟨Nat.le_of_ble_eq_true rfl, Nat.le_of_ble_eq_true rfl⟩) rfl hl.1 rfl (Nat.le_of_ble_eq_true rfl) d_Model_digit_3 ⟨Nat.le_of_ble_eq_true rfl, Nat.le_of_ble_eq_true rfl⟩ (fun H locs hM hS => ?_)
  have r2 := bDigits_r v
  refine lv_iconst (v := iI (1)) hx hb d_Model_digit_6 rfl ?_
  refine ia_sub hx hb d_Model_digit_7 ?_
  refine lv_istore_n (lv' := [(3, .int (iI ((bDigits v) - 1))), (2, .int (iI v)), (0, .int (iI v)), (1, .int (iI k))]) hx hb d_Model_digit_8 rfl hl (by decide) rfl (fun ls hl => ?_)
  exact loop9 _ (bDigits v - 1) v (Nat.lt_succ_self _) (by omega) (by omega) rfl _ _ ls hM hS (lv_sub hl [0, 1, 2, 3] rfl)
set_option maxHeartbeats 4000000 in
set_option maxRecDepth 100000 in
theorem c_Model_isNumber (l : Launch) (D : va_G) (g : Nat → ClassId) (lo : Nat) (L : Nat → Nat) (κ : Nat → Option va_E) (f : Nat → Int) (kr n : Nat) (hA : κ kr = some (.inl (g 1, n, .inl (fun x => iI (f x))))) (hn : n < 100000) (hf : ∀ x, 0 ≤ f x ∧ f x ≤ 255) (a to v : Int) (ha : 0 ≤ a ∧ a ≤ 10000) (hto : -10000 ≤ to ∧ to ≤ n) (hv : 0 ≤ v ∧ v ≤ 1000000) : Met l y_Model_isNumber w_Model_isNumber ({ frames := 2, cells := 0, slots := 0, locals := 43 }) (mwP D vwCl (tyL g) lo L κ [.ref (L kr), .int (iI a), .int (iI to), .int (iI v)]) (mwQ D vwCl lo (mwR (some (.int (iI (bI (mNum f a to v))))) L κ)) 0 0 (fun q => lo ≤ q) := by
  refine Met.ofW (cc := b_Model_isNumber) (maxL := 5) (ret := (Option.some Jvm.ClassFile.FieldType.boolean)) (by decide) rfl ?_
  intro p e s m args below meth c s₁ B hml hpre
  obtain ⟨hargs, hM, hK⟩ := hpre
  have hx := B.exec
  have hb := B.bytes
  have hr := B.returns
  have hts : ∀ w ∈ wA, w.before args s = true := fun w h => atoms_spec (ws := w_Model_isNumber) B.pre w (List.mem_cons_of_mem _ h)
  have hown : s.vm.findClass R_Model = some m.cls := findClass_of_methodNamed B.named
  have hlocks := B.notSynchronized
  have hS : va_S (fun q => lo ≤ q) s.heap s.heap [] := va_S.rf
  have loop15 : ∀ (N : Nat) (k : Int), (to - a - k).toNat < N → (0 ≤ k ∧ k ≤ 5) → (to - a ≤ 4) → (mNum f a to v = mNumN f a v (to - a - k).toNat k) → ∀ (H : Heap) (locs : List Loc) (ls : Array Slot), mw D vwCl lo L κ H → va_S (fun q => lo ≤ q) s.heap H locs → lv_has ls 5 [(4, .int (iI k)), (0, .ref (L kr)), (1, .int (iI a)), (2, .int (iI to)), (3, .int (iI v))] → W p l e (headSpec w_Model_isNumber ({ frames := 2, cells := 0, slots := 0, locals := 43 })).room s m args below meth c H locs 0 0 (MQ below (mwQ D vwCl lo (mwR (some (.int (iI (bI (mNum f a to v))))) L κ)) args s 0 0 (fun q => lo ≤ q)) (F0 m 15 ls []) := by
    intro N
    induction N with
    | zero => intro k hms; exact absurd hms (Nat.not_lt_zero _)
    | succ N ih =>
      intro k hms hk hle hres H locs ls hM hS hl
      refine lv_iload hx hb d_Model_isNumber_15 (lv_at hl 0 rfl) ?_
      refine lv_iload_n hx hb d_Model_isNumber_17 rfl (lv_at hl 3 rfl) ?_
      refine lv_iload_n hx hb d_Model_isNumber_18 rfl (lv_at hl 2 rfl) ?_
      refine ia_sub hx hb d_Model_isNumber_19 ?_
      refine ia_icmp_ge (a := k) (b := to - a) (tgt := 46) hx hb d_Model_isNumber_20 (by decide) (by omega) (by omega) (fun c1 => ?_) (fun c1 => ?_)
      · refine lv_iconst (v := iI (1)) hx hb d_Model_isNumber_46 rfl ?_
        exact mw_zret (v := true) hx hb hr hM hS hlocks d_Model_isNumber_47 (mwR_z (by rw [hres, mNumN_e (by omega)]))
      · refine lv_aload_n hx hb d_Model_isNumber_23 rfl (lv_at hl 1 rfl) ?_
        refine lv_iload_n hx hb d_Model_isNumber_24 rfl (lv_at hl 2 rfl) ?_
        refine lv_iload hx hb d_Model_isNumber_25 (lv_at hl 0 rfl) ?_
        refine ia_add hx hb d_Model_isNumber_27 ?_
        refine mw_iald (a := a + k) (i := kr) hx hb hK hM 1 hA rfl rfl (by omega) (by omega) d_Model_isNumber_28 ?_
        have r2 := hf (a + k : Int).toNat
        refine lv_iload_n hx hb d_Model_isNumber_29 rfl (lv_at hl 4 rfl) ?_
        refine lv_iload hx hb d_Model_isNumber_30 (lv_at hl 0 rfl) ?_
        refine mw_rdS (As := [.int (iI v), .int (iI k)]) (rest := [.int (iI (f (a + k : Int).toNat))]) ⟨hx, hb, hml, hown, hts⟩ hK hM hS (c_Model_digit l D g lo L κ v k (by omega) (by omega)) (cwS 2 hts (gS m_675 m_676 m_58 m_677) rfl rfl rfl (by decide +kernel) ⟨Nat.le_of_ble_eq_true rfl, Nat.le_of_ble_eq_true rfl⟩) rfl hl.1 rfl (Nat.le_of_ble_eq_true rfl) d_Model_isNumber_32 ⟨Nat.le_of_ble_eq_true rfl, Nat.le_of_ble_eq_true rfl⟩ (fun H locs hM hS => ?_)
        have r3 := mDigit_r v k
        refine ia_icmp_eq (a := f (a + k : Int).toNat) (b := mDigit v k) (tgt := 40) hx hb d_Model_isNumber_35 (by decide) (by omega) (by omega) (fun c4 => ?_) (fun c4 => ?_)
        · refine lv_iinc (v := iI (k + 1)) (lv' := [(4, .int (iI (k + 1))), (0, .ref (L kr)), (1, .int (iI a)), (2, .int (iI to)), (3, .int (iI v))]) hx hb d_Model_isNumber_40 hl (k := 0) rfl (iI_inc _ _) (by decide) rfl (fun ls hl => ?_)
          refine lv_goto (tgt := 15) hx hb d_Model_isNumber_43 (by decide) ?_
          exact ih (k + 1) (by omega) (by omega) hle (by rw [hres, mNumN_s (by omega), if_pos (by omega)]) _ _ ls hM hS (lv_sub hl [0, 1, 2, 3, 4] rfl)
        · refine lv_iconst (v := iI (0)) hx hb d_Model_isNumber_38 rfl ?_
          exact mw_zret (v := false) hx hb hr hM hS hlocks d_Model_isNumber_39 (mwR_z (by rw [hres, mNumN_s (by omega), if_neg (by omega)]))
  obtain ⟨ls, hls, hl⟩ := mw_entry (m := m) [.ref (L kr), .int (iI a), .int (iI to), .int (iI v)] (n := 5) (Nat.le_of_ble_eq_true rfl) hargs
  refine W.eq hls ?_
  have hl : lv_has ls 5 [(0, .ref (L kr)), (1, .int (iI a)), (2, .int (iI to)), (3, .int (iI v))] := hl
  refine lv_iload_n hx hb d_Model_isNumber_0 rfl (lv_at hl 2 rfl) ?_
  refine lv_iload_n hx hb d_Model_isNumber_1 rfl (lv_at hl 1 rfl) ?_
  refine ia_sub hx hb d_Model_isNumber_2 ?_
  refine lv_iload_n hx hb d_Model_isNumber_3 rfl (lv_at hl 3 rfl) ?_
  refine mw_rdS (As := [.int (iI v)]) (rest := [.int (iI (to - a))]) ⟨hx, hb, hml, hown, hts⟩ hK hM hS (c_Model_digits l D g lo L κ v (by omega)) (cwS 1 hts (gS m_672 m_673 m_58 m_674) rfl rfl rfl (by decide +kernel) ⟨Nat.le_of_ble_eq_true rfl, Nat.le_of_ble_eq_true rfl⟩) rfl hl.1 rfl (Nat.le_of_ble_eq_true rfl) d_Model_isNumber_4 ⟨Nat.le_of_ble_eq_true rfl, Nat.le_of_ble_eq_true rfl⟩ (fun H locs hM hS => ?_)
  have r5 := bDigits_r v
  refine ia_icmp_eq (a := to - a) (b := bDigits v) (tgt := 12) hx hb d_Model_isNumber_7 (by decide) (by omega) (by omega) (fun c6 => ?_) (fun c6 => ?_)
  · refine lv_iconst (v := iI (0)) hx hb d_Model_isNumber_12 rfl ?_
    refine lv_istore (lv' := [(4, .int (iI 0)), (0, .ref (L kr)), (1, .int (iI a)), (2, .int (iI to)), (3, .int (iI v))]) hx hb d_Model_isNumber_13 hl (by decide) rfl (fun ls hl => ?_)
    exact loop15 _ 0 (Nat.lt_succ_self _) (by omega) (by omega) (by unfold mNum; rw [if_neg (by omega)]; rw [show to - a - 0 = to - a by omega]) _ _ ls hM hS (lv_sub hl [0, 1, 2, 3, 4] rfl)
  · refine lv_iconst (v := iI (0)) hx hb d_Model_isNumber_10 rfl ?_
    exact mw_zret (v := false) hx hb hr hM hS hlocks d_Model_isNumber_11 (mwR_z (by unfold mNum; rw [if_pos (by omega)]))
