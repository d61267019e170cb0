set_option maxHeartbeats 4000000 in
set_option maxRecDepth 100000 in
theorem c_Model_putLow (l : Launch) (D : va_G) (g : Nat → ClassId) (lo : Nat) (L : Nat → Nat) (κ : Nat → Option va_E) (S : MS) (hV : mds g L κ S) (a v : Int) (ha : 0 ≤ a ∧ a + 4 ≤ 4400) (hv : -9223372036854775808 ≤ v ∧ v < 9223372036854775808) : Met l y_Model_putLow w_Model_putLow ({ frames := 0, cells := 0, slots := 0, locals := 0 }) (mwP D vwCl (tyL g) lo L κ [.ref (L 40), .int (iI a), .long (lI v)]) (mwQ D vwCl lo (mdQ g L κ none (mPl a v S))) 0 0 (fun q => lo ≤ q) := by
  refine Met.ofW (cc := b_Model_putLow) (maxL := 5) (ret := (Option.none : Option Jvm.ClassFile.FieldType)) (by decide) rfl ?_
  intro p e s m args below meth c s₁ B hml hpre
  obtain ⟨hargs, hM, hK⟩ := hpre
  have hx := B.exec
  have hb := B.bytes
  have hr := B.returns
  have hts : ∀ w ∈ wA, w.before args s = true := fun w h => atoms_spec (ws := w_Model_putLow) B.pre w (List.mem_cons_of_mem _ h)
  have hown : s.vm.findClass R_Model = some m.cls := findClass_of_methodNamed B.named
  have hlocks := B.notSynchronized
  have hS : va_S (fun q => lo ≤ q) s.heap s.heap [] := va_S.rf
  have loop3 : ∀ (N : Nat) (k : Int) (S1 : MS) (κ1 : Nat → Option va_E), (4 - k).toNat < N → (mds g L κ1 S1) → (∀ r, (r < 40 ∨ 54 < r) → κ1 r = κ r) → (0 ≤ k ∧ k ≤ 4) → (mPl a v S = mPlN a v (4 - k).toNat k S1) → ∀ (H : Heap) (locs : List Loc) (ls : Array Slot), mw D vwCl lo L κ1 H → va_S (fun q => lo ≤ q) s.heap H locs → lv_has ls 5 [(4, .int (iI k)), (0, .ref (L 40)), (1, .int (iI a)), (2, .long (lI v))] → W p l e (headSpec w_Model_putLow ({ frames := 0, cells := 0, slots := 0, locals := 0 })).room s m args below meth c H locs 0 0 (MQ below (mwQ D vwCl lo (mdQ g L κ none (mPl a v S))) args s 0 0 (fun q => lo ≤ q)) (F0 m 3 ls []) := by
    intro N
    induction N with
    | zero => intro k S1 κ1 hms; exact absurd hms (Nat.not_lt_zero _)
    | succ N ih =>
      intro k S1 κ1 hms hV1 hf1 hk hres H locs ls hM hS hl
      refine lv_iload hx hb d_Model_putLow_3 (lv_at hl 0 rfl) ?_
      refine lv_iconst (v := iI (4)) hx hb d_Model_putLow_5 rfl ?_
      refine ia_icmp_ge (a := k) (b := 4) (tgt := 36) hx hb d_Model_putLow_6 (by decide) (by omega) (by omega) (fun c1 => ?_) (fun c1 => ?_)
      · exact mw_vret hx hb hr hM hS hlocks d_Model_putLow_36 (by rw [show mPl a v S = S1 by first | (exfalso; omega) | (rw [hres, mPlN_e (by omega)])]; exact ⟨rfl, rfl, hV1, (fun r h => by rw [hf1 r (by omega)])⟩)
      · refine lv_aload_n hx hb d_Model_putLow_9 rfl (lv_at hl 1 rfl) ?_
        refine mw_get (ci := 4) (i := 40) (v := .ref (L 44)) (C := R_Model) (T := T_Model) (N := 23) hx hb hts in_Model hown hK hM hV1.1 rfl rfl 6 (by decide) (hts _ m_551) rfl d_Model_putLow_10 ?_
        refine lv_iload_n hx hb d_Model_putLow_13 rfl (lv_at hl 2 rfl) ?_
        refine lv_iload hx hb d_Model_putLow_14 (lv_at hl 0 rfl) ?_
        refine ia_add hx hb d_Model_putLow_16 ?_
        refine lv_lload_n hx hb d_Model_putLow_17 rfl (lv_at hl 3 rfl) ?_
        refine lv_bipush (v := iI (8)) hx hb d_Model_putLow_18 (by decide) ?_
        refine lv_iload hx hb d_Model_putLow_20 (lv_at hl 0 rfl) ?_
        refine ia_mul hx hb d_Model_putLow_22 ?_
        refine ia_lshr hx hb (by omega) (by omega) d_Model_putLow_23 ?_
        refine lv_ldc2 (v := 255) hx hb hown (hts _ m_780) d_Model_putLow_24 ?_
        refine W.eq (g2 := F0 m 27 ls (.long (lI 255) :: .long (lI (v / 2 ^ (8 * k).toNat)) :: .int (iI (a + k)) :: .ref (L 44) :: [])) (by rfl) ?_
        refine ia_land255 hx hb d_Model_putLow_27 ?_
        refine ia_l2i hx hb d_Model_putLow_28 ?_
        refine mw_iast (n := 4400) (f := S1.a 3) (a := a + k) (v := (v / 2 ^ (8 * k).toNat) % 256) (i := 44) hx hb hK hM hS 1 (hV1.2.1 3 (by decide)) rfl rfl (by omega) (by decide) d_Model_putLow_29 (fun κ2 H locs e2 hk2 hM hS => ?_)
        have hV2 : mds g L κ2 (S1.st 3 ((a + k : Int).toNat) ((v / 2 ^ (8 * k).toNat) % 256)) := mds_st (k := 3) hV1 (by decide) e2 hk2 (show (0 : Int) ≤ (v / 2 ^ (8 * k).toNat) % 256 ∧ (v / 2 ^ (8 * k).toNat) % 256 ≤ 255 by first | omega | (split <;> omega))
        refine lv_iinc (v := iI (k + 1)) (lv' := [(4, .int (iI (k + 1))), (0, .ref (L 40)), (1, .int (iI a)), (2, .long (lI v))]) hx hb d_Model_putLow_30 hl (k := 0) rfl (iI_inc _ _) (by decide) rfl (fun ls hl => ?_)
        refine lv_goto (tgt := 3) hx hb d_Model_putLow_33 (by decide) ?_
        exact ih (k + 1) (S1.st 3 ((a + k : Int).toNat) ((v / 2 ^ (8 * k).toNat) % 256)) κ2 (by omega) hV2 (fun r h => by rw [hk2 r (by omega), hf1 r (by omega)]) (by omega) (by rw [hres, mPlN_s (by omega)]) _ _ ls hM hS (lv_sub hl [0, 1, 2, 3] rfl)
  obtain ⟨ls, hls, hl⟩ := mw_entry (m := m) [.ref (L 40), .int (iI a), .long (lI v)] (n := 5) (Nat.le_of_ble_eq_true rfl) hargs
  refine W.eq hls ?_
  have hl : lv_has ls 5 [(0, .ref (L 40)), (1, .int (iI a)), (2, .long (lI v))] := hl
  refine lv_iconst (v := iI (0)) hx hb d_Model_putLow_0 rfl ?_
  refine lv_istore (lv' := [(4, .int (iI 0)), (0, .ref (L 40)), (1, .int (iI a)), (2, .long (lI v))]) hx hb d_Model_putLow_1 hl (by decide) rfl (fun ls hl => ?_)
  exact loop3 _ 0 S κ (Nat.lt_succ_self _) hV (fun r h => rfl) (by omega) rfl _ _ ls hM hS (lv_sub hl [0, 1, 2, 3] rfl)
set_option maxHeartbeats 4000000 in
set_option maxRecDepth 100000 in
theorem c_Model_write (l : Launch) (D : va_G) (g : Nat → ClassId) (lo : Nat) (L : Nat → Nat) (κ : Nat → Option va_E) (S : MS) (hV : mds g L κ S) (b : Int) (hb0 : 0 ≤ b ∧ b ≤ 255) (hp : 0 ≤ S.f 7 ∧ S.f 7 < 4200) : Met l y_Model_write w_Model_write ({ frames := 0, cells := 0, slots := 0, locals := 0 }) (mwP D vwCl (tyL g) lo L κ [.ref (L 40), .int (iI b)]) (mwQ D vwCl lo (mdQ g L κ none (mWr b S))) 0 0 (fun q => lo ≤ q) := by
  refine Met.ofW (cc := b_Model_write) (maxL := 2) (ret := (Option.none : Option Jvm.ClassFile.FieldType)) (by decide) rfl ?_
  intro p e s m args below meth c s₁ B hml hpre
  obtain ⟨hargs, hM, hK⟩ := hpre
  have hx := B.exec
  have hb := B.bytes
  have hr := B.returns
  have hts : ∀ w ∈ wA, w.before args s = true := fun w h => atoms_spec (ws := w_Model_write) B.pre w (List.mem_cons_of_mem _ h)
  have hown : s.vm.findClass R_Model = some m.cls := findClass_of_methodNamed B.named
  have hlocks := B.notSynchronized
  have hS : va_S (fun q => lo ≤ q) s.heap s.heap [] := va_S.rf
  obtain ⟨ls, hls, hl⟩ := mw_entry (m := m) [.ref (L 40), .int (iI b)] (n := 2) (Nat.le_of_ble_eq_true rfl) hargs
  refine W.eq hls ?_
  have hl : lv_has ls 2 [(0, .ref (L 40)), (1, .int (iI b))] := hl
  refine lv_aload_n hx hb d_Model_write_0 rfl (lv_at hl 0 rfl) ?_
  refine mw_get (ci := 4) (i := 40) (v := .ref (L 54)) (C := R_Model) (T := T_Model) (N := 23) hx hb hts in_Model hown hK hM hV.1 rfl rfl 21 (by decide) (hts _ m_566) rfl d_Model_write_1 ?_
  refine lv_aload_n hx hb d_Model_write_4 rfl (lv_at hl 0 rfl) ?_
  refine mw_get (ci := 4) (i := 40) (v := .int (iI (S.f 7))) (C := R_Model) (T := T_Model) (N := 23) hx hb hts in_Model hown hK hM hV.1 rfl rfl 22 (by decide) (hts _ m_567) rfl d_Model_write_5 ?_
  have r1 : -1000000 ≤ S.f 7 ∧ S.f 7 ≤ 1000000 := hV.2.2.2 7
  refine lv_iload_n hx hb d_Model_write_8 rfl (lv_at hl 1 rfl) ?_
  refine mw_iast (n := 4200) (f := S.a 13) (a := S.f 7) (v := b) (i := 54) hx hb hK hM hS 1 (hV.2.1 13 (by decide)) rfl rfl (by omega) (by decide) d_Model_write_9 (fun κ2 H locs e2 hk2 hM hS => ?_)
  have hV2 : mds g L κ2 (S.st 13 ((S.f 7 : Int).toNat) b) := mds_st (k := 13) hV (by decide) e2 hk2 (show (0 : Int) ≤ b ∧ b ≤ 255 by first | omega | (split <;> omega))
  refine lv_aload_n hx hb d_Model_write_10 rfl (lv_at hl 0 rfl) ?_
  refine lv_dup hx hb d_Model_write_11 rfl ?_
  refine mw_get (ci := 4) (i := 40) (v := .int (iI (S.f 7))) (C := R_Model) (T := T_Model) (N := 23) hx hb hts in_Model hown hK hM hV2.1 rfl rfl 22 (by decide) (hts _ m_567) rfl d_Model_write_12 ?_
  have r3 : -1000000 ≤ S.f 7 ∧ S.f 7 ≤ 1000000 := hV2.2.2.2 7
  refine lv_iconst (v := iI (1)) hx hb d_Model_write_15 rfl ?_
  refine ia_add hx hb d_Model_write_16 ?_
  refine mw_put (ci := 4) (i := 40) (v := .int (iI ((S.f 7) + 1))) (C := R_Model) (T := T_Model) (N := 23) hx hb hts in_Model ty_Model ty_Model_ok nm_Model hown hK hM hS hV2.1 rfl rfl 22 (by decide) (hts _ m_567) rfl (ty_Model_ok 22 (by decide)) rfl rfl (Nat.le_of_ble_eq_true rfl) d_Model_write_17 (fun κ4 H locs e4 hk4 hM hS => ?_)
  have e4 : κ4 40 = some (.inr (4, [.int (iI (S.f 8)), .ref (L 41), .int (iI (S.f 0)), .int (iI (S.f 1)), .ref (L 42), .ref (L 43), .ref (L 44), .int (iI (S.f 2)), .int (iI (S.f 3)), .ref (L 45), .ref (L 46), .ref (L 47), .ref (L 48), .ref (L 49), .int (iI (S.f 4)), .int (iI (S.f 5)), .int (iI (S.f 6)), .ref (L 50), .ref (L 51), .ref (L 52), .ref (L 53), .ref (L 54), .int (iI ((S.f 7) + 1))])) := e4
  have hV4 : mds g L κ4 ((S.st 13 ((S.f 7 : Int).toNat) b).pf 7 ((S.f 7) + 1)) := mds_pf hV2 e4 hk4 (by first | omega | (split <;> omega))
  exact mw_vret hx hb hr hM hS hlocks d_Model_write_20 (by rw [show mWr b S = (S.st 13 ((S.f 7 : Int).toNat) b).pf 7 ((S.f 7) + 1) by first | (exfalso; omega) | (rfl)]; exact ⟨rfl, rfl, hV4, (fun r h => by rw [hk4 r (by omega), hk2 r (by omega)])⟩)
set_option maxHeartbeats 4000000 in
set_option maxRecDepth 100000 in
theorem c_Model_writeLow (l : Launch) (D : va_G) (g : Nat → ClassId) (lo : Nat) (L : Nat → Nat) (κ : Nat → Option va_E) (S : MS) (hV : mds g L κ S) (v n : Int) (hv : -9223372036854775808 ≤ v ∧ v < 9223372036854775808) (hn0 : 0 ≤ n ∧ n ≤ 8) (hp : 0 ≤ S.f 7 ∧ S.f 7 ≤ 4100) : Met l y_Model_writeLow w_Model_writeLow ({ frames := 1, cells := 0, slots := 0, locals := 21 }) (mwP D vwCl (tyL g) lo L κ [.ref (L 40), .long (lI v), .int (iI n)]) (mwQ D vwCl lo (mdQ g L κ none (mWl v n S))) 0 0 (fun q => lo ≤ q) := by
  refine Met.ofW (cc := b_Model_writeLow) (maxL := 5) (ret := (Option.none : Option Jvm.ClassFile.FieldType)) (by decide) rfl ?_
  intro p e s m args below meth c s₁ B hml hpre
  obtain ⟨hargs, hM, hK⟩ := hpre
  have hx := B.exec
  have hb := B.bytes
  have hr := B.returns
  have hts : ∀ w ∈ wA, w.before args s = true := fun w h => atoms_spec (ws := w_Model_writeLow) B.pre w (List.mem_cons_of_mem _ h)
  have hown : s.vm.findClass R_Model = some m.cls := findClass_of_methodNamed B.named
  have hlocks := B.notSynchronized
  have hS : va_S (fun q => lo ≤ q) s.heap s.heap [] := va_S.rf
  have loop3 : ∀ (N : Nat) (k : Int) (S1 : MS) (κ1 : Nat → Option va_E), (n - k).toNat < N → (mds g L κ1 S1) → (∀ r, (r < 40 ∨ 54 < r) → κ1 r = κ r) → (0 ≤ k ∧ k ≤ n ∧ S1.f 7 = S.f 7 + k) → (mWl v n S = mWlN v (n - k).toNat k S1) → ∀ (H : Heap) (locs : List Loc) (ls : Array Slot), mw D vwCl lo L κ1 H → va_S (fun q => lo ≤ q) s.heap H locs → lv_has ls 5 [(4, .int (iI k)), (0, .ref (L 40)), (1, .long (lI v)), (3, .int (iI n))] → W p l e (headSpec w_Model_writeLow ({ frames := 1, cells := 0, slots := 0, locals := 21 })).room s m args below meth c H locs 0 0 (MQ below (mwQ D vwCl lo (mdQ g L κ none (mWl v n S))) args s 0 0 (fun q => lo ≤ q)) (F0 m 3 ls []) := by
    intro N
    induction N with
    | zero => intro k S1 κ1 hms; exact absurd hms (Nat.not_lt_zero _)
    | succ N ih =>
      intro k S1 κ1 hms hV1 hf1 hk hres H locs ls hM hS hl
      refine lv_iload hx hb d_Model_writeLow_3 (lv_at hl 0 rfl) ?_
      refine lv_iload_n hx hb d_Model_writeLow_5 rfl (lv_at hl 3 rfl) ?_
      refine ia_icmp_ge (a := k) (b := n) (tgt := 31) hx hb d_Model_writeLow_6 (by decide) (by omega) (by omega) (fun c1 => ?_) (fun c1 => ?_)
      · exact mw_vret hx hb hr hM hS hlocks d_Model_writeLow_31 (by rw [show mWl v n S = S1 by first | (exfalso; omega) | (rw [hres, mWlN_e (by omega)])]; exact ⟨rfl, rfl, hV1, (fun r h => by rw [hf1 r (by omega)])⟩)
      · refine lv_aload_n hx hb d_Model_writeLow_9 rfl (lv_at hl 1 rfl) ?_
        refine lv_lload_n hx hb d_Model_writeLow_10 rfl (lv_at hl 2 rfl) ?_
        refine lv_bipush (v := iI (8)) hx hb d_Model_writeLow_11 (by decide) ?_
        refine lv_iload hx hb d_Model_writeLow_13 (lv_at hl 0 rfl) ?_
        refine ia_mul hx hb d_Model_writeLow_15 ?_
        refine ia_lshr hx hb (by omega) (by omega) d_Model_writeLow_16 ?_
        refine lv_ldc2 (v := 255) hx hb hown (hts _ m_780) d_Model_writeLow_17 ?_
        refine W.eq (g2 := F0 m 20 ls (.long (lI 255) :: .long (lI (v / 2 ^ (8 * k).toNat)) :: .ref (L 40) :: [])) (by rfl) ?_
        refine ia_land255 hx hb d_Model_writeLow_20 ?_
        refine ia_l2i hx hb d_Model_writeLow_21 ?_
        refine mw_callV (i := 40) (As := [.int (iI ((v / 2 ^ (8 * k).toNat) % 256))]) (rest := []) ⟨hx, hb, hml, hown, hts⟩ hK hM hS rfl hV1.1 rfl (c_Model_write l D g lo L κ1 S1 hV1 ((v / 2 ^ (8 * k).toNat) % 256) (by omega) (by omega)) (cwV 1 hts (gV m_772 m_774 m_40 m_58 m_775) rfl rfl rfl (by decide +kernel) ⟨Nat.le_of_ble_eq_true rfl, Nat.le_of_ble_eq_true rfl⟩) rfl hl.1 rfl (Nat.le_of_ble_eq_true rfl) d_Model_writeLow_22 ⟨Nat.le_of_ble_eq_true rfl, Nat.le_of_ble_eq_true rfl⟩ (fun v2 L2 κ2 H locs hp2 hM hS => ?_)
        obtain ⟨rfl, rfl, hV2, hk2⟩ := hp2
        have r3 := mWr_p (b := (v / 2 ^ (8 * k).toNat) % 256) (S := S1)
        refine lv_iinc (v := iI (k + 1)) (lv' := [(4, .int (iI (k + 1))), (0, .ref (L 40)), (1, .long (lI v)), (3, .int (iI n))]) hx hb d_Model_writeLow_25 hl (k := 0) rfl (iI_inc _ _) (by decide) rfl (fun ls hl => ?_)
        refine lv_goto (tgt := 3) hx hb d_Model_writeLow_28 (by decide) ?_
        exact ih (k + 1) (mWr ((v / 2 ^ (8 * k).toNat) % 256) S1) κ2 (by omega) hV2 (fun r h => by rw [hk2 r (by omega), hf1 r (by omega)]) (by omega) (by rw [hres, mWlN_s (by omega)]) _ _ ls hM hS (lv_sub hl [0, 1, 2, 3] rfl)
  obtain ⟨ls, hls, hl⟩ := mw_entry (m := m) [.ref (L 40), .long (lI v), .int (iI n)] (n := 5) (Nat.le_of_ble_eq_true rfl) hargs
  refine W.eq hls ?_
  have hl : lv_has ls 5 [(0, .ref (L 40)), (1, .long (lI v)), (3, .int (iI n))] := hl
  refine lv_iconst (v := iI (0)) hx hb d_Model_writeLow_0 rfl ?_
  refine lv_istore (lv' := [(4, .int (iI 0)), (0, .ref (L 40)), (1, .long (lI v)), (3, .int (iI n))]) hx hb d_Model_writeLow_1 hl (by decide) rfl (fun ls hl => ?_)
  exact loop3 _ 0 S κ (Nat.lt_succ_self _) hV (fun r h => rfl) (by omega) (by unfold mWl; rw [show n - 0 = n by omega]) _ _ ls hM hS (lv_sub hl [0, 1, 2, 3] rfl)
set_option maxHeartbeats 4000000 in
set_option maxRecDepth 100000 in
theorem c_Model_writeHead (l : Launch) (D : va_G) (g : Nat → ClassId) (lo : Nat) (L : Nat → Nat) (κ : Nat → Option va_E) (S : MS) (hV : mds g L κ S) (x k n : Int) (hx0 : 0 ≤ x ∧ x < S.f 3) (hk0 : 0 ≤ k ∧ k ≤ 255) (hn0 : 0 ≤ n ∧ n ≤ 2000) (hT : mTb S) : Met l y_Model_writeHead w_Model_writeHead ({ frames := 2, cells := 0, slots := 0, locals := 43 }) (mwP D vwCl (tyL g) lo L κ [.ref (L 40), .int (iI x), .int (iI k), .int (iI n)]) (mwQ D vwCl lo (mdQ g L κ none (mHead x k n S))) 0 0 (fun q => lo ≤ q) := by
  refine Met.ofW (cc := b_Model_writeHead) (maxL := 6) (ret := (Option.none : Option Jvm.ClassFile.FieldType)) (by decide) rfl ?_
  intro p e s m args below meth c s₁ B hml hpre
  obtain ⟨hargs, hM, hK⟩ := hpre
  have hx := B.exec
  have hb := B.bytes
  have hr := B.returns
  have hts : ∀ w ∈ wA, w.before args s = true := fun w h => atoms_spec (ws := w_Model_writeHead) B.pre w (List.mem_cons_of_mem _ h)
  have hown : s.vm.findClass R_Model = some m.cls := findClass_of_methodNamed B.named
  have hlocks := B.notSynchronized
  have hS : va_S (fun q => lo ≤ q) s.heap s.heap [] := va_S.rf
  have hT1 := hT.1
  have hTx := hT.2 x.toNat (by omega)
  have hf3 : (mWr k (S.pf 7 0)).f 3 = S.f 3 := rfl
  have hdg := bDigits_r (mEls x (mWr k (S.pf 7 0)))
  have loop29 : ∀ (N : Nat) (i : Int) (S1 : MS) (κ1 : Nat → Option va_E), (bDigits (mEls x (mWr k (S.pf 7 0))) - i).toNat < N → (mds g L κ1 S1) → (∀ r, (r < 40 ∨ 54 < r) → κ1 r = κ r) → (0 ≤ i ∧ i ≤ bDigits (mEls x (mWr k (S.pf 7 0))) ∧ S1.f 7 = 1 + i) → (0 ≤ mEls x (mWr k (S.pf 7 0)) ∧ mEls x (mWr k (S.pf 7 0)) ≤ 1000) → (mHd1 x k n S = mWdN (mEls x (mWr k (S.pf 7 0))) (bDigits (mEls x (mWr k (S.pf 7 0))) - i).toNat i S1) → ∀ (H : Heap) (locs : List Loc) (ls : Array Slot), mw D vwCl lo L κ1 H → va_S (fun q => lo ≤ q) s.heap H locs → lv_has ls 6 [(5, .int (iI i)), (4, .int (iI (mEls x (mWr k (S.pf 7 0))))), (0, .ref (L 40)), (1, .int (iI x)), (2, .int (iI k)), (3, .int (iI n))] → W p l e (headSpec w_Model_writeHead ({ frames := 2, cells := 0, slots := 0, locals := 43 })).room s m args below meth c H locs 0 0 (MQ below (mwQ D vwCl lo (mdQ g L κ none (mHead x k n S))) args s 0 0 (fun q => lo ≤ q)) (F0 m 29 ls []) := by
    intro N
    induction N with
    | zero => intro i S1 κ1 hms; exact absurd hms (Nat.not_lt_zero _)
    | succ N ih =>
      intro i S1 κ1 hms hV1 hf1 hi hvr hres H locs ls hM hS hl
      have hdg := bDigits_r (mEls x (mWr k (S.pf 7 0)))
      refine lv_iload hx hb d_Model_writeHead_29 (lv_at hl 0 rfl) ?_
      refine lv_iload hx hb d_Model_writeHead_31 (lv_at hl 1 rfl) ?_
      refine mw_rdS (As := [.int (iI (mEls x (mWr k (S.pf 7 0))))]) (rest := [.int (iI i)]) ⟨hx, hb, hml, hown, hts⟩ hK hM hS (c_Model_digits l D g lo L κ1 (mEls x (mWr k (S.pf 7 0))) (by omega)) (cwS 1 hts (gS m_672 m_673 m_58 m_674) rfl rfl rfl (by decide +kernel) ⟨Nat.le_of_ble_eq_true rfl, Nat.le_of_ble_eq_true rfl⟩) rfl hl.1 rfl (Nat.le_of_ble_eq_true rfl) d_Model_writeHead_33 ⟨Nat.le_of_ble_eq_true rfl, Nat.le_of_ble_eq_true rfl⟩ (fun H locs hM hS => ?_)
      have r1 := bDigits_r (mEls x (mWr k (S.pf 7 0)))
      refine ia_icmp_ge (a := i) (b := bDigits (mEls x (mWr k (S.pf 7 0)))) (tgt := 56) hx hb d_Model_writeHead_36 (by decide) (by omega) (by omega) (fun c2 => ?_) (fun c2 => ?_)
      · refine lv_goto (tgt := 85) hx hb d_Model_writeHead_56 (by decide) ?_
        refine lv_aload_n hx hb d_Model_writeHead_85 rfl (lv_at hl 2 rfl) ?_
        refine lv_iconst (v := iI (0)) hx hb d_Model_writeHead_86 rfl ?_
        refine mw_callV (i := 40) (As := [.int (iI 0)]) (rest := []) ⟨hx, hb, hml, hown, hts⟩ hK hM hS rfl hV1.1 rfl (c_Model_write l D g lo L κ1 S1 hV1 0 (by omega) (by omega)) (cwV 1 hts (gV m_772 m_774 m_40 m_58 m_775) rfl rfl rfl (by decide +kernel) ⟨Nat.le_of_ble_eq_true rfl, Nat.le_of_ble_eq_true rfl⟩) rfl hl.1 rfl (Nat.le_of_ble_eq_true rfl) d_Model_writeHead_87 ⟨Nat.le_of_ble_eq_true rfl, Nat.le_of_ble_eq_true rfl⟩ (fun v3 L3 κ3 H locs hp3 hM hS => ?_)
        obtain ⟨rfl, rfl, hV3, hk3⟩ := hp3
        have r4 := mWr_p (b := 0) (S := S1)
        exact mw_vret hx hb hr hM hS hlocks d_Model_writeHead_90 (by rw [show mHead x k n S = mWr 0 S1 by first | (exfalso; omega) | (unfold mHead; rw [hres, mWdN_e (by omega)])]; exact ⟨rfl, rfl, hV3, (fun r h => by rw [hk3 r (by omega), hf1 r (by omega)])⟩)
      · refine lv_aload_n hx hb d_Model_writeHead_39 rfl (lv_at hl 2 rfl) ?_
        refine lv_iload hx hb d_Model_writeHead_40 (lv_at hl 1 rfl) ?_
        refine lv_iload hx hb d_Model_writeHead_42 (lv_at hl 0 rfl) ?_
        refine mw_rdS (As := [.int (iI (mEls x (mWr k (S.pf 7 0)))), .int (iI i)]) (rest := [.ref (L 40)]) ⟨hx, hb, hml, hown, hts⟩ hK hM hS (c_Model_digit l D g lo L κ1 (mEls x (mWr k (S.pf 7 0))) i (by omega) (by omega)) (cwS 2 hts (gS m_675 m_676 m_58 m_677) rfl rfl rfl (by decide +kernel) ⟨Nat.le_of_ble_eq_true rfl, Nat.le_of_ble_eq_true rfl⟩) rfl hl.1 rfl (Nat.le_of_ble_eq_true rfl) d_Model_writeHead_44 ⟨Nat.le_of_ble_eq_true rfl, Nat.le_of_ble_eq_true rfl⟩ (fun H locs hM hS => ?_)
        have r5 := mDigit_r (mEls x (mWr k (S.pf 7 0))) i
        refine mw_callV (i := 40) (As := [.int (iI (mDigit (mEls x (mWr k (S.pf 7 0))) i))]) (rest := []) ⟨hx, hb, hml, hown, hts⟩ hK hM hS rfl hV1.1 rfl (c_Model_write l D g lo L κ1 S1 hV1 (mDigit (mEls x (mWr k (S.pf 7 0))) i) (by omega) (by omega)) (cwV 1 hts (gV m_772 m_774 m_40 m_58 m_775) rfl rfl rfl (by decide +kernel) ⟨Nat.le_of_ble_eq_true rfl, Nat.le_of_ble_eq_true rfl⟩) rfl hl.1 rfl (Nat.le_of_ble_eq_true rfl) d_Model_writeHead_47 ⟨Nat.le_of_ble_eq_true rfl, Nat.le_of_ble_eq_true rfl⟩ (fun v6 L6 κ6 H locs hp6 hM hS => ?_)
        obtain ⟨rfl, rfl, hV6, hk6⟩ := hp6
        have r7 := mWr_p (b := mDigit (mEls x (mWr k (S.pf 7 0))) i) (S := S1)
        refine lv_iinc (v := iI (i + 1)) (lv' := [(5, .int (iI (i + 1))), (4, .int (iI (mEls x (mWr k (S.pf 7 0))))), (0, .ref (L 40)), (1, .int (iI x)), (2, .int (iI k)), (3, .int (iI n))]) hx hb d_Model_writeHead_50 hl (k := 0) rfl (iI_inc _ _) (by decide) rfl (fun ls hl => ?_)
        refine lv_goto (tgt := 29) hx hb d_Model_writeHead_53 (by decide) ?_
        exact ih (i + 1) (mWr (mDigit (mEls x (mWr k (S.pf 7 0))) i) S1) κ6 (by omega) hV6 (fun r h => by rw [hk6 r (by omega), hf1 r (by omega)]) (by omega) hvr (by rw [hres, mWdN_s (by omega)]) _ _ ls hM hS (lv_sub hl [0, 1, 2, 3, 4, 5] rfl)
  have loop62 : ∀ (N : Nat) (i : Int) (S1 : MS) (κ1 : Nat → Option va_E), (n - i).toNat < N → (mds g L κ1 S1) → (∀ r, (r < 40 ∨ 54 < r) → κ1 r = κ r) → (0 ≤ i ∧ i ≤ n ∧ S1.f 7 = 1 + i) → (mHd1 x k n S = mWcN 0 0 (n - i).toNat i S1) → ∀ (H : Heap) (locs : List Loc) (ls : Array Slot), mw D vwCl lo L κ1 H → va_S (fun q => lo ≤ q) s.heap H locs → lv_has ls 6 [(4, .int (iI i)), (0, .ref (L 40)), (1, .int (iI x)), (2, .int (iI k)), (3, .int (iI n))] → W p l e (headSpec w_Model_writeHead ({ frames := 2, cells := 0, slots := 0, locals := 43 })).room s m args below meth c H locs 0 0 (MQ below (mwQ D vwCl lo (mdQ g L κ none (mHead x k n S))) args s 0 0 (fun q => lo ≤ q)) (F0 m 62 ls []) := by
    intro N
    induction N with
    | zero => intro i S1 κ1 hms; exact absurd hms (Nat.not_lt_zero _)
    | succ N ih =>
      intro i S1 κ1 hms hV1 hf1 hi hres H locs ls hM hS hl
      refine lv_iload hx hb d_Model_writeHead_62 (lv_at hl 0 rfl) ?_
      refine lv_iload_n hx hb d_Model_writeHead_64 rfl (lv_at hl 4 rfl) ?_
      refine ia_icmp_ge (a := i) (b := n) (tgt := 85) hx hb d_Model_writeHead_65 (by decide) (by omega) (by omega) (fun c8 => ?_) (fun c8 => ?_)
      · refine lv_aload_n hx hb d_Model_writeHead_85 rfl (lv_at hl 1 rfl) ?_
        refine lv_iconst (v := iI (0)) hx hb d_Model_writeHead_86 rfl ?_
        refine mw_callV (i := 40) (As := [.int (iI 0)]) (rest := []) ⟨hx, hb, hml, hown, hts⟩ hK hM hS rfl hV1.1 rfl (c_Model_write l D g lo L κ1 S1 hV1 0 (by omega) (by omega)) (cwV 1 hts (gV m_772 m_774 m_40 m_58 m_775) rfl rfl rfl (by decide +kernel) ⟨Nat.le_of_ble_eq_true rfl, Nat.le_of_ble_eq_true rfl⟩) rfl hl.1 rfl (Nat.le_of_ble_eq_true rfl) d_Model_writeHead_87 ⟨Nat.le_of_ble_eq_true rfl, Nat.le_of_ble_eq_true rfl⟩ (fun v9 L9 κ9 H locs hp9 hM hS => ?_)
        obtain ⟨rfl, rfl, hV9, hk9⟩ := hp9
        have r10 := mWr_p (b := 0) (S := S1)
        exact mw_vret hx hb hr hM hS hlocks d_Model_writeHead_90 (by rw [show mHead x k n S = mWr 0 S1 by first | (exfalso; omega) | (unfold mHead; rw [hres, mWcN_e (by omega)])]; exact ⟨rfl, rfl, hV9, (fun r h => by rw [hk9 r (by omega), hf1 r (by omega)])⟩)
      · refine lv_aload_n hx hb d_Model_writeHead_68 rfl (lv_at hl 1 rfl) ?_
        refine lv_aload_n hx hb d_Model_writeHead_69 rfl (lv_at hl 1 rfl) ?_
        refine mw_get (ci := 4) (i := 40) (v := .ref (L 41)) (C := R_Model) (T := T_Model) (N := 23) hx hb hts in_Model hown hK hM hV1.1 rfl rfl 1 (by decide) (hts _ m_546) rfl d_Model_writeHead_70 ?_
        refine lv_iload hx hb d_Model_writeHead_73 (lv_at hl 0 rfl) ?_
        refine mw_iald (n := 2000) (f := S1.a 0) (a := i) (i := 41) hx hb hK hM 1 (hV1.2.1 0 (by decide)) rfl rfl (by omega) (by decide) d_Model_writeHead_75 ?_
        have r11 : 0 ≤ S1.a 0 (i : Int).toNat ∧ S1.a 0 (i : Int).toNat ≤ 255 := hV1.2.2.1 0 _
        refine mw_callV (i := 40) (As := [.int (iI (S1.a 0 (i : Int).toNat))]) (rest := []) ⟨hx, hb, hml, hown, hts⟩ hK hM hS rfl hV1.1 rfl (c_Model_write l D g lo L κ1 S1 hV1 (S1.a 0 (i : Int).toNat) (by omega) (by omega)) (cwV 1 hts (gV m_772 m_774 m_40 m_58 m_775) rfl rfl rfl (by decide +kernel) ⟨Nat.le_of_ble_eq_true rfl, Nat.le_of_ble_eq_true rfl⟩) rfl hl.1 rfl (Nat.le_of_ble_eq_true rfl) d_Model_writeHead_76 ⟨Nat.le_of_ble_eq_true rfl, Nat.le_of_ble_eq_true rfl⟩ (fun v12 L12 κ12 H locs hp12 hM hS => ?_)
        obtain ⟨rfl, rfl, hV12, hk12⟩ := hp12
        have r13 := mWr_p (b := S1.a 0 (i : Int).toNat) (S := S1)
        refine lv_iinc (v := iI (i + 1)) (lv' := [(4, .int (iI (i + 1))), (0, .ref (L 40)), (1, .int (iI x)), (2, .int (iI k)), (3, .int (iI n))]) hx hb d_Model_writeHead_79 hl (k := 0) rfl (iI_inc _ _) (by decide) rfl (fun ls hl => ?_)
        refine lv_goto (tgt := 62) hx hb d_Model_writeHead_82 (by decide) ?_
        exact ih (i + 1) (mWr (S1.a 0 (i : Int).toNat) S1) κ12 (by omega) hV12 (fun r h => by rw [hk12 r (by omega), hf1 r (by omega)]) (by omega) (by rw [hres, mWcN_s (by omega), Int.zero_add]) _ _ ls hM hS (lv_sub hl [0, 1, 2, 3, 4] rfl)
  obtain ⟨ls, hls, hl⟩ := mw_entry (m := m) [.ref (L 40), .int (iI x), .int (iI k), .int (iI n)] (n := 6) (Nat.le_of_ble_eq_true rfl) hargs
  refine W.eq hls ?_
  have hl : lv_has ls 6 [(0, .ref (L 40)), (1, .int (iI x)), (2, .int (iI k)), (3, .int (iI n))] := hl
  refine lv_aload_n hx hb d_Model_writeHead_0 rfl (lv_at hl 0 rfl) ?_
  refine lv_iconst (v := iI (0)) hx hb d_Model_writeHead_1 rfl ?_
  refine mw_put (ci := 4) (i := 40) (v := .int (iI 0)) (C := R_Model) (T := T_Model) (N := 23) hx hb hts in_Model ty_Model ty_Model_ok nm_Model hown hK hM hS hV.1 rfl rfl 22 (by decide) (hts _ m_567) rfl (ty_Model_ok 22 (by decide)) rfl rfl (Nat.le_of_ble_eq_true rfl) d_Model_writeHead_2 (fun κ14 H locs e14 hk14 hM hS => ?_)
  have e14 : κ14 40 = some (.inr (4, [.int (iI (S.f 8)), .ref (L 41), .int (iI (S.f 0)), .int (iI (S.f 1)), .ref (L 42), .ref (L 43), .ref (L 44), .int (iI (S.f 2)), .int (iI (S.f 3)), .ref (L 45), .ref (L 46), .ref (L 47), .ref (L 48), .ref (L 49), .int (iI (S.f 4)), .int (iI (S.f 5)), .int (iI (S.f 6)), .ref (L 50), .ref (L 51), .ref (L 52), .ref (L 53), .ref (L 54), .int (iI 0)])) := e14
  have hV14 : mds g L κ14 (S.pf 7 0) := mds_pf hV e14 hk14 (by first | omega | (split <;> omega))
  refine lv_aload_n hx hb d_Model_writeHead_5 rfl (lv_at hl 0 rfl) ?_
  refine lv_iload_n hx hb d_Model_writeHead_6 rfl (lv_at hl 2 rfl) ?_
  have r15 : (S.pf 7 0).f 0 = S.f 0 := rfl
  have r16 : (S.pf 7 0).f 2 = S.f 2 := rfl
  have r17 : (S.pf 7 0).f 3 = S.f 3 := rfl
  have r18 : (S.pf 7 0).f 7 = 0 := rfl
  refine mw_callV (i := 40) (As := [.int (iI k)]) (rest := []) ⟨hx, hb, hml, hown, hts⟩ hK hM hS rfl hV14.1 rfl (c_Model_write l D g lo L κ14 (S.pf 7 0) hV14 k (by omega) (by omega)) (cwV 1 hts (gV m_772 m_774 m_40 m_58 m_775) rfl rfl rfl (by decide +kernel) ⟨Nat.le_of_ble_eq_true rfl, Nat.le_of_ble_eq_true rfl⟩) rfl hl.1 rfl (Nat.le_of_ble_eq_true rfl) d_Model_writeHead_7 ⟨Nat.le_of_ble_eq_true rfl, Nat.le_of_ble_eq_true rfl⟩ (fun v19 L19 κ19 H locs hp19 hM hS => ?_)
  obtain ⟨rfl, rfl, hV19, hk19⟩ := hp19
  have r20 := mWr_p (b := k) (S := S.pf 7 0)
  refine lv_aload_n hx hb d_Model_writeHead_10 rfl (lv_at hl 0 rfl) ?_
  refine lv_iload_n hx hb d_Model_writeHead_11 rfl (lv_at hl 1 rfl) ?_
  refine mw_rdV (i := 40) (As := [.int (iI x)]) (rest := []) ⟨hx, hb, hml, hown, hts⟩ hK hM hS rfl hV19.1 rfl (c_Model_kindOf l D g lo L κ19 (mWr k (S.pf 7 0)) hV19 x (by omega) hT) (cwV 1 hts (gV m_714 m_716 m_30 m_58 m_717) rfl rfl rfl (by decide +kernel) ⟨Nat.le_of_ble_eq_true rfl, Nat.le_of_ble_eq_true rfl⟩) rfl hl.1 rfl (Nat.le_of_ble_eq_true rfl) d_Model_writeHead_12 ⟨Nat.le_of_ble_eq_true rfl, Nat.le_of_ble_eq_true rfl⟩ (fun H locs hM hS => ?_)
  have r21 := mKind_r hV19 x
  refine lv_iconst (v := iI (4)) hx hb d_Model_writeHead_15 rfl ?_
  refine ia_icmp_ne (a := mKind x (mWr k (S.pf 7 0))) (b := 4) (tgt := 59) hx hb d_Model_writeHead_16 (by decide) (by omega) (by omega) (fun c22 => ?_) (fun c22 => ?_)
  · refine lv_iconst (v := iI (0)) hx hb d_Model_writeHead_59 rfl ?_
    refine lv_istore (lv' := [(4, .int (iI 0)), (0, .ref (L 40)), (1, .int (iI x)), (2, .int (iI k)), (3, .int (iI n))]) hx hb d_Model_writeHead_60 hl (by decide) rfl (fun ls hl => ?_)
    exact loop62 _ 0 (mWr k (S.pf 7 0)) κ19 (Nat.lt_succ_self _) hV19 (fun r h => by rw [hk19 r (by omega), hk14 r (by omega)]) (by omega) (by unfold mHd1 mHd0; rw [if_neg (by omega)]; rfl) _ _ ls hM hS (lv_sub hl [0, 1, 2, 3, 4] rfl)
  · refine lv_aload_n hx hb d_Model_writeHead_19 rfl (lv_at hl 0 rfl) ?_
    refine lv_iload_n hx hb d_Model_writeHead_20 rfl (lv_at hl 1 rfl) ?_
    refine mw_rdV (i := 40) (As := [.int (iI x)]) (rest := []) ⟨hx, hb, hml, hown, hts⟩ hK hM hS rfl hV19.1 rfl (c_Model_elements l D g lo L κ19 (mWr k (S.pf 7 0)) hV19 x (by omega) hT) (cwV 1 hts (gV m_730 m_732 m_34 m_58 m_733) rfl rfl rfl (by decide +kernel) ⟨Nat.le_of_ble_eq_true rfl, Nat.le_of_ble_eq_true rfl⟩) rfl hl.1 rfl (Nat.le_of_ble_eq_true rfl) d_Model_writeHead_21 ⟨Nat.le_of_ble_eq_true rfl, Nat.le_of_ble_eq_true rfl⟩ (fun H locs hM hS => ?_)
    have r23 := mEls_r (nd := x) (S := mWr k (S.pf 7 0)) (by omega)
    refine lv_istore (lv' := [(4, .int (iI (mEls x (mWr k (S.pf 7 0))))), (0, .ref (L 40)), (1, .int (iI x)), (2, .int (iI k)), (3, .int (iI n))]) hx hb d_Model_writeHead_24 hl (by decide) rfl (fun ls hl => ?_)
    refine lv_iconst (v := iI (0)) hx hb d_Model_writeHead_26 rfl ?_
    refine lv_istore (lv' := [(5, .int (iI 0)), (4, .int (iI (mEls x (mWr k (S.pf 7 0))))), (0, .ref (L 40)), (1, .int (iI x)), (2, .int (iI k)), (3, .int (iI n))]) hx hb d_Model_writeHead_27 hl (by decide) rfl (fun ls hl => ?_)
    exact loop29 _ 0 (mWr k (S.pf 7 0)) κ19 (Nat.lt_succ_self _) hV19 (fun r h => by rw [hk19 r (by omega), hk14 r (by omega)]) (by omega) (by omega) (by unfold mHd1 mHd0; rw [if_pos (by omega)]; rfl) _ _ ls hM hS (lv_sub hl [0, 1, 2, 3, 4, 5] rfl)
set_option maxHeartbeats 4000000 in
set_option maxRecDepth 100000 in
theorem c_Model_lastOf (l : Launch) (D : va_G) (g : Nat → ClassId) (lo : Nat) (L : Nat → Nat) (κ : Nat → Option va_E) (S : MS) (hV : mds g L κ S) (x : Int) (hx0 : 0 ≤ x ∧ x < S.f 3) (hT : mTb S) : Met l y_Model_lastOf w_Model_lastOf ({ frames := 0, cells := 0, slots := 0, locals := 0 }) (mwP D vwCl (tyL g) lo L κ [.ref (L 40), .int (iI x)]) (mwQ D vwCl lo (mwR (some (.int (iI (mLo x S)))) L κ)) 0 0 (fun q => lo ≤ q) := by
  refine Met.ofW (cc := b_Model_lastOf) (maxL := 4) (ret := (Option.some Jvm.ClassFile.FieldType.int)) (by decide) rfl ?_
  intro p e s m args below meth c s₁ B hml hpre
  obtain ⟨hargs, hM, hK⟩ := hpre
  have hx := B.exec
  have hb := B.bytes
  have hr := B.returns
  have hts : ∀ w ∈ wA, w.before args s = true := fun w h => atoms_spec (ws := w_Model_lastOf) B.pre w (List.mem_cons_of_mem _ h)
  have hown : s.vm.findClass R_Model = some m.cls := findClass_of_methodNamed B.named
  have hlocks := B.notSynchronized
  have hS : va_S (fun q => lo ≤ q) s.heap s.heap [] := va_S.rf
  have hT1 := hT.1
  have hTx := hT.2 x.toNat (by omega)
  have loop6 : ∀ (N : Nat) (k : Int) (t : Int), (S.f 3 - k).toNat < N → (0 ≤ k ∧ k ≤ 1000) → (mLo x S = mLoF S x k t) → ∀ (H : Heap) (locs : List Loc) (ls : Array Slot), mw D vwCl lo L κ H → va_S (fun q => lo ≤ q) s.heap H locs → lv_has ls 4 [(3, .int (iI k)), (2, .int (iI t)), (0, .ref (L 40)), (1, .int (iI x))] → W p l e (headSpec w_Model_lastOf ({ frames := 0, cells := 0, slots := 0, locals := 0 })).room s m args below meth c H locs 0 0 (MQ below (mwQ D vwCl lo (mwR (some (.int (iI (mLo x S)))) L κ)) args s 0 0 (fun q => lo ≤ q)) (F0 m 6 ls []) := by
    intro N
    induction N with
    | zero => intro k t hms; exact absurd hms (Nat.not_lt_zero _)
    | succ N ih =>
      intro k t hms hk hres H locs ls hM hS hl
      refine lv_iload_n hx hb d_Model_lastOf_6 rfl (lv_at hl 0 rfl) ?_
      refine lv_aload_n hx hb d_Model_lastOf_7 rfl (lv_at hl 2 rfl) ?_
      refine mw_get (ci := 4) (i := 40) (v := .int (iI (S.f 3))) (C := R_Model) (T := T_Model) (N := 23) hx hb hts in_Model hown hK hM hV.1 rfl rfl 8 (by decide) (hts _ m_553) rfl d_Model_lastOf_8 ?_
      have r1 : -1000000 ≤ S.f 3 ∧ S.f 3 ≤ 1000000 := hV.2.2.2 3
      refine ia_icmp_ge (a := k) (b := S.f 3) (tgt := 37) hx hb d_Model_lastOf_11 (by decide) (by omega) (by omega) (fun c2 => ?_) (fun c2 => ?_)
      · refine lv_iload_n hx hb d_Model_lastOf_37 rfl (lv_at hl 1 rfl) ?_
        exact mw_iret hx hb hr hM hS hlocks d_Model_lastOf_38 (mwR_i (by rw [hres, mLoF_e (by omega)]))
      · refine lv_aload_n hx hb d_Model_lastOf_14 rfl (lv_at hl 2 rfl) ?_
        refine mw_get (ci := 4) (i := 40) (v := .ref (L 46)) (C := R_Model) (T := T_Model) (N := 23) hx hb hts in_Model hown hK hM hV.1 rfl rfl 10 (by decide) (hts _ m_555) rfl d_Model_lastOf_15 ?_
        refine lv_iload_n hx hb d_Model_lastOf_18 rfl (lv_at hl 0 rfl) ?_
        refine mw_iald (n := 1000) (f := S.a 5) (a := k) (i := 46) hx hb hK hM 1 (hV.2.1 5 (by decide)) rfl rfl (by omega) (by decide) d_Model_lastOf_19 ?_
        have r3 : -1000000 ≤ S.a 5 (k : Int).toNat ∧ S.a 5 (k : Int).toNat ≤ 1000000 := hV.2.2.1 5 _
        refine lv_aload_n hx hb d_Model_lastOf_20 rfl (lv_at hl 2 rfl) ?_
        refine mw_get (ci := 4) (i := 40) (v := .ref (L 48)) (C := R_Model) (T := T_Model) (N := 23) hx hb hts in_Model hown hK hM hV.1 rfl rfl 12 (by decide) (hts _ m_557) rfl d_Model_lastOf_21 ?_
        refine lv_iload_n hx hb d_Model_lastOf_24 rfl (lv_at hl 3 rfl) ?_
        refine mw_iald (n := 1000) (f := S.a 7) (a := x) (i := 48) hx hb hK hM 1 (hV.2.1 7 (by decide)) rfl rfl (by omega) (by decide) d_Model_lastOf_25 ?_
        have r4 : -1000000 ≤ S.a 7 (x : Int).toNat ∧ S.a 7 (x : Int).toNat ≤ 1000000 := hV.2.2.1 7 _
        refine ia_icmp_ge (a := S.a 5 (k : Int).toNat) (b := S.a 7 (x : Int).toNat) (tgt := 37) hx hb d_Model_lastOf_26 (by decide) (by omega) (by omega) (fun c5 => ?_) (fun c5 => ?_)
        · refine lv_iload_n hx hb d_Model_lastOf_37 rfl (lv_at hl 1 rfl) ?_
          exact mw_iret hx hb hr hM hS hlocks d_Model_lastOf_38 (mwR_i (by rw [hres, mLoF_e (by omega)]))
        · refine lv_iload_n hx hb d_Model_lastOf_29 rfl (lv_at hl 0 rfl) ?_
          refine lv_istore_n (lv' := [(2, .int (iI k)), (3, .int (iI k)), (0, .ref (L 40)), (1, .int (iI x))]) hx hb d_Model_lastOf_30 rfl hl (by decide) rfl (fun ls hl => ?_)
          refine lv_iinc (v := iI (k + 1)) (lv' := [(3, .int (iI (k + 1))), (2, .int (iI k)), (0, .ref (L 40)), (1, .int (iI x))]) hx hb d_Model_lastOf_31 hl (k := 1) rfl (iI_inc _ _) (by decide) rfl (fun ls hl => ?_)
          refine lv_goto (tgt := 6) hx hb d_Model_lastOf_34 (by decide) ?_
          exact ih (k + 1) k (by omega) (by omega) (by rw [hres, mLoF_s (by omega) (by omega)]) _ _ ls hM hS (lv_sub hl [0, 1, 2, 3] rfl)
  obtain ⟨ls, hls, hl⟩ := mw_entry (m := m) [.ref (L 40), .int (iI x)] (n := 4) (Nat.le_of_ble_eq_true rfl) hargs
  refine W.eq hls ?_
  have hl : lv_has ls 4 [(0, .ref (L 40)), (1, .int (iI x))] := hl
  refine lv_iload_n hx hb d_Model_lastOf_0 rfl (lv_at hl 1 rfl) ?_
  refine lv_istore_n (lv' := [(2, .int (iI x)), (0, .ref (L 40)), (1, .int (iI x))]) hx hb d_Model_lastOf_1 rfl hl (by decide) rfl (fun ls hl => ?_)
  refine lv_iload_n hx hb d_Model_lastOf_2 rfl (lv_at hl 2 rfl) ?_
  refine lv_iconst (v := iI (1)) hx hb d_Model_lastOf_3 rfl ?_
  refine ia_add hx hb d_Model_lastOf_4 ?_
  refine lv_istore_n (lv' := [(3, .int (iI (x + 1))), (2, .int (iI x)), (0, .ref (L 40)), (1, .int (iI x))]) hx hb d_Model_lastOf_5 rfl hl (by decide) rfl (fun ls hl => ?_)
  exact loop6 _ (x + 1) x (Nat.lt_succ_self _) (by omega) rfl _ _ ls hM hS (lv_sub hl [0, 1, 2, 3] rfl)
set_option maxHeartbeats 4000000 in
set_option maxRecDepth 100000 in
theorem c_Model_canBe (l : Launch) (D : va_G) (g : Nat → ClassId) (lo : Nat) (L : Nat → Nat) (κ : Nat → Option va_E) (S : MS) (hV : mds g L κ S) (x k v n m1 : Int) (hx0 : 0 ≤ x ∧ x < S.f 3) (hk0 : -2147483648 ≤ k ∧ k < 2147483648) (hv : -9223372036854775808 ≤ v ∧ v < 9223372036854775808) (hn0 : -2147483648 ≤ n ∧ n < 2147483648) (hm0 : -2147483648 ≤ m1 ∧ m1 < 2147483648) (hT : mTb S) : Met l y_Model_canBe w_Model_canBe ({ frames := 1, cells := 0, slots := 0, locals := 21 }) (mwP D vwCl (tyL g) lo L κ [.ref (L 40), .int (iI x), .int (iI k), .long (lI v), .int (iI n), .int (iI m1)]) (mwQ D vwCl lo (mwR (some (.int (iI (bI (mCan x k v n m1 S))))) L κ)) 0 0 (fun q => lo ≤ q) := by
  refine Met.ofW (cc := b_Model_canBe) (maxL := 7) (ret := (Option.some Jvm.ClassFile.FieldType.boolean)) (by decide) rfl ?_
  intro p e s m args below meth c s₁ B hml hpre
  obtain ⟨hargs, hM, hK⟩ := hpre
  have hx := B.exec
  have hb := B.bytes
  have hr := B.returns
  have hts : ∀ w ∈ wA, w.before args s = true := fun w h => atoms_spec (ws := w_Model_canBe) B.pre w (List.mem_cons_of_mem _ h)
  have hown : s.vm.findClass R_Model = some m.cls := findClass_of_methodNamed B.named
  have hlocks := B.notSynchronized
  have hS : va_S (fun q => lo ≤ q) s.heap s.heap [] := va_S.rf
  have hT1 := hT.1
  have hTx := hT.2 x.toNat (by omega)
  obtain ⟨ls, hls, hl⟩ := mw_entry (m := m) [.ref (L 40), .int (iI x), .int (iI k), .long (lI v), .int (iI n), .int (iI m1)] (n := 7) (Nat.le_of_ble_eq_true rfl) hargs
  refine W.eq hls ?_
  have hl : lv_has ls 7 [(0, .ref (L 40)), (1, .int (iI x)), (2, .int (iI k)), (3, .long (lI v)), (5, .int (iI n)), (6, .int (iI m1))] := hl
  refine lv_aload_n hx hb d_Model_canBe_0 rfl (lv_at hl 0 rfl) ?_
  refine lv_iload_n hx hb d_Model_canBe_1 rfl (lv_at hl 2 rfl) ?_
  refine mw_rdV (i := 40) (As := [.int (iI k)]) (rest := []) ⟨hx, hb, hml, hown, hts⟩ hK hM hS rfl hV.1 rfl (c_Model_isKind l D g lo L κ S hV k (by omega)) (cwV 1 hts (gV m_647 m_649 m_22 m_58 m_650) rfl rfl rfl (by decide +kernel) ⟨Nat.le_of_ble_eq_true rfl, Nat.le_of_ble_eq_true rfl⟩) rfl hl.1 rfl (Nat.le_of_ble_eq_true rfl) d_Model_canBe_2 ⟨Nat.le_of_ble_eq_true rfl, Nat.le_of_ble_eq_true rfl⟩ (fun H locs hM hS => ?_)
  refine ia_ifz_eq (x := kIs k) (tgt := 32) hx hb d_Model_canBe_5 (by decide) (fun c1 => ?_) (fun c1 => ?_)
  · refine lv_iconst (v := iI (0)) hx hb d_Model_canBe_32 rfl ?_
    exact mw_zret (v := false) hx hb hr hM hS hlocks d_Model_canBe_33 (mwR_z (by unfold mCan; rw [if_pos (by first | exact Or.inl (by assumption) | exact Or.inr (by omega))]))
  · refine lv_aload_n hx hb d_Model_canBe_8 rfl (lv_at hl 0 rfl) ?_
    refine lv_iload_n hx hb d_Model_canBe_9 rfl (lv_at hl 1 rfl) ?_
    refine mw_rdV (i := 40) (As := [.int (iI x)]) (rest := []) ⟨hx, hb, hml, hown, hts⟩ hK hM hS rfl hV.1 rfl (c_Model_kindOf l D g lo L κ S hV x (by omega) hT) (cwV 1 hts (gV m_714 m_716 m_30 m_58 m_717) rfl rfl rfl (by decide +kernel) ⟨Nat.le_of_ble_eq_true rfl, Nat.le_of_ble_eq_true rfl⟩) rfl hl.1 rfl (Nat.le_of_ble_eq_true rfl) d_Model_canBe_10 ⟨Nat.le_of_ble_eq_true rfl, Nat.le_of_ble_eq_true rfl⟩ (fun H locs hM hS => ?_)
    have r2 := mKind_r hV x
    refine lv_iconst (v := iI (4)) hx hb d_Model_canBe_13 rfl ?_
    refine ia_icmp_ne (a := mKind x S) (b := 4) (tgt := 22) hx hb d_Model_canBe_14 (by decide) (by omega) (by omega) (fun c3 => ?_) (fun c3 => ?_)
    · refine lv_iload_n hx hb d_Model_canBe_22 rfl (lv_at hl 2 rfl) ?_
      refine lv_iconst (v := iI (2)) hx hb d_Model_canBe_23 rfl ?_
      refine ia_icmp_eq (a := k) (b := 2) (tgt := 34) hx hb d_Model_canBe_24 (by decide) (by omega) (by omega) (fun c4 => ?_) (fun c4 => ?_)
      · refine lv_iload_n hx hb d_Model_canBe_34 rfl (lv_at hl 2 rfl) ?_
        refine lv_bipush (v := iI (16)) hx hb d_Model_canBe_35 (by decide) ?_
        refine ia_icmp_ne (a := k) (b := 16) (tgt := 62) hx hb d_Model_canBe_37 (by decide) (by omega) (by omega) (fun c5 => ?_) (fun c5 => ?_)
        · refine lv_iload_n hx hb d_Model_canBe_62 rfl (lv_at hl 2 rfl) ?_
          refine lv_bipush (v := iI (8)) hx hb d_Model_canBe_63 (by decide) ?_
          refine ia_icmp_ne (a := k) (b := 8) (tgt := 86) hx hb d_Model_canBe_65 (by decide) (by omega) (by omega) (fun c6 => ?_) (fun c6 => ?_)
          · refine lv_iload_n hx hb d_Model_canBe_86 rfl (lv_at hl 2 rfl) ?_
            refine lv_bipush (v := iI (18)) hx hb d_Model_canBe_87 (by decide) ?_
            refine ia_icmp_eq (a := k) (b := 18) (tgt := 98) hx hb d_Model_canBe_89 (by decide) (by omega) (by omega) (fun c7 => ?_) (fun c7 => ?_)
            · refine lv_iconst (v := iI (1)) hx hb d_Model_canBe_98 rfl ?_
              refine lv_goto (tgt := 103) hx hb d_Model_canBe_99 (by decide) ?_
              exact mw_zret (v := true) hx hb hr hM hS hlocks d_Model_canBe_103 (mwR_z (by first | (exfalso; omega) | (unfold mCan; rw [if_neg (by rintro (z | z); exact absurd z (zne2 (by assumption)); omega)]; (first | (exfalso; omega) | (repeat (first | rw [if_pos (by first | assumption | omega)] | rw [if_neg (by first | assumption | exact zne (by assumption) | omega)]))); exact (decide_eq_true (by omega)).symm)))
            · refine lv_lload_n hx hb d_Model_canBe_92 rfl (lv_at hl 3 rfl) ?_
              refine lv_lconst (v := lI (0)) hx hb d_Model_canBe_93 (by decide) ?_
              refine ia_lcmp (a := v) (b := 0) hx hb (by omega) (by omega) d_Model_canBe_94 ?_
              have r8 := cmpI_s v 0
              refine ia_if_ne (a := cmpI v 0) (tgt := 102) hx hb d_Model_canBe_95 (by decide) (by omega) (fun c9 => ?_) (fun c9 => ?_)
              · refine lv_iconst (v := iI (0)) hx hb d_Model_canBe_102 rfl ?_
                exact mw_zret (v := false) hx hb hr hM hS hlocks d_Model_canBe_103 (mwR_z (by first | (exfalso; omega) | (unfold mCan; rw [if_neg (by rintro (z | z); exact absurd z (zne2 (by assumption)); omega)]; (first | (exfalso; omega) | (repeat (first | rw [if_pos (by first | assumption | omega)] | rw [if_neg (by first | assumption | exact zne (by assumption) | omega)]))); exact (decide_eq_false (by omega)).symm)))
              · refine lv_iconst (v := iI (1)) hx hb d_Model_canBe_98 rfl ?_
                refine lv_goto (tgt := 103) hx hb d_Model_canBe_99 (by decide) ?_
                exact mw_zret (v := true) hx hb hr hM hS hlocks d_Model_canBe_103 (mwR_z (by first | (exfalso; omega) | (unfold mCan; rw [if_neg (by rintro (z | z); exact absurd z (zne2 (by assumption)); omega)]; (first | (exfalso; omega) | (repeat (first | rw [if_pos (by first | assumption | omega)] | rw [if_neg (by first | assumption | exact zne (by assumption) | omega)]))); exact (decide_eq_true (by omega)).symm)))
          · refine lv_lload_n hx hb d_Model_canBe_68 rfl (lv_at hl 3 rfl) ?_
            refine lv_lconst (v := lI (0)) hx hb d_Model_canBe_69 (by decide) ?_
            refine ia_lcmp (a := v) (b := 0) hx hb (by omega) (by omega) d_Model_canBe_70 ?_
            have r10 := cmpI_s v 0
            refine ia_if_eq (a := cmpI v 0) (tgt := 80) hx hb d_Model_canBe_71 (by decide) (by omega) (fun c11 => ?_) (fun c11 => ?_)
            · refine lv_iconst (v := iI (1)) hx hb d_Model_canBe_80 rfl ?_
              refine lv_goto (tgt := 85) hx hb d_Model_canBe_81 (by decide) ?_
              exact mw_zret (v := true) hx hb hr hM hS hlocks d_Model_canBe_85 (mwR_z (by first | (exfalso; omega) | (unfold mCan; rw [if_neg (by rintro (z | z); exact absurd z (zne2 (by assumption)); omega)]; (first | (exfalso; omega) | (repeat (first | rw [if_pos (by first | assumption | omega)] | rw [if_neg (by first | assumption | exact zne (by assumption) | omega)]))); exact (decide_eq_true (by omega)).symm)))
            · refine lv_lload_n hx hb d_Model_canBe_74 rfl (lv_at hl 3 rfl) ?_
              refine lv_lconst (v := lI (1)) hx hb d_Model_canBe_75 (by decide) ?_
              refine ia_lcmp (a := v) (b := 1) hx hb (by omega) (by omega) d_Model_canBe_76 ?_
              have r12 := cmpI_s v 1
              refine ia_if_ne (a := cmpI v 1) (tgt := 84) hx hb d_Model_canBe_77 (by decide) (by omega) (fun c13 => ?_) (fun c13 => ?_)
              · refine lv_iconst (v := iI (0)) hx hb d_Model_canBe_84 rfl ?_
                exact mw_zret (v := false) hx hb hr hM hS hlocks d_Model_canBe_85 (mwR_z (by first | (exfalso; omega) | (unfold mCan; rw [if_neg (by rintro (z | z); exact absurd z (zne2 (by assumption)); omega)]; (first | (exfalso; omega) | (repeat (first | rw [if_pos (by first | assumption | omega)] | rw [if_neg (by first | assumption | exact zne (by assumption) | omega)]))); exact (decide_eq_false (by omega)).symm)))
              · refine lv_iconst (v := iI (1)) hx hb d_Model_canBe_80 rfl ?_
                refine lv_goto (tgt := 85) hx hb d_Model_canBe_81 (by decide) ?_
                exact mw_zret (v := true) hx hb hr hM hS hlocks d_Model_canBe_85 (mwR_z (by first | (exfalso; omega) | (unfold mCan; rw [if_neg (by rintro (z | z); exact absurd z (zne2 (by assumption)); omega)]; (first | (exfalso; omega) | (repeat (first | rw [if_pos (by first | assumption | omega)] | rw [if_neg (by first | assumption | exact zne (by assumption) | omega)]))); exact (decide_eq_true (by omega)).symm)))
        · refine lv_lload_n hx hb d_Model_canBe_40 rfl (lv_at hl 3 rfl) ?_
          refine lv_ldc2 (v := (-2147483648)) hx hb hown (hts _ m_762) d_Model_canBe_41 ?_
          refine W.eq (g2 := F0 m 44 ls (.long (lI (-2147483648)) :: .long (lI v) :: [])) (by rfl) ?_
          refine ia_lcmp (a := v) (b := (-2147483648)) hx hb (by omega) (by omega) d_Model_canBe_44 ?_
          have r14 := cmpI_s v ((-2147483648))
          refine ia_if_lt (a := cmpI v ((-2147483648))) (tgt := 60) hx hb d_Model_canBe_45 (by decide) (by omega) (fun c15 => ?_) (fun c15 => ?_)
          · refine lv_iconst (v := iI (0)) hx hb d_Model_canBe_60 rfl ?_
            exact mw_zret (v := false) hx hb hr hM hS hlocks d_Model_canBe_61 (mwR_z (by first | (exfalso; omega) | (unfold mCan; rw [if_neg (by rintro (z | z); exact absurd z (zne2 (by assumption)); omega)]; (first | (exfalso; omega) | (repeat (first | rw [if_pos (by first | assumption | omega)] | rw [if_neg (by first | assumption | exact zne (by assumption) | omega)]))); exact (decide_eq_false (by omega)).symm)))
          · refine lv_lload_n hx hb d_Model_canBe_48 rfl (lv_at hl 3 rfl) ?_
            refine lv_ldc2 (v := 2147483647) hx hb hown (hts _ m_763) d_Model_canBe_49 ?_
            refine W.eq (g2 := F0 m 52 ls (.long (lI 2147483647) :: .long (lI v) :: [])) (by rfl) ?_
            refine ia_lcmp (a := v) (b := 2147483647) hx hb (by omega) (by omega) d_Model_canBe_52 ?_
            have r16 := cmpI_s v 2147483647
            refine ia_if_gt (a := cmpI v 2147483647) (tgt := 60) hx hb d_Model_canBe_53 (by decide) (by omega) (fun c17 => ?_) (fun c17 => ?_)
            · refine lv_iconst (v := iI (0)) hx hb d_Model_canBe_60 rfl ?_
              exact mw_zret (v := false) hx hb hr hM hS hlocks d_Model_canBe_61 (mwR_z (by first | (exfalso; omega) | (unfold mCan; rw [if_neg (by rintro (z | z); exact absurd z (zne2 (by assumption)); omega)]; (first | (exfalso; omega) | (repeat (first | rw [if_pos (by first | assumption | omega)] | rw [if_neg (by first | assumption | exact zne (by assumption) | omega)]))); exact (decide_eq_false (by omega)).symm)))
            · refine lv_iconst (v := iI (1)) hx hb d_Model_canBe_56 rfl ?_
              refine lv_goto (tgt := 61) hx hb d_Model_canBe_57 (by decide) ?_
              exact mw_zret (v := true) hx hb hr hM hS hlocks d_Model_canBe_61 (mwR_z (by first | (exfalso; omega) | (unfold mCan; rw [if_neg (by rintro (z | z); exact absurd z (zne2 (by assumption)); omega)]; (first | (exfalso; omega) | (repeat (first | rw [if_pos (by first | assumption | omega)] | rw [if_neg (by first | assumption | exact zne (by assumption) | omega)]))); exact (decide_eq_true (by omega)).symm)))
      · refine lv_iload hx hb d_Model_canBe_27 (lv_at hl 5 rfl) ?_
        refine ia_if_le (a := m1) (tgt := 34) hx hb d_Model_canBe_29 (by decide) (by omega) (fun c18 => ?_) (fun c18 => ?_)
        · refine lv_iload_n hx hb d_Model_canBe_34 rfl (lv_at hl 2 rfl) ?_
          refine lv_bipush (v := iI (16)) hx hb d_Model_canBe_35 (by decide) ?_
          refine ia_icmp_ne (a := k) (b := 16) (tgt := 62) hx hb d_Model_canBe_37 (by decide) (by omega) (by omega) (fun c19 => ?_) (fun c19 => ?_)
          · refine lv_iload_n hx hb d_Model_canBe_62 rfl (lv_at hl 2 rfl) ?_
            refine lv_bipush (v := iI (8)) hx hb d_Model_canBe_63 (by decide) ?_
            refine ia_icmp_ne (a := k) (b := 8) (tgt := 86) hx hb d_Model_canBe_65 (by decide) (by omega) (by omega) (fun c20 => ?_) (fun c20 => ?_)
            · refine lv_iload_n hx hb d_Model_canBe_86 rfl (lv_at hl 2 rfl) ?_
              refine lv_bipush (v := iI (18)) hx hb d_Model_canBe_87 (by decide) ?_
              refine ia_icmp_eq (a := k) (b := 18) (tgt := 98) hx hb d_Model_canBe_89 (by decide) (by omega) (by omega) (fun c21 => ?_) (fun c21 => ?_)
              · refine lv_iconst (v := iI (1)) hx hb d_Model_canBe_98 rfl ?_
                refine lv_goto (tgt := 103) hx hb d_Model_canBe_99 (by decide) ?_
                exact mw_zret (v := true) hx hb hr hM hS hlocks d_Model_canBe_103 (mwR_z (by first | (exfalso; omega) | (unfold mCan; rw [if_neg (by rintro (z | z); exact absurd z (zne2 (by assumption)); omega)]; (first | (exfalso; omega) | (repeat (first | rw [if_pos (by first | assumption | omega)] | rw [if_neg (by first | assumption | exact zne (by assumption) | omega)]))); exact (decide_eq_true (by omega)).symm)))
              · refine lv_lload_n hx hb d_Model_canBe_92 rfl (lv_at hl 3 rfl) ?_
                refine lv_lconst (v := lI (0)) hx hb d_Model_canBe_93 (by decide) ?_
                refine ia_lcmp (a := v) (b := 0) hx hb (by omega) (by omega) d_Model_canBe_94 ?_
                have r22 := cmpI_s v 0
                refine ia_if_ne (a := cmpI v 0) (tgt := 102) hx hb d_Model_canBe_95 (by decide) (by omega) (fun c23 => ?_) (fun c23 => ?_)
                · refine lv_iconst (v := iI (0)) hx hb d_Model_canBe_102 rfl ?_
                  exact mw_zret (v := false) hx hb hr hM hS hlocks d_Model_canBe_103 (mwR_z (by first | (exfalso; omega) | (unfold mCan; rw [if_neg (by rintro (z | z); exact absurd z (zne2 (by assumption)); omega)]; (first | (exfalso; omega) | (repeat (first | rw [if_pos (by first | assumption | omega)] | rw [if_neg (by first | assumption | exact zne (by assumption) | omega)]))); exact (decide_eq_false (by omega)).symm)))
                · refine lv_iconst (v := iI (1)) hx hb d_Model_canBe_98 rfl ?_
                  refine lv_goto (tgt := 103) hx hb d_Model_canBe_99 (by decide) ?_
                  exact mw_zret (v := true) hx hb hr hM hS hlocks d_Model_canBe_103 (mwR_z (by first | (exfalso; omega) | (unfold mCan; rw [if_neg (by rintro (z | z); exact absurd z (zne2 (by assumption)); omega)]; (first | (exfalso; omega) | (repeat (first | rw [if_pos (by first | assumption | omega)] | rw [if_neg (by first | assumption | exact zne (by assumption) | omega)]))); exact (decide_eq_true (by omega)).symm)))
            · refine lv_lload_n hx hb d_Model_canBe_68 rfl (lv_at hl 3 rfl) ?_
              refine lv_lconst (v := lI (0)) hx hb d_Model_canBe_69 (by decide) ?_
              refine ia_lcmp (a := v) (b := 0) hx hb (by omega) (by omega) d_Model_canBe_70 ?_
              have r24 := cmpI_s v 0
              refine ia_if_eq (a := cmpI v 0) (tgt := 80) hx hb d_Model_canBe_71 (by decide) (by omega) (fun c25 => ?_) (fun c25 => ?_)
              · refine lv_iconst (v := iI (1)) hx hb d_Model_canBe_80 rfl ?_
                refine lv_goto (tgt := 85) hx hb d_Model_canBe_81 (by decide) ?_
                exact mw_zret (v := true) hx hb hr hM hS hlocks d_Model_canBe_85 (mwR_z (by first | (exfalso; omega) | (unfold mCan; rw [if_neg (by rintro (z | z); exact absurd z (zne2 (by assumption)); omega)]; (first | (exfalso; omega) | (repeat (first | rw [if_pos (by first | assumption | omega)] | rw [if_neg (by first | assumption | exact zne (by assumption) | omega)]))); exact (decide_eq_true (by omega)).symm)))
              · refine lv_lload_n hx hb d_Model_canBe_74 rfl (lv_at hl 3 rfl) ?_
                refine lv_lconst (v := lI (1)) hx hb d_Model_canBe_75 (by decide) ?_
                refine ia_lcmp (a := v) (b := 1) hx hb (by omega) (by omega) d_Model_canBe_76 ?_
                have r26 := cmpI_s v 1
                refine ia_if_ne (a := cmpI v 1) (tgt := 84) hx hb d_Model_canBe_77 (by decide) (by omega) (fun c27 => ?_) (fun c27 => ?_)
                · refine lv_iconst (v := iI (0)) hx hb d_Model_canBe_84 rfl ?_
                  exact mw_zret (v := false) hx hb hr hM hS hlocks d_Model_canBe_85 (mwR_z (by first | (exfalso; omega) | (unfold mCan; rw [if_neg (by rintro (z | z); exact absurd z (zne2 (by assumption)); omega)]; (first | (exfalso; omega) | (repeat (first | rw [if_pos (by first | assumption | omega)] | rw [if_neg (by first | assumption | exact zne (by assumption) | omega)]))); exact (decide_eq_false (by omega)).symm)))
                · refine lv_iconst (v := iI (1)) hx hb d_Model_canBe_80 rfl ?_
                  refine lv_goto (tgt := 85) hx hb d_Model_canBe_81 (by decide) ?_
                  exact mw_zret (v := true) hx hb hr hM hS hlocks d_Model_canBe_85 (mwR_z (by first | (exfalso; omega) | (unfold mCan; rw [if_neg (by rintro (z | z); exact absurd z (zne2 (by assumption)); omega)]; (first | (exfalso; omega) | (repeat (first | rw [if_pos (by first | assumption | omega)] | rw [if_neg (by first | assumption | exact zne (by assumption) | omega)]))); exact (decide_eq_true (by omega)).symm)))
          · refine lv_lload_n hx hb d_Model_canBe_40 rfl (lv_at hl 3 rfl) ?_
            refine lv_ldc2 (v := (-2147483648)) hx hb hown (hts _ m_762) d_Model_canBe_41 ?_
            refine W.eq (g2 := F0 m 44 ls (.long (lI (-2147483648)) :: .long (lI v) :: [])) (by rfl) ?_
            refine ia_lcmp (a := v) (b := (-2147483648)) hx hb (by omega) (by omega) d_Model_canBe_44 ?_
            have r28 := cmpI_s v ((-2147483648))
            refine ia_if_lt (a := cmpI v ((-2147483648))) (tgt := 60) hx hb d_Model_canBe_45 (by decide) (by omega) (fun c29 => ?_) (fun c29 => ?_)
            · refine lv_iconst (v := iI (0)) hx hb d_Model_canBe_60 rfl ?_
              exact mw_zret (v := false) hx hb hr hM hS hlocks d_Model_canBe_61 (mwR_z (by first | (exfalso; omega) | (unfold mCan; rw [if_neg (by rintro (z | z); exact absurd z (zne2 (by assumption)); omega)]; (first | (exfalso; omega) | (repeat (first | rw [if_pos (by first | assumption | omega)] | rw [if_neg (by first | assumption | exact zne (by assumption) | omega)]))); exact (decide_eq_false (by omega)).symm)))
            · refine lv_lload_n hx hb d_Model_canBe_48 rfl (lv_at hl 3 rfl) ?_
              refine lv_ldc2 (v := 2147483647) hx hb hown (hts _ m_763) d_Model_canBe_49 ?_
              refine W.eq (g2 := F0 m 52 ls (.long (lI 2147483647) :: .long (lI v) :: [])) (by rfl) ?_
              refine ia_lcmp (a := v) (b := 2147483647) hx hb (by omega) (by omega) d_Model_canBe_52 ?_
              have r30 := cmpI_s v 2147483647
              refine ia_if_gt (a := cmpI v 2147483647) (tgt := 60) hx hb d_Model_canBe_53 (by decide) (by omega) (fun c31 => ?_) (fun c31 => ?_)
              · refine lv_iconst (v := iI (0)) hx hb d_Model_canBe_60 rfl ?_
                exact mw_zret (v := false) hx hb hr hM hS hlocks d_Model_canBe_61 (mwR_z (by first | (exfalso; omega) | (unfold mCan; rw [if_neg (by rintro (z | z); exact absurd z (zne2 (by assumption)); omega)]; (first | (exfalso; omega) | (repeat (first | rw [if_pos (by first | assumption | omega)] | rw [if_neg (by first | assumption | exact zne (by assumption) | omega)]))); exact (decide_eq_false (by omega)).symm)))
              · refine lv_iconst (v := iI (1)) hx hb d_Model_canBe_56 rfl ?_
                refine lv_goto (tgt := 61) hx hb d_Model_canBe_57 (by decide) ?_
                exact mw_zret (v := true) hx hb hr hM hS hlocks d_Model_canBe_61 (mwR_z (by first | (exfalso; omega) | (unfold mCan; rw [if_neg (by rintro (z | z); exact absurd z (zne2 (by assumption)); omega)]; (first | (exfalso; omega) | (repeat (first | rw [if_pos (by first | assumption | omega)] | rw [if_neg (by first | assumption | exact zne (by assumption) | omega)]))); exact (decide_eq_true (by omega)).symm)))
        · refine lv_iconst (v := iI (0)) hx hb d_Model_canBe_32 rfl ?_
          exact mw_zret (v := false) hx hb hr hM hS hlocks d_Model_canBe_33 (mwR_z (by unfold mCan; rw [if_pos (by first | exact Or.inl (by assumption) | exact Or.inr (by omega))]))
    · refine lv_iload hx hb d_Model_canBe_17 (lv_at hl 4 rfl) ?_
      refine ia_if_gt (a := n) (tgt := 32) hx hb d_Model_canBe_19 (by decide) (by omega) (fun c32 => ?_) (fun c32 => ?_)
      · refine lv_iconst (v := iI (0)) hx hb d_Model_canBe_32 rfl ?_
        exact mw_zret (v := false) hx hb hr hM hS hlocks d_Model_canBe_33 (mwR_z (by unfold mCan; rw [if_pos (by first | exact Or.inl (by assumption) | exact Or.inr (by omega))]))
      · refine lv_iload_n hx hb d_Model_canBe_22 rfl (lv_at hl 2 rfl) ?_
        refine lv_iconst (v := iI (2)) hx hb d_Model_canBe_23 rfl ?_
        refine ia_icmp_eq (a := k) (b := 2) (tgt := 34) hx hb d_Model_canBe_24 (by decide) (by omega) (by omega) (fun c33 => ?_) (fun c33 => ?_)
        · refine lv_iload_n hx hb d_Model_canBe_34 rfl (lv_at hl 2 rfl) ?_
          refine lv_bipush (v := iI (16)) hx hb d_Model_canBe_35 (by decide) ?_
          refine ia_icmp_ne (a := k) (b := 16) (tgt := 62) hx hb d_Model_canBe_37 (by decide) (by omega) (by omega) (fun c34 => ?_) (fun c34 => ?_)
          · refine lv_iload_n hx hb d_Model_canBe_62 rfl (lv_at hl 2 rfl) ?_
            refine lv_bipush (v := iI (8)) hx hb d_Model_canBe_63 (by decide) ?_
            refine ia_icmp_ne (a := k) (b := 8) (tgt := 86) hx hb d_Model_canBe_65 (by decide) (by omega) (by omega) (fun c35 => ?_) (fun c35 => ?_)
            · refine lv_iload_n hx hb d_Model_canBe_86 rfl (lv_at hl 2 rfl) ?_
              refine lv_bipush (v := iI (18)) hx hb d_Model_canBe_87 (by decide) ?_
              refine ia_icmp_eq (a := k) (b := 18) (tgt := 98) hx hb d_Model_canBe_89 (by decide) (by omega) (by omega) (fun c36 => ?_) (fun c36 => ?_)
              · refine lv_iconst (v := iI (1)) hx hb d_Model_canBe_98 rfl ?_
                refine lv_goto (tgt := 103) hx hb d_Model_canBe_99 (by decide) ?_
                exact mw_zret (v := true) hx hb hr hM hS hlocks d_Model_canBe_103 (mwR_z (by first | (exfalso; omega) | (unfold mCan; rw [if_neg (by rintro (z | z); exact absurd z (zne2 (by assumption)); omega)]; (first | (exfalso; omega) | (repeat (first | rw [if_pos (by first | assumption | omega)] | rw [if_neg (by first | assumption | exact zne (by assumption) | omega)]))); exact (decide_eq_true (by omega)).symm)))
              · refine lv_lload_n hx hb d_Model_canBe_92 rfl (lv_at hl 3 rfl) ?_
                refine lv_lconst (v := lI (0)) hx hb d_Model_canBe_93 (by decide) ?_
                refine ia_lcmp (a := v) (b := 0) hx hb (by omega) (by omega) d_Model_canBe_94 ?_
                have r37 := cmpI_s v 0
                refine ia_if_ne (a := cmpI v 0) (tgt := 102) hx hb d_Model_canBe_95 (by decide) (by omega) (fun c38 => ?_) (fun c38 => ?_)
                · refine lv_iconst (v := iI (0)) hx hb d_Model_canBe_102 rfl ?_
                  exact mw_zret (v := false) hx hb hr hM hS hlocks d_Model_canBe_103 (mwR_z (by first | (exfalso; omega) | (unfold mCan; rw [if_neg (by rintro (z | z); exact absurd z (zne2 (by assumption)); omega)]; (first | (exfalso; omega) | (repeat (first | rw [if_pos (by first | assumption | omega)] | rw [if_neg (by first | assumption | exact zne (by assumption) | omega)]))); exact (decide_eq_false (by omega)).symm)))
                · refine lv_iconst (v := iI (1)) hx hb d_Model_canBe_98 rfl ?_
                  refine lv_goto (tgt := 103) hx hb d_Model_canBe_99 (by decide) ?_
                  exact mw_zret (v := true) hx hb hr hM hS hlocks d_Model_canBe_103 (mwR_z (by first | (exfalso; omega) | (unfold mCan; rw [if_neg (by rintro (z | z); exact absurd z (zne2 (by assumption)); omega)]; (first | (exfalso; omega) | (repeat (first | rw [if_pos (by first | assumption | omega)] | rw [if_neg (by first | assumption | exact zne (by assumption) | omega)]))); exact (decide_eq_true (by omega)).symm)))
            · refine lv_lload_n hx hb d_Model_canBe_68 rfl (lv_at hl 3 rfl) ?_
              refine lv_lconst (v := lI (0)) hx hb d_Model_canBe_69 (by decide) ?_
              refine ia_lcmp (a := v) (b := 0) hx hb (by omega) (by omega) d_Model_canBe_70 ?_
              have r39 := cmpI_s v 0
              refine ia_if_eq (a := cmpI v 0) (tgt := 80) hx hb d_Model_canBe_71 (by decide) (by omega) (fun c40 => ?_) (fun c40 => ?_)
              · refine lv_iconst (v := iI (1)) hx hb d_Model_canBe_80 rfl ?_
                refine lv_goto (tgt := 85) hx hb d_Model_canBe_81 (by decide) ?_
                exact mw_zret (v := true) hx hb hr hM hS hlocks d_Model_canBe_85 (mwR_z (by first | (exfalso; omega) | (unfold mCan; rw [if_neg (by rintro (z | z); exact absurd z (zne2 (by assumption)); omega)]; (first | (exfalso; omega) | (repeat (first | rw [if_pos (by first | assumption | omega)] | rw [if_neg (by first | assumption | exact zne (by assumption) | omega)]))); exact (decide_eq_true (by omega)).symm)))
              · refine lv_lload_n hx hb d_Model_canBe_74 rfl (lv_at hl 3 rfl) ?_
                refine lv_lconst (v := lI (1)) hx hb d_Model_canBe_75 (by decide) ?_
                refine ia_lcmp (a := v) (b := 1) hx hb (by omega) (by omega) d_Model_canBe_76 ?_
                have r41 := cmpI_s v 1
                refine ia_if_ne (a := cmpI v 1) (tgt := 84) hx hb d_Model_canBe_77 (by decide) (by omega) (fun c42 => ?_) (fun c42 => ?_)
                · refine lv_iconst (v := iI (0)) hx hb d_Model_canBe_84 rfl ?_
                  exact mw_zret (v := false) hx hb hr hM hS hlocks d_Model_canBe_85 (mwR_z (by first | (exfalso; omega) | (unfold mCan; rw [if_neg (by rintro (z | z); exact absurd z (zne2 (by assumption)); omega)]; (first | (exfalso; omega) | (repeat (first | rw [if_pos (by first | assumption | omega)] | rw [if_neg (by first | assumption | exact zne (by assumption) | omega)]))); exact (decide_eq_false (by omega)).symm)))
                · refine lv_iconst (v := iI (1)) hx hb d_Model_canBe_80 rfl ?_
                  refine lv_goto (tgt := 85) hx hb d_Model_canBe_81 (by decide) ?_
                  exact mw_zret (v := true) hx hb hr hM hS hlocks d_Model_canBe_85 (mwR_z (by first | (exfalso; omega) | (unfold mCan; rw [if_neg (by rintro (z | z); exact absurd z (zne2 (by assumption)); omega)]; (first | (exfalso; omega) | (repeat (first | rw [if_pos (by first | assumption | omega)] | rw [if_neg (by first | assumption | exact zne (by assumption) | omega)]))); exact (decide_eq_true (by omega)).symm)))
          · refine lv_lload_n hx hb d_Model_canBe_40 rfl (lv_at hl 3 rfl) ?_
            refine lv_ldc2 (v := (-2147483648)) hx hb hown (hts _ m_762) d_Model_canBe_41 ?_
            refine W.eq (g2 := F0 m 44 ls (.long (lI (-2147483648)) :: .long (lI v) :: [])) (by rfl) ?_
            refine ia_lcmp (a := v) (b := (-2147483648)) hx hb (by omega) (by omega) d_Model_canBe_44 ?_
            have r43 := cmpI_s v ((-2147483648))
            refine ia_if_lt (a := cmpI v ((-2147483648))) (tgt := 60) hx hb d_Model_canBe_45 (by decide) (by omega) (fun c44 => ?_) (fun c44 => ?_)
            · refine lv_iconst (v := iI (0)) hx hb d_Model_canBe_60 rfl ?_
              exact mw_zret (v := false) hx hb hr hM hS hlocks d_Model_canBe_61 (mwR_z (by first | (exfalso; omega) | (unfold mCan; rw [if_neg (by rintro (z | z); exact absurd z (zne2 (by assumption)); omega)]; (first | (exfalso; omega) | (repeat (first | rw [if_pos (by first | assumption | omega)] | rw [if_neg (by first | assumption | exact zne (by assumption) | omega)]))); exact (decide_eq_false (by omega)).symm)))
            · refine lv_lload_n hx hb d_Model_canBe_48 rfl (lv_at hl 3 rfl) ?_
              refine lv_ldc2 (v := 2147483647) hx hb hown (hts _ m_763) d_Model_canBe_49 ?_
              refine W.eq (g2 := F0 m 52 ls (.long (lI 2147483647) :: .long (lI v) :: [])) (by rfl) ?_
              refine ia_lcmp (a := v) (b := 2147483647) hx hb (by omega) (by omega) d_Model_canBe_52 ?_
              have r45 := cmpI_s v 2147483647
              refine ia_if_gt (a := cmpI v 2147483647) (tgt := 60) hx hb d_Model_canBe_53 (by decide) (by omega) (fun c46 => ?_) (fun c46 => ?_)
              · refine lv_iconst (v := iI (0)) hx hb d_Model_canBe_60 rfl ?_
                exact mw_zret (v := false) hx hb hr hM hS hlocks d_Model_canBe_61 (mwR_z (by first | (exfalso; omega) | (unfold mCan; rw [if_neg (by rintro (z | z); exact absurd z (zne2 (by assumption)); omega)]; (first | (exfalso; omega) | (repeat (first | rw [if_pos (by first | assumption | omega)] | rw [if_neg (by first | assumption | exact zne (by assumption) | omega)]))); exact (decide_eq_false (by omega)).symm)))
              · refine lv_iconst (v := iI (1)) hx hb d_Model_canBe_56 rfl ?_
                refine lv_goto (tgt := 61) hx hb d_Model_canBe_57 (by decide) ?_
                exact mw_zret (v := true) hx hb hr hM hS hlocks d_Model_canBe_61 (mwR_z (by first | (exfalso; omega) | (unfold mCan; rw [if_neg (by rintro (z | z); exact absurd z (zne2 (by assumption)); omega)]; (first | (exfalso; omega) | (repeat (first | rw [if_pos (by first | assumption | omega)] | rw [if_neg (by first | assumption | exact zne (by assumption) | omega)]))); exact (decide_eq_true (by omega)).symm)))
        · refine lv_iload hx hb d_Model_canBe_27 (lv_at hl 5 rfl) ?_
          refine ia_if_le (a := m1) (tgt := 34) hx hb d_Model_canBe_29 (by decide) (by omega) (fun c47 => ?_) (fun c47 => ?_)
          · refine lv_iload_n hx hb d_Model_canBe_34 rfl (lv_at hl 2 rfl) ?_
            refine lv_bipush (v := iI (16)) hx hb d_Model_canBe_35 (by decide) ?_
            refine ia_icmp_ne (a := k) (b := 16) (tgt := 62) hx hb d_Model_canBe_37 (by decide) (by omega) (by omega) (fun c48 => ?_) (fun c48 => ?_)
            · refine lv_iload_n hx hb d_Model_canBe_62 rfl (lv_at hl 2 rfl) ?_
              refine lv_bipush (v := iI (8)) hx hb d_Model_canBe_63 (by decide) ?_
              refine ia_icmp_ne (a := k) (b := 8) (tgt := 86) hx hb d_Model_canBe_65 (by decide) (by omega) (by omega) (fun c49 => ?_) (fun c49 => ?_)
              · refine lv_iload_n hx hb d_Model_canBe_86 rfl (lv_at hl 2 rfl) ?_
                refine lv_bipush (v := iI (18)) hx hb d_Model_canBe_87 (by decide) ?_
                refine ia_icmp_eq (a := k) (b := 18) (tgt := 98) hx hb d_Model_canBe_89 (by decide) (by omega) (by omega) (fun c50 => ?_) (fun c50 => ?_)
                · refine lv_iconst (v := iI (1)) hx hb d_Model_canBe_98 rfl ?_
                  refine lv_goto (tgt := 103) hx hb d_Model_canBe_99 (by decide) ?_
                  exact mw_zret (v := true) hx hb hr hM hS hlocks d_Model_canBe_103 (mwR_z (by first | (exfalso; omega) | (unfold mCan; rw [if_neg (by rintro (z | z); exact absurd z (zne2 (by assumption)); omega)]; (first | (exfalso; omega) | (repeat (first | rw [if_pos (by first | assumption | omega)] | rw [if_neg (by first | assumption | exact zne (by assumption) | omega)]))); exact (decide_eq_true (by omega)).symm)))
                · refine lv_lload_n hx hb d_Model_canBe_92 rfl (lv_at hl 3 rfl) ?_
                  refine lv_lconst (v := lI (0)) hx hb d_Model_canBe_93 (by decide) ?_
                  refine ia_lcmp (a := v) (b := 0) hx hb (by omega) (by omega) d_Model_canBe_94 ?_
                  have r51 := cmpI_s v 0
                  refine ia_if_ne (a := cmpI v 0) (tgt := 102) hx hb d_Model_canBe_95 (by decide) (by omega) (fun c52 => ?_) (fun c52 => ?_)
                  · refine lv_iconst (v := iI (0)) hx hb d_Model_canBe_102 rfl ?_
                    exact mw_zret (v := false) hx hb hr hM hS hlocks d_Model_canBe_103 (mwR_z (by first | (exfalso; omega) | (unfold mCan; rw [if_neg (by rintro (z | z); exact absurd z (zne2 (by assumption)); omega)]; (first | (exfalso; omega) | (repeat (first | rw [if_pos (by first | assumption | omega)] | rw [if_neg (by first | assumption | exact zne (by assumption) | omega)]))); exact (decide_eq_false (by omega)).symm)))
                  · refine lv_iconst (v := iI (1)) hx hb d_Model_canBe_98 rfl ?_
                    refine lv_goto (tgt := 103) hx hb d_Model_canBe_99 (by decide) ?_
                    exact mw_zret (v := true) hx hb hr hM hS hlocks d_Model_canBe_103 (mwR_z (by first | (exfalso; omega) | (unfold mCan; rw [if_neg (by rintro (z | z); exact absurd z (zne2 (by assumption)); omega)]; (first | (exfalso; omega) | (repeat (first | rw [if_pos (by first | assumption | omega)] | rw [if_neg (by first | assumption | exact zne (by assumption) | omega)]))); exact (decide_eq_true (by omega)).symm)))
              · refine lv_lload_n hx hb d_Model_canBe_68 rfl (lv_at hl 3 rfl) ?_
                refine lv_lconst (v := lI (0)) hx hb d_Model_canBe_69 (by decide) ?_
                refine ia_lcmp (a := v) (b := 0) hx hb (by omega) (by omega) d_Model_canBe_70 ?_
                have r53 := cmpI_s v 0
                refine ia_if_eq (a := cmpI v 0) (tgt := 80) hx hb d_Model_canBe_71 (by decide) (by omega) (fun c54 => ?_) (fun c54 => ?_)
                · refine lv_iconst (v := iI (1)) hx hb d_Model_canBe_80 rfl ?_
                  refine lv_goto (tgt := 85) hx hb d_Model_canBe_81 (by decide) ?_
                  exact mw_zret (v := true) hx hb hr hM hS hlocks d_Model_canBe_85 (mwR_z (by first | (exfalso; omega) | (unfold mCan; rw [if_neg (by rintro (z | z); exact absurd z (zne2 (by assumption)); omega)]; (first | (exfalso; omega) | (repeat (first | rw [if_pos (by first | assumption | omega)] | rw [if_neg (by first | assumption | exact zne (by assumption) | omega)]))); exact (decide_eq_true (by omega)).symm)))
                · refine lv_lload_n hx hb d_Model_canBe_74 rfl (lv_at hl 3 rfl) ?_
                  refine lv_lconst (v := lI (1)) hx hb d_Model_canBe_75 (by decide) ?_
                  refine ia_lcmp (a := v) (b := 1) hx hb (by omega) (by omega) d_Model_canBe_76 ?_
                  have r55 := cmpI_s v 1
                  refine ia_if_ne (a := cmpI v 1) (tgt := 84) hx hb d_Model_canBe_77 (by decide) (by omega) (fun c56 => ?_) (fun c56 => ?_)
                  · refine lv_iconst (v := iI (0)) hx hb d_Model_canBe_84 rfl ?_
                    exact mw_zret (v := false) hx hb hr hM hS hlocks d_Model_canBe_85 (mwR_z (by first | (exfalso; omega) | (unfold mCan; rw [if_neg (by rintro (z | z); exact absurd z (zne2 (by assumption)); omega)]; (first | (exfalso; omega) | (repeat (first | rw [if_pos (by first | assumption | omega)] | rw [if_neg (by first | assumption | exact zne (by assumption) | omega)]))); exact (decide_eq_false (by omega)).symm)))
                  · refine lv_iconst (v := iI (1)) hx hb d_Model_canBe_80 rfl ?_
                    refine lv_goto (tgt := 85) hx hb d_Model_canBe_81 (by decide) ?_
                    exact mw_zret (v := true) hx hb hr hM hS hlocks d_Model_canBe_85 (mwR_z (by first | (exfalso; omega) | (unfold mCan; rw [if_neg (by rintro (z | z); exact absurd z (zne2 (by assumption)); omega)]; (first | (exfalso; omega) | (repeat (first | rw [if_pos (by first | assumption | omega)] | rw [if_neg (by first | assumption | exact zne (by assumption) | omega)]))); exact (decide_eq_true (by omega)).symm)))
            · refine lv_lload_n hx hb d_Model_canBe_40 rfl (lv_at hl 3 rfl) ?_
              refine lv_ldc2 (v := (-2147483648)) hx hb hown (hts _ m_762) d_Model_canBe_41 ?_
              refine W.eq (g2 := F0 m 44 ls (.long (lI (-2147483648)) :: .long (lI v) :: [])) (by rfl) ?_
              refine ia_lcmp (a := v) (b := (-2147483648)) hx hb (by omega) (by omega) d_Model_canBe_44 ?_
              have r57 := cmpI_s v ((-2147483648))
              refine ia_if_lt (a := cmpI v ((-2147483648))) (tgt := 60) hx hb d_Model_canBe_45 (by decide) (by omega) (fun c58 => ?_) (fun c58 => ?_)
              · refine lv_iconst (v := iI (0)) hx hb d_Model_canBe_60 rfl ?_
                exact mw_zret (v := false) hx hb hr hM hS hlocks d_Model_canBe_61 (mwR_z (by first | (exfalso; omega) | (unfold mCan; rw [if_neg (by rintro (z | z); exact absurd z (zne2 (by assumption)); omega)]; (first | (exfalso; omega) | (repeat (first | rw [if_pos (by first | assumption | omega)] | rw [if_neg (by first | assumption | exact zne (by assumption) | omega)]))); exact (decide_eq_false (by omega)).symm)))
              · refine lv_lload_n hx hb d_Model_canBe_48 rfl (lv_at hl 3 rfl) ?_
                refine lv_ldc2 (v := 2147483647) hx hb hown (hts _ m_763) d_Model_canBe_49 ?_
                refine W.eq (g2 := F0 m 52 ls (.long (lI 2147483647) :: .long (lI v) :: [])) (by rfl) ?_
                refine ia_lcmp (a := v) (b := 2147483647) hx hb (by omega) (by omega) d_Model_canBe_52 ?_
                have r59 := cmpI_s v 2147483647
                refine ia_if_gt (a := cmpI v 2147483647) (tgt := 60) hx hb d_Model_canBe_53 (by decide) (by omega) (fun c60 => ?_) (fun c60 => ?_)
                · refine lv_iconst (v := iI (0)) hx hb d_Model_canBe_60 rfl ?_
                  exact mw_zret (v := false) hx hb hr hM hS hlocks d_Model_canBe_61 (mwR_z (by first | (exfalso; omega) | (unfold mCan; rw [if_neg (by rintro (z | z); exact absurd z (zne2 (by assumption)); omega)]; (first | (exfalso; omega) | (repeat (first | rw [if_pos (by first | assumption | omega)] | rw [if_neg (by first | assumption | exact zne (by assumption) | omega)]))); exact (decide_eq_false (by omega)).symm)))
                · refine lv_iconst (v := iI (1)) hx hb d_Model_canBe_56 rfl ?_
                  refine lv_goto (tgt := 61) hx hb d_Model_canBe_57 (by decide) ?_
                  exact mw_zret (v := true) hx hb hr hM hS hlocks d_Model_canBe_61 (mwR_z (by first | (exfalso; omega) | (unfold mCan; rw [if_neg (by rintro (z | z); exact absurd z (zne2 (by assumption)); omega)]; (first | (exfalso; omega) | (repeat (first | rw [if_pos (by first | assumption | omega)] | rw [if_neg (by first | assumption | exact zne (by assumption) | omega)]))); exact (decide_eq_true (by omega)).symm)))
          · refine lv_iconst (v := iI (0)) hx hb d_Model_canBe_32 rfl ?_
            exact mw_zret (v := false) hx hb hr hM hS hlocks d_Model_canBe_33 (mwR_z (by unfold mCan; rw [if_pos (by first | exact Or.inl (by assumption) | exact Or.inr (by omega))]))
set_option maxHeartbeats 4000000 in
set_option maxRecDepth 100000 in
theorem c_Model_isNameFree (l : Launch) (D : va_G) (g : Nat → ClassId) (lo : Nat) (L : Nat → Nat) (κ : Nat → Option va_E) (S : MS) (hV : mds g L κ S) (x n : Int) (hx0 : 0 ≤ x ∧ x < S.f 3) (hn0 : 0 ≤ n ∧ n ≤ 2000) (hT : mTb S) : Met l y_Model_isNameFree w_Model_isNameFree ({ frames := 2, cells := 0, slots := 0, locals := 50 }) (mwP D vwCl (tyL g) lo L κ [.ref (L 40), .int (iI x), .int (iI n)]) (mwQ D vwCl lo (mwR (some (.int (iI (bI (mFree x n S))))) L κ)) 0 0 (fun q => lo ≤ q) := by
  refine Met.ofW (cc := b_Model_isNameFree) (maxL := 4) (ret := (Option.some Jvm.ClassFile.FieldType.boolean)) (by decide) rfl ?_
  intro p e s m args below meth c s₁ B hml hpre
  obtain ⟨hargs, hM, hK⟩ := hpre
  have hx := B.exec
  have hb := B.bytes
  have hr := B.returns
  have hts : ∀ w ∈ wA, w.before args s = true := fun w h => atoms_spec (ws := w_Model_isNameFree) B.pre w (List.mem_cons_of_mem _ h)
  have hown : s.vm.findClass R_Model = some m.cls := findClass_of_methodNamed B.named
  have hlocks := B.notSynchronized
  have hS : va_S (fun q => lo ≤ q) s.heap s.heap [] := va_S.rf
  have hT1 := hT.1
  have hTx := hT.2 x.toNat (by omega)
  have loop13 : ∀ (N : Nat) (k : Int), (n - k).toNat < N → (0 ≤ k ∧ k ≤ n) → (¬ mKind x S = 4) → (mZr S n 0 = mZr S n k) → ∀ (H : Heap) (locs : List Loc) (ls : Array Slot), mw D vwCl lo L κ H → va_S (fun q => lo ≤ q) s.heap H locs → lv_has ls 4 [(3, .int (iI k)), (0, .ref (L 40)), (1, .int (iI x)), (2, .int (iI n))] → W p l e (headSpec w_Model_isNameFree ({ frames := 2, cells := 0, slots := 0, locals := 50 })).room s m args below meth c H locs 0 0 (MQ below (mwQ D vwCl lo (mwR (some (.int (iI (bI (mFree x n S))))) L κ)) args s 0 0 (fun q => lo ≤ q)) (F0 m 13 ls []) := by
    intro N
    induction N with
    | zero => intro k hms; exact absurd hms (Nat.not_lt_zero _)
    | succ N ih =>
      intro k hms hk hk4 hres H locs ls hM hS hl
      refine lv_iload_n hx hb d_Model_isNameFree_13 rfl (lv_at hl 0 rfl) ?_
      refine lv_iload_n hx hb d_Model_isNameFree_14 rfl (lv_at hl 3 rfl) ?_
      refine ia_icmp_ge (a := k) (b := n) (tgt := 35) hx hb d_Model_isNameFree_15 (by decide) (by omega) (by omega) (fun c1 => ?_) (fun c1 => ?_)
      · refine lv_aload_n hx hb d_Model_isNameFree_35 rfl (lv_at hl 1 rfl) ?_
        refine mw_get (ci := 4) (i := 40) (v := .ref (L 41)) (C := R_Model) (T := T_Model) (N := 23) hx hb hts in_Model hown hK hM hV.1 rfl rfl 1 (by decide) (hts _ m_546) rfl d_Model_isNameFree_36 ?_
        refine lv_iconst (v := iI (0)) hx hb d_Model_isNameFree_39 rfl ?_
        refine lv_iload_n hx hb d_Model_isNameFree_40 rfl (lv_at hl 3 rfl) ?_
        refine mw_rdS (As := [.ref (L 41), .int (iI 0), .int (iI n)]) (rest := []) ⟨hx, hb, hml, hown, hts⟩ hK hM hS (c_Model_badText l D g lo L κ (S.a 0) 41 2000 (hV.2.1 0 (by decide)) (by decide) (hV.2.2.1 0) 0 n (by omega) (by omega)) (cwS 3 hts (gS m_655 m_656 m_58 m_657) rfl rfl rfl (by decide +kernel) ⟨Nat.le_of_ble_eq_true rfl, Nat.le_of_ble_eq_true rfl⟩) rfl hl.1 rfl (Nat.le_of_ble_eq_true rfl) d_Model_isNameFree_41 ⟨Nat.le_of_ble_eq_true rfl, Nat.le_of_ble_eq_true rfl⟩ (fun H locs hM hS => ?_)
        have r2 := mBad_r (S.a 0) 0 n
        refine ia_if_ge (a := mBad (S.a 0) 0 n) (tgt := 60) hx hb d_Model_isNameFree_44 (by decide) (by omega) (fun c3 => ?_) (fun c3 => ?_)
        · refine lv_iconst (v := iI (0)) hx hb d_Model_isNameFree_60 rfl ?_
          exact mw_zret (v := false) hx hb hr hM hS hlocks d_Model_isNameFree_61 (mwR_z (by unfold mFree; rw [if_neg hk4, if_neg (zne (by rw [hres, mZr_e (by omega)]))]; exact (decide_eq_false (by omega)).symm))
        · refine lv_aload_n hx hb d_Model_isNameFree_47 rfl (lv_at hl 1 rfl) ?_
          refine lv_iload_n hx hb d_Model_isNameFree_48 rfl (lv_at hl 2 rfl) ?_
          refine lv_iload_n hx hb d_Model_isNameFree_49 rfl (lv_at hl 3 rfl) ?_
          refine mw_rdV (i := 40) (As := [.int (iI x), .int (iI n)]) (rest := []) ⟨hx, hb, hml, hown, hts⟩ hK hM hS rfl hV.1 rfl (c_Model_findName l D g lo L κ S hV x n (by omega) (by omega) hT) (cwV 2 hts (gV m_750 m_752 m_36 m_58 m_753) rfl rfl rfl (by decide +kernel) ⟨Nat.le_of_ble_eq_true rfl, Nat.le_of_ble_eq_true rfl⟩) rfl hl.1 rfl (Nat.le_of_ble_eq_true rfl) d_Model_isNameFree_50 ⟨Nat.le_of_ble_eq_true rfl, Nat.le_of_ble_eq_true rfl⟩ (fun H locs hM hS => ?_)
          have r4 := mFd_r (S := S) (bx := x) (h := S.a 0) (q := 0) (n := n) (k := 1) (by omega)
          refine ia_if_ge (a := mFd S x (S.a 0) 0 n 1) (tgt := 60) hx hb d_Model_isNameFree_53 (by decide) (by omega) (fun c5 => ?_) (fun c5 => ?_)
          · refine lv_iconst (v := iI (0)) hx hb d_Model_isNameFree_60 rfl ?_
            exact mw_zret (v := false) hx hb hr hM hS hlocks d_Model_isNameFree_61 (mwR_z (by unfold mFree; rw [if_neg hk4, if_neg (zne (by rw [hres, mZr_e (by omega)]))]; exact (decide_eq_false (by omega)).symm))
          · refine lv_iconst (v := iI (1)) hx hb d_Model_isNameFree_56 rfl ?_
            refine lv_goto (tgt := 61) hx hb d_Model_isNameFree_57 (by decide) ?_
            exact mw_zret (v := true) hx hb hr hM hS hlocks d_Model_isNameFree_61 (mwR_z (by unfold mFree; rw [if_neg hk4, if_neg (zne (by rw [hres, mZr_e (by omega)]))]; exact (decide_eq_true (by omega)).symm))
      · refine lv_aload_n hx hb d_Model_isNameFree_18 rfl (lv_at hl 1 rfl) ?_
        refine mw_get (ci := 4) (i := 40) (v := .ref (L 41)) (C := R_Model) (T := T_Model) (N := 23) hx hb hts in_Model hown hK hM hV.1 rfl rfl 1 (by decide) (hts _ m_546) rfl d_Model_isNameFree_19 ?_
        refine lv_iload_n hx hb d_Model_isNameFree_22 rfl (lv_at hl 0 rfl) ?_
        refine mw_iald (n := 2000) (f := S.a 0) (a := k) (i := 41) hx hb hK hM 1 (hV.2.1 0 (by decide)) rfl rfl (by omega) (by decide) d_Model_isNameFree_23 ?_
        have r6 : 0 ≤ S.a 0 (k : Int).toNat ∧ S.a 0 (k : Int).toNat ≤ 255 := hV.2.2.1 0 _
        refine ia_if_ne (a := S.a 0 (k : Int).toNat) (tgt := 29) hx hb d_Model_isNameFree_24 (by decide) (by omega) (fun c7 => ?_) (fun c7 => ?_)
        · refine lv_iinc (v := iI (k + 1)) (lv' := [(3, .int (iI (k + 1))), (0, .ref (L 40)), (1, .int (iI x)), (2, .int (iI n))]) hx hb d_Model_isNameFree_29 hl (k := 0) rfl (iI_inc _ _) (by decide) rfl (fun ls hl => ?_)
          refine lv_goto (tgt := 13) hx hb d_Model_isNameFree_32 (by decide) ?_
          exact ih (k + 1) (by omega) (by omega) hk4 (by rw [hres, mZr_s (by omega), if_neg (by omega)]) _ _ ls hM hS (lv_sub hl [0, 1, 2, 3] rfl)
        · refine lv_iconst (v := iI (0)) hx hb d_Model_isNameFree_27 rfl ?_
          exact mw_zret (v := false) hx hb hr hM hS hlocks d_Model_isNameFree_28 (mwR_z (by unfold mFree; rw [if_neg hk4, if_pos (by rw [hres, mZr_s (by omega), if_pos (by omega)])]))
  obtain ⟨ls, hls, hl⟩ := mw_entry (m := m) [.ref (L 40), .int (iI x), .int (iI n)] (n := 4) (Nat.le_of_ble_eq_true rfl) hargs
  refine W.eq hls ?_
  have hl : lv_has ls 4 [(0, .ref (L 40)), (1, .int (iI x)), (2, .int (iI n))] := hl
  refine lv_aload_n hx hb d_Model_isNameFree_0 rfl (lv_at hl 0 rfl) ?_
  refine lv_iload_n hx hb d_Model_isNameFree_1 rfl (lv_at hl 1 rfl) ?_
  refine mw_rdV (i := 40) (As := [.int (iI x)]) (rest := []) ⟨hx, hb, hml, hown, hts⟩ hK hM hS rfl hV.1 rfl (c_Model_kindOf l D g lo L κ S hV x (by omega) hT) (cwV 1 hts (gV m_714 m_716 m_30 m_58 m_717) rfl rfl rfl (by decide +kernel) ⟨Nat.le_of_ble_eq_true rfl, Nat.le_of_ble_eq_true rfl⟩) rfl hl.1 rfl (Nat.le_of_ble_eq_true rfl) d_Model_isNameFree_2 ⟨Nat.le_of_ble_eq_true rfl, Nat.le_of_ble_eq_true rfl⟩ (fun H locs hM hS => ?_)
  have r8 := mKind_r hV x
  refine lv_iconst (v := iI (4)) hx hb d_Model_isNameFree_5 rfl ?_
  refine ia_icmp_ne (a := mKind x S) (b := 4) (tgt := 11) hx hb d_Model_isNameFree_6 (by decide) (by omega) (by omega) (fun c9 => ?_) (fun c9 => ?_)
  · refine lv_iconst (v := iI (0)) hx hb d_Model_isNameFree_11 rfl ?_
    refine lv_istore_n (lv' := [(3, .int (iI 0)), (0, .ref (L 40)), (1, .int (iI x)), (2, .int (iI n))]) hx hb d_Model_isNameFree_12 rfl hl (by decide) rfl (fun ls hl => ?_)
    exact loop13 _ 0 (Nat.lt_succ_self _) (by omega) (by omega) rfl _ _ ls hM hS (lv_sub hl [0, 1, 2, 3] rfl)
  · refine lv_iconst (v := iI (1)) hx hb d_Model_isNameFree_9 rfl ?_
    exact mw_zret (v := true) hx hb hr hM hS hlocks d_Model_isNameFree_10 (mwR_z (by unfold mFree; rw [if_pos (by omega)]))
set_option maxHeartbeats 4000000 in
set_option maxRecDepth 100000 in
theorem c_Model_deepIn (l : Launch) (D : va_G) (g : Nat → ClassId) (lo : Nat) (L : Nat → Nat) (κ : Nat → Option va_E) (S : MS) (hV : mds g L κ S) (x : Int) (hx0 : 0 ≤ x ∧ x < S.f 3) (hT : mTb S) : Met l y_Model_deepIn w_Model_deepIn ({ frames := 2, cells := 0, slots := 0, locals := 42 }) (mwP D vwCl (tyL g) lo L κ [.ref (L 40), .int (iI x)]) (mwQ D vwCl lo (mwR (some (.int (iI (mDp x S)))) L κ)) 0 0 (fun q => lo ≤ q) := by
  refine Met.ofW (cc := b_Model_deepIn) (maxL := 5) (ret := (Option.some Jvm.ClassFile.FieldType.int)) (by decide) rfl ?_
  intro p e s m args below meth c s₁ B hml hpre
  obtain ⟨hargs, hM, hK⟩ := hpre
  have hx := B.exec
  have hb := B.bytes
  have hr := B.returns
  have hts : ∀ w ∈ wA, w.before args s = true := fun w h => atoms_spec (ws := w_Model_deepIn) B.pre w (List.mem_cons_of_mem _ h)
  have hown : s.vm.findClass R_Model = some m.cls := findClass_of_methodNamed B.named
  have hlocks := B.notSynchronized
  have hS : va_S (fun q => lo ≤ q) s.heap s.heap [] := va_S.rf
  have hT1 := hT.1
  have hTx := hT.2 x.toNat (by omega)
  have h8 := hV.2.2.1 8 x.toNat
  have h8 : -1000000 ≤ S.a 8 x.toNat ∧ S.a 8 x.toNat ≤ 1000000 := h8
  have loop11 : ∀ (N : Nat) (k : Int) (bb : Int), (mLo x S + 1 - k).toNat < N → (x ≤ k ∧ k ≤ 1000 ∧ (x ≤ mLo x S ∧ mLo x S < S.f 3)) → (0 ≤ bb ∧ bb ≤ 3000000) → (mDp x S = mDpF S x (mLo x S) k bb) → ∀ (H : Heap) (locs : List Loc) (ls : Array Slot), mw D vwCl lo L κ H → va_S (fun q => lo ≤ q) s.heap H locs → lv_has ls 5 [(4, .int (iI k)), (3, .int (iI (mLo x S))), (2, .int (iI bb)), (0, .ref (L 40)), (1, .int (iI x))] → W p l e (headSpec w_Model_deepIn ({ frames := 2, cells := 0, slots := 0, locals := 42 })).room s m args below meth c H locs 0 0 (MQ below (mwQ D vwCl lo (mwR (some (.int (iI (mDp x S)))) L κ)) args s 0 0 (fun q => lo ≤ q)) (F0 m 11 ls []) := by
    intro N
    induction N with
    | zero => intro k bb hms; exact absurd hms (Nat.not_lt_zero _)
    | succ N ih =>
      intro k bb hms hk hbb hres H locs ls hM hS hl
      refine lv_iload hx hb d_Model_deepIn_11 (lv_at hl 0 rfl) ?_
      refine lv_iload_n hx hb d_Model_deepIn_13 rfl (lv_at hl 1 rfl) ?_
      refine ia_icmp_gt (a := k) (b := mLo x S) (tgt := 69) hx hb d_Model_deepIn_14 (by decide) (by omega) (by omega) (fun c1 => ?_) (fun c1 => ?_)
      · refine lv_iload_n hx hb d_Model_deepIn_69 rfl (lv_at hl 2 rfl) ?_
        exact mw_iret hx hb hr hM hS hlocks d_Model_deepIn_70 (mwR_i (by rw [hres, mDpF_e (by omega)]))
      · refine lv_aload_n hx hb d_Model_deepIn_17 rfl (lv_at hl 3 rfl) ?_
        refine lv_iload hx hb d_Model_deepIn_18 (lv_at hl 0 rfl) ?_
        refine mw_rdV (i := 40) (As := [.int (iI k)]) (rest := []) ⟨hx, hb, hml, hown, hts⟩ hK hM hS rfl hV.1 rfl (c_Model_isBox l D g lo L κ S hV k (by omega) hT) (cwV 1 hts (gV m_726 m_728 m_33 m_58 m_729) rfl rfl rfl (by decide +kernel) ⟨Nat.le_of_ble_eq_true rfl, Nat.le_of_ble_eq_true rfl⟩) rfl hl.1 rfl (Nat.le_of_ble_eq_true rfl) d_Model_deepIn_20 ⟨Nat.le_of_ble_eq_true rfl, Nat.le_of_ble_eq_true rfl⟩ (fun H locs hM hS => ?_)
        refine ia_ifz_eq (x := mBox k S) (tgt := 63) hx hb d_Model_deepIn_23 (by decide) (fun c2 => ?_) (fun c2 => ?_)
        · refine lv_iinc (v := iI (k + 1)) (lv' := [(4, .int (iI (k + 1))), (3, .int (iI (mLo x S))), (2, .int (iI bb)), (0, .ref (L 40)), (1, .int (iI x))]) hx hb d_Model_deepIn_63 hl (k := 0) rfl (iI_inc _ _) (by decide) rfl (fun ls hl => ?_)
          refine lv_goto (tgt := 11) hx hb d_Model_deepIn_66 (by decide) ?_
          exact ih (k + 1) (bb) (by omega) (by omega) (by omega) (by rw [hres, mDpF_s (by omega), if_neg (by rintro ⟨z, _⟩; exact absurd z (zne (by assumption)))]) _ _ ls hM hS (lv_sub hl [0, 1, 2, 3, 4] rfl)
        · refine lv_aload_n hx hb d_Model_deepIn_26 rfl (lv_at hl 3 rfl) ?_
          refine mw_get (ci := 4) (i := 40) (v := .ref (L 49)) (C := R_Model) (T := T_Model) (N := 23) hx hb hts in_Model hown hK hM hV.1 rfl rfl 13 (by decide) (hts _ m_558) rfl d_Model_deepIn_27 ?_
          refine lv_iload hx hb d_Model_deepIn_30 (lv_at hl 0 rfl) ?_
          refine mw_iald (n := 1000) (f := S.a 8) (a := k) (i := 49) hx hb hK hM 1 (hV.2.1 8 (by decide)) rfl rfl (by omega) (by decide) d_Model_deepIn_32 ?_
          have r3 : -1000000 ≤ S.a 8 (k : Int).toNat ∧ S.a 8 (k : Int).toNat ≤ 1000000 := hV.2.2.1 8 _
          refine lv_aload_n hx hb d_Model_deepIn_33 rfl (lv_at hl 3 rfl) ?_
          refine mw_get (ci := 4) (i := 40) (v := .ref (L 49)) (C := R_Model) (T := T_Model) (N := 23) hx hb hts in_Model hown hK hM hV.1 rfl rfl 13 (by decide) (hts _ m_558) rfl d_Model_deepIn_34 ?_
          refine lv_iload_n hx hb d_Model_deepIn_37 rfl (lv_at hl 4 rfl) ?_
          refine mw_iald (n := 1000) (f := S.a 8) (a := x) (i := 49) hx hb hK hM 1 (hV.2.1 8 (by decide)) rfl rfl (by omega) (by decide) d_Model_deepIn_38 ?_
          have r4 : -1000000 ≤ S.a 8 (x : Int).toNat ∧ S.a 8 (x : Int).toNat ≤ 1000000 := hV.2.2.1 8 _
          refine ia_sub hx hb d_Model_deepIn_39 ?_
          refine lv_iconst (v := iI (1)) hx hb d_Model_deepIn_40 rfl ?_
          refine ia_add hx hb d_Model_deepIn_41 ?_
          refine lv_iload_n hx hb d_Model_deepIn_42 rfl (lv_at hl 2 rfl) ?_
          refine ia_icmp_le (a := ((S.a 8 (k : Int).toNat) - (S.a 8 (x : Int).toNat)) + 1) (b := bb) (tgt := 63) hx hb d_Model_deepIn_43 (by decide) (by omega) (by omega) (fun c5 => ?_) (fun c5 => ?_)
          · refine lv_iinc (v := iI (k + 1)) (lv' := [(4, .int (iI (k + 1))), (3, .int (iI (mLo x S))), (2, .int (iI bb)), (0, .ref (L 40)), (1, .int (iI x))]) hx hb d_Model_deepIn_63 hl (k := 0) rfl (iI_inc _ _) (by decide) rfl (fun ls hl => ?_)
            refine lv_goto (tgt := 11) hx hb d_Model_deepIn_66 (by decide) ?_
            exact ih (k + 1) (bb) (by omega) (by omega) (by omega) (by rw [hres, mDpF_s (by omega), if_neg (by rintro ⟨_, z⟩; omega)]) _ _ ls hM hS (lv_sub hl [0, 1, 2, 3, 4] rfl)
          · refine lv_aload_n hx hb d_Model_deepIn_46 rfl (lv_at hl 3 rfl) ?_
            refine mw_get (ci := 4) (i := 40) (v := .ref (L 49)) (C := R_Model) (T := T_Model) (N := 23) hx hb hts in_Model hown hK hM hV.1 rfl rfl 13 (by decide) (hts _ m_558) rfl d_Model_deepIn_47 ?_
            refine lv_iload hx hb d_Model_deepIn_50 (lv_at hl 0 rfl) ?_
            refine mw_iald (n := 1000) (f := S.a 8) (a := k) (i := 49) hx hb hK hM 1 (hV.2.1 8 (by decide)) rfl rfl (by omega) (by decide) d_Model_deepIn_52 ?_
            have r6 : -1000000 ≤ S.a 8 (k : Int).toNat ∧ S.a 8 (k : Int).toNat ≤ 1000000 := hV.2.2.1 8 _
            refine lv_aload_n hx hb d_Model_deepIn_53 rfl (lv_at hl 3 rfl) ?_
            refine mw_get (ci := 4) (i := 40) (v := .ref (L 49)) (C := R_Model) (T := T_Model) (N := 23) hx hb hts in_Model hown hK hM hV.1 rfl rfl 13 (by decide) (hts _ m_558) rfl d_Model_deepIn_54 ?_
            refine lv_iload_n hx hb d_Model_deepIn_57 rfl (lv_at hl 4 rfl) ?_
            refine mw_iald (n := 1000) (f := S.a 8) (a := x) (i := 49) hx hb hK hM 1 (hV.2.1 8 (by decide)) rfl rfl (by omega) (by decide) d_Model_deepIn_58 ?_
            have r7 : -1000000 ≤ S.a 8 (x : Int).toNat ∧ S.a 8 (x : Int).toNat ≤ 1000000 := hV.2.2.1 8 _
            refine ia_sub hx hb d_Model_deepIn_59 ?_
            refine lv_iconst (v := iI (1)) hx hb d_Model_deepIn_60 rfl ?_
            refine ia_add hx hb d_Model_deepIn_61 ?_
            refine lv_istore_n (lv' := [(2, .int (iI (((S.a 8 (k : Int).toNat) - (S.a 8 (x : Int).toNat)) + 1))), (4, .int (iI k)), (3, .int (iI (mLo x S))), (0, .ref (L 40)), (1, .int (iI x))]) hx hb d_Model_deepIn_62 rfl hl (by decide) rfl (fun ls hl => ?_)
            refine lv_iinc (v := iI (k + 1)) (lv' := [(4, .int (iI (k + 1))), (2, .int (iI (((S.a 8 (k : Int).toNat) - (S.a 8 (x : Int).toNat)) + 1))), (3, .int (iI (mLo x S))), (0, .ref (L 40)), (1, .int (iI x))]) hx hb d_Model_deepIn_63 hl (k := 1) rfl (iI_inc _ _) (by decide) rfl (fun ls hl => ?_)
            refine lv_goto (tgt := 11) hx hb d_Model_deepIn_66 (by decide) ?_
            exact ih (k + 1) (((S.a 8 (k : Int).toNat) - (S.a 8 (x : Int).toNat)) + 1) (by omega) (by omega) (by omega) (by rw [hres, mDpF_s (by omega), if_pos ⟨by assumption, by omega⟩]) _ _ ls hM hS (lv_sub hl [0, 2, 1, 3, 4] rfl)
  obtain ⟨ls, hls, hl⟩ := mw_entry (m := m) [.ref (L 40), .int (iI x)] (n := 5) (Nat.le_of_ble_eq_true rfl) hargs
  refine W.eq hls ?_
  have hl : lv_has ls 5 [(0, .ref (L 40)), (1, .int (iI x))] := hl
  refine lv_iconst (v := iI (0)) hx hb d_Model_deepIn_0 rfl ?_
  refine lv_istore_n (lv' := [(2, .int (iI 0)), (0, .ref (L 40)), (1, .int (iI x))]) hx hb d_Model_deepIn_1 rfl hl (by decide) rfl (fun ls hl => ?_)
  refine lv_aload_n hx hb d_Model_deepIn_2 rfl (lv_at hl 1 rfl) ?_
  refine lv_iload_n hx hb d_Model_deepIn_3 rfl (lv_at hl 2 rfl) ?_
  refine mw_rdV (i := 40) (As := [.int (iI x)]) (rest := []) ⟨hx, hb, hml, hown, hts⟩ hK hM hS rfl hV.1 rfl (c_Model_lastOf l D g lo L κ S hV x (by omega) hT) (cwV 1 hts (gV m_785 m_787 m_43 m_58 m_788) rfl rfl rfl (by decide +kernel) ⟨Nat.le_of_ble_eq_true rfl, Nat.le_of_ble_eq_true rfl⟩) rfl hl.1 rfl (Nat.le_of_ble_eq_true rfl) d_Model_deepIn_4 ⟨Nat.le_of_ble_eq_true rfl, Nat.le_of_ble_eq_true rfl⟩ (fun H locs hM hS => ?_)
  have r8 := mLo_r (x := x) (S := S) (by omega)
  refine lv_istore_n (lv' := [(3, .int (iI (mLo x S))), (2, .int (iI 0)), (0, .ref (L 40)), (1, .int (iI x))]) hx hb d_Model_deepIn_7 rfl hl (by decide) rfl (fun ls hl => ?_)
  refine lv_iload_n hx hb d_Model_deepIn_8 rfl (lv_at hl 3 rfl) ?_
  refine lv_istore (lv' := [(4, .int (iI x)), (3, .int (iI (mLo x S))), (2, .int (iI 0)), (0, .ref (L 40)), (1, .int (iI x))]) hx hb d_Model_deepIn_9 hl (by decide) rfl (fun ls hl => ?_)
  exact loop11 _ x 0 (Nat.lt_succ_self _) (by omega) (by omega) rfl _ _ ls hM hS (lv_sub hl [0, 1, 2, 3, 4] rfl)
set_option maxHeartbeats 4000000 in
set_option maxRecDepth 100000 in
theorem c_Model_itemOf (l : Launch) (D : va_G) (g : Nat → ClassId) (lo : Nat) (L : Nat → Nat) (κ : Nat → Option va_E) (S : MS) (hV : mds g L κ S) (bx nu : Int) (hbx : -1000000 ≤ bx ∧ bx ≤ 1000000) (hnu : -1000000 ≤ nu ∧ nu ≤ 1000000) (hT : mTb S) : Met l y_Model_itemOf w_Model_itemOf ({ frames := 0, cells := 0, slots := 0, locals := 0 }) (mwP D vwCl (tyL g) lo L κ [.ref (L 40), .int (iI bx), .int (iI nu)]) (mwQ D vwCl lo (mwR (some (.int (iI (mItem bx nu S)))) L κ)) 0 0 (fun q => lo ≤ q) := by
  refine Met.ofW (cc := b_Model_itemOf) (maxL := 5) (ret := (Option.some Jvm.ClassFile.FieldType.int)) (by decide) rfl ?_
  intro p e s m args below meth c s₁ B hml hpre
  obtain ⟨hargs, hM, hK⟩ := hpre
  have hx := B.exec
  have hb := B.bytes
  have hr := B.returns
  have hts : ∀ w ∈ wA, w.before args s = true := fun w h => atoms_spec (ws := w_Model_itemOf) B.pre w (List.mem_cons_of_mem _ h)
  have hown : s.vm.findClass R_Model = some m.cls := findClass_of_methodNamed B.named
  have hlocks := B.notSynchronized
  have hS : va_S (fun q => lo ≤ q) s.heap s.heap [] := va_S.rf
  have hT1 := hT.1
  have loop5 : ∀ (N : Nat) (k : Int) (n : Int), (S.f 3 - k).toNat < N → (1 ≤ k ∧ k ≤ 2000 ∧ 0 ≤ n ∧ n ≤ k) → (mItem bx nu S = mItF S bx nu k n) → ∀ (H : Heap) (locs : List Loc) (ls : Array Slot), mw D vwCl lo L κ H → va_S (fun q => lo ≤ q) s.heap H locs → lv_has ls 5 [(4, .int (iI k)), (3, .int (iI n)), (0, .ref (L 40)), (1, .int (iI bx)), (2, .int (iI nu))] → W p l e (headSpec w_Model_itemOf ({ frames := 0, cells := 0, slots := 0, locals := 0 })).room s m args below meth c H locs 0 0 (MQ below (mwQ D vwCl lo (mwR (some (.int (iI (mItem bx nu S)))) L κ)) args s 0 0 (fun q => lo ≤ q)) (F0 m 5 ls []) := by
    intro N
    induction N with
    | zero => intro k n hms; exact absurd hms (Nat.not_lt_zero _)
    | succ N ih =>
      intro k n hms hk hres H locs ls hM hS hl
      refine lv_iload hx hb d_Model_itemOf_5 (lv_at hl 0 rfl) ?_
      refine lv_aload_n hx hb d_Model_itemOf_7 rfl (lv_at hl 2 rfl) ?_
      refine mw_get (ci := 4) (i := 40) (v := .int (iI (S.f 3))) (C := R_Model) (T := T_Model) (N := 23) hx hb hts in_Model hown hK hM hV.1 rfl rfl 8 (by decide) (hts _ m_553) rfl d_Model_itemOf_8 ?_
      have r1 : -1000000 ≤ S.f 3 ∧ S.f 3 ≤ 1000000 := hV.2.2.2 3
      refine ia_icmp_ge (a := k) (b := S.f 3) (tgt := 42) hx hb d_Model_itemOf_11 (by decide) (by omega) (by omega) (fun c2 => ?_) (fun c2 => ?_)
      · refine lv_iconst (v := iI (-1)) hx hb d_Model_itemOf_42 rfl ?_
        exact mw_iret hx hb hr hM hS hlocks d_Model_itemOf_43 (mwR_i (by rw [hres, mItF_e (by omega)]))
      · refine lv_aload_n hx hb d_Model_itemOf_14 rfl (lv_at hl 2 rfl) ?_
        refine mw_get (ci := 4) (i := 40) (v := .ref (L 45)) (C := R_Model) (T := T_Model) (N := 23) hx hb hts in_Model hown hK hM hV.1 rfl rfl 9 (by decide) (hts _ m_554) rfl d_Model_itemOf_15 ?_
        refine lv_iload hx hb d_Model_itemOf_18 (lv_at hl 0 rfl) ?_
        refine mw_iald (n := 1000) (f := S.a 4) (a := k) (i := 45) hx hb hK hM 1 (hV.2.1 4 (by decide)) rfl rfl (by omega) (by decide) d_Model_itemOf_20 ?_
        have r3 : -1000000 ≤ S.a 4 (k : Int).toNat ∧ S.a 4 (k : Int).toNat ≤ 1000000 := hV.2.2.1 4 _
        refine lv_iload_n hx hb d_Model_itemOf_21 rfl (lv_at hl 3 rfl) ?_
        refine ia_icmp_ne (a := S.a 4 (k : Int).toNat) (b := bx) (tgt := 36) hx hb d_Model_itemOf_22 (by decide) (by omega) (by omega) (fun c4 => ?_) (fun c4 => ?_)
        · refine lv_iinc (v := iI (k + 1)) (lv' := [(4, .int (iI (k + 1))), (3, .int (iI n)), (0, .ref (L 40)), (1, .int (iI bx)), (2, .int (iI nu))]) hx hb d_Model_itemOf_36 hl (k := 0) rfl (iI_inc _ _) (by decide) rfl (fun ls hl => ?_)
          refine lv_goto (tgt := 5) hx hb d_Model_itemOf_39 (by decide) ?_
          exact ih (k + 1) (n) (by omega) (by omega) (by rw [hres, mItF_s (by omega), if_neg (by omega)]) _ _ ls hM hS (lv_sub hl [0, 1, 2, 3, 4] rfl)
        · refine lv_iload_n hx hb d_Model_itemOf_25 rfl (lv_at hl 1 rfl) ?_
          refine lv_iload_n hx hb d_Model_itemOf_26 rfl (lv_at hl 4 rfl) ?_
          refine ia_icmp_ne (a := n) (b := nu) (tgt := 33) hx hb d_Model_itemOf_27 (by decide) (by omega) (by omega) (fun c5 => ?_) (fun c5 => ?_)
          · refine lv_iinc (v := iI (n + 1)) (lv' := [(3, .int (iI (n + 1))), (4, .int (iI k)), (0, .ref (L 40)), (1, .int (iI bx)), (2, .int (iI nu))]) hx hb d_Model_itemOf_33 hl (k := 1) rfl (iI_inc _ _) (by decide) rfl (fun ls hl => ?_)
            refine lv_iinc (v := iI (k + 1)) (lv' := [(4, .int (iI (k + 1))), (3, .int (iI (n + 1))), (0, .ref (L 40)), (1, .int (iI bx)), (2, .int (iI nu))]) hx hb d_Model_itemOf_36 hl (k := 1) rfl (iI_inc _ _) (by decide) rfl (fun ls hl => ?_)
            refine lv_goto (tgt := 5) hx hb d_Model_itemOf_39 (by decide) ?_
            exact ih (k + 1) (n + 1) (by omega) (by omega) (by rw [hres, mItF_s (by omega), if_pos (by omega), if_neg (by omega)]) _ _ ls hM hS (lv_sub hl [0, 1, 2, 3, 4] rfl)
          · refine lv_iload hx hb d_Model_itemOf_30 (lv_at hl 0 rfl) ?_
            exact mw_iret hx hb hr hM hS hlocks d_Model_itemOf_32 (mwR_i (by rw [hres, mItF_s (by omega), if_pos (by omega), if_pos (by omega)]))
  obtain ⟨ls, hls, hl⟩ := mw_entry (m := m) [.ref (L 40), .int (iI bx), .int (iI nu)] (n := 5) (Nat.le_of_ble_eq_true rfl) hargs
  refine W.eq hls ?_
  have hl : lv_has ls 5 [(0, .ref (L 40)), (1, .int (iI bx)), (2, .int (iI nu))] := hl
  refine lv_iconst (v := iI (0)) hx hb d_Model_itemOf_0 rfl ?_
  refine lv_istore_n (lv' := [(3, .int (iI 0)), (0, .ref (L 40)), (1, .int (iI bx)), (2, .int (iI nu))]) hx hb d_Model_itemOf_1 rfl hl (by decide) rfl (fun ls hl => ?_)
  refine lv_iconst (v := iI (1)) hx hb d_Model_itemOf_2 rfl ?_
  refine lv_istore (lv' := [(4, .int (iI 1)), (3, .int (iI 0)), (0, .ref (L 40)), (1, .int (iI bx)), (2, .int (iI nu))]) hx hb d_Model_itemOf_3 hl (by decide) rfl (fun ls hl => ?_)
  exact loop5 _ 1 0 (Nat.lt_succ_self _) (by omega) rfl _ _ ls hM hS (lv_sub hl [0, 1, 2, 3, 4] rfl)
set_option maxHeartbeats 4000000 in
set_option maxRecDepth 100000 in
theorem c_Model_splice (l : Launch) (D : va_G) (g : Nat → ClassId) (lo : Nat) (L : Nat → Nat) (κ : Nat → Option va_E) (S : MS) (hV : mds g L κ S) (a gone bx : Int) (ha : 0 ≤ a ∧ 0 ≤ gone ∧ a + gone ≤ S.f 2 ∧ S.f 2 ≤ 2000) (hp : 0 ≤ S.f 7 ∧ S.f 7 ≤ 2000) (hbx : 0 ≤ bx ∧ bx < S.f 3) (hT : mTb S) : Met l y_Model_splice w_Model_splice ({ frames := 1, cells := 0, slots := 0, locals := 25 }) (mwP D vwCl (tyL g) lo L κ [.ref (L 40), .int (iI a), .int (iI gone), .int (iI bx)]) (mwQ D vwCl lo (mdQ g L κ none (mSplice a gone bx S))) 0 0 (fun q => lo ≤ q) := by
  refine Met.ofW (cc := b_Model_splice) (maxL := 6) (ret := (Option.none : Option Jvm.ClassFile.FieldType)) (by decide) rfl ?_
  intro p e s m args below meth c s₁ B hml hpre
  obtain ⟨hargs, hM, hK⟩ := hpre
  have hx := B.exec
  have hb := B.bytes
  have hr := B.returns
  have hts : ∀ w ∈ wA, w.before args s = true := fun w h => atoms_spec (ws := w_Model_splice) B.pre w (List.mem_cons_of_mem _ h)
  have hown : s.vm.findClass R_Model = some m.cls := findClass_of_methodNamed B.named
  have hlocks := B.notSynchronized
  have hS : va_S (fun q => lo ≤ q) s.heap s.heap [] := va_S.rf
  have hT1 := hT.1
  have loop140 : ∀ (N : Nat) (q : Nat) (b : Int) (S1 : MS) (κ1 : Nat → Option va_E), q < N → (mds g L κ1 S1) → (∀ r, (r < 40 ∨ 54 < r) → κ1 r = κ r) → (-1 ≤ b ∧ b < q ∧ q ≤ 1000) → (mTb S1) → (b < S1.f 3) → (mSplice a gone bx S = mUpN (S.f 7 - gone) q b S1) → ∀ (H : Heap) (locs : List Loc) (ls : Array Slot), mw D vwCl lo L κ1 H → va_S (fun q => lo ≤ q) s.heap H locs → lv_has ls 6 [(5, .int (iI b)), (4, .int (iI (S.f 7 - gone))), (0, .ref (L 40)), (1, .int (iI a)), (2, .int (iI gone)), (3, .int (iI bx))] → W p l e (headSpec w_Model_splice ({ frames := 1, cells := 0, slots := 0, locals := 25 })).room s m args below meth c H locs 0 0 (MQ below (mwQ D vwCl lo (mdQ g L κ none (mSplice a gone bx S))) args s 0 0 (fun q => lo ≤ q)) (F0 m 140 ls []) := by
    intro N
    induction N with
    | zero => intro q b S1 κ1 hms; exact absurd hms (Nat.not_lt_zero _)
    | succ N ih =>
      intro q b S1 κ1 hms hV1 hf1 hb0 hTs hbn hres H locs ls hM hS hl
      have hT1s := hTs.1
      have hp7 := hV.2.2.2 7
      refine lv_iload hx hb d_Model_splice_140 (lv_at hl 0 rfl) ?_
      refine ia_if_lt (a := b) (tgt := 182) hx hb d_Model_splice_142 (by decide) (by omega) (fun c1 => ?_) (fun c1 => ?_)
      · exact mw_vret hx hb hr hM hS hlocks d_Model_splice_182 (by rw [show mSplice a gone bx S = S1 by first | (exfalso; omega) | (rw [hres, mUpN_e (by omega)])]; exact ⟨rfl, rfl, hV1, (fun r h => by rw [hf1 r (by omega)])⟩)
      · refine lv_aload_n hx hb d_Model_splice_145 rfl (lv_at hl 2 rfl) ?_
        refine lv_aload_n hx hb d_Model_splice_146 rfl (lv_at hl 2 rfl) ?_
        refine lv_iload hx hb d_Model_splice_147 (lv_at hl 0 rfl) ?_
        refine mw_rdV (i := 40) (As := [.int (iI b)]) (rest := [.ref (L 40)]) ⟨hx, hb, hml, hown, hts⟩ hK hM hS rfl hV1.1 rfl (c_Model_valueAt l D g lo L κ1 S1 hV1 b (by omega) hTs) (cwV 1 hts (gV m_722 m_724 m_32 m_58 m_725) rfl rfl rfl (by decide +kernel) ⟨Nat.le_of_ble_eq_true rfl, Nat.le_of_ble_eq_true rfl⟩) rfl hl.1 rfl (Nat.le_of_ble_eq_true rfl) d_Model_splice_149 ⟨Nat.le_of_ble_eq_true rfl, Nat.le_of_ble_eq_true rfl⟩ (fun H locs hM hS => ?_)
        have r2 := mVal_r hTs (x := b) (by omega)
        refine lv_aload_n hx hb d_Model_splice_152 rfl (lv_at hl 2 rfl) ?_
        refine lv_aload_n hx hb d_Model_splice_153 rfl (lv_at hl 2 rfl) ?_
        refine lv_iload hx hb d_Model_splice_154 (lv_at hl 0 rfl) ?_
        refine mw_rdV (i := 40) (As := [.int (iI b)]) (rest := [.ref (L 40), .int (iI (mVal b S1)), .ref (L 40)]) ⟨hx, hb, hml, hown, hts⟩ hK hM hS rfl hV1.1 rfl (c_Model_valueAt l D g lo L κ1 S1 hV1 b (by omega) hTs) (cwV 1 hts (gV m_722 m_724 m_32 m_58 m_725) rfl rfl rfl (by decide +kernel) ⟨Nat.le_of_ble_eq_true rfl, Nat.le_of_ble_eq_true rfl⟩) rfl hl.1 rfl (Nat.le_of_ble_eq_true rfl) d_Model_splice_156 ⟨Nat.le_of_ble_eq_true rfl, Nat.le_of_ble_eq_true rfl⟩ (fun H locs hM hS => ?_)
        have r3 := mVal_r hTs (x := b) (by omega)
        refine lv_iconst (v := iI (4)) hx hb d_Model_splice_159 rfl ?_
        refine mw_rdV (i := 40) (As := [.int (iI (mVal b S1)), .int (iI 4)]) (rest := [.int (iI (mVal b S1)), .ref (L 40)]) ⟨hx, hb, hml, hown, hts⟩ hK hM hS rfl hV1.1 rfl (c_Model_low l D g lo L κ1 S1 hV1 (mVal b S1) 4 (by omega) (by omega)) (cwV 2 hts (gV m_642 m_644 m_21 m_58 m_645) rfl rfl rfl (by decide +kernel) ⟨Nat.le_of_ble_eq_true rfl, Nat.le_of_ble_eq_true rfl⟩) rfl hl.1 rfl (Nat.le_of_ble_eq_true rfl) d_Model_splice_160 ⟨Nat.le_of_ble_eq_true rfl, Nat.le_of_ble_eq_true rfl⟩ (fun H locs hM hS => ?_)
        have r4 := (show 0 ≤ mLow (S1.a 3) (mVal b S1) 4 ∧ mLow (S1.a 3) (mVal b S1) 4 < 4294967296 from mLow4_r (hV1.2.2.1 3) (mVal b S1))
        refine lv_iload hx hb d_Model_splice_163 (lv_at hl 1 rfl) ?_
        refine ia_i2l hx hb (by omega) d_Model_splice_165 ?_
        refine ia_ladd hx hb d_Model_splice_166 ?_
        refine mw_callV (i := 40) (As := [.int (iI (mVal b S1)), .long (lI ((mLow (S1.a 3) (mVal b S1) 4) + (S.f 7 - gone)))]) (rest := []) ⟨hx, hb, hml, hown, hts⟩ hK hM hS rfl hV1.1 rfl (c_Model_putLow l D g lo L κ1 S1 hV1 (mVal b S1) ((mLow (S1.a 3) (mVal b S1) 4) + (S.f 7 - gone)) (by omega) (by omega)) (cwV 2 hts (gV m_793 m_795 m_45 m_58 m_796) rfl rfl rfl (by decide +kernel) ⟨Nat.le_of_ble_eq_true rfl, Nat.le_of_ble_eq_true rfl⟩) rfl hl.1 rfl (Nat.le_of_ble_eq_true rfl) d_Model_splice_167 ⟨Nat.le_of_ble_eq_true rfl, Nat.le_of_ble_eq_true rfl⟩ (fun v5 L5 κ5 H locs hp5 hM hS => ?_)
        obtain ⟨rfl, rfl, hV5, hk5⟩ := hp5
        have r6 := mPl_k (at_ := mVal b S1) (v := (mLow (S1.a 3) (mVal b S1) 4) + (S.f 7 - gone)) (S := S1)
        have hkt : ((mPl (mVal b S1) ((mLow (S1.a 3) (mVal b S1) 4) + (S.f 7 - gone)) S1).a 4 = S1.a 4 ∧ (mPl (mVal b S1) ((mLow (S1.a 3) (mVal b S1) 4) + (S.f 7 - gone)) S1).f 3 = S1.f 3) ∧ mKt S1 (mPl (mVal b S1) ((mLow (S1.a 3) (mVal b S1) 4) + (S.f 7 - gone)) S1) := ⟨⟨mPl_k.1 4 (by decide) (by decide) (by decide) (by decide), mPl_k.2 3 (by decide) (by decide) (by decide)⟩, mPl_k⟩
        refine lv_aload_n hx hb d_Model_splice_170 rfl (lv_at hl 2 rfl) ?_
        refine mw_get (ci := 4) (i := 40) (v := .ref (L 45)) (C := R_Model) (T := T_Model) (N := 23) hx hb hts in_Model hown hK hM hV5.1 rfl rfl 9 (by decide) (hts _ m_554) rfl d_Model_splice_171 ?_
        refine lv_iload hx hb d_Model_splice_174 (lv_at hl 0 rfl) ?_
        refine mw_iald (n := 1000) (f := (mPl (mVal b S1) ((mLow (S1.a 3) (mVal b S1) 4) + (S.f 7 - gone)) S1).a 4) (a := b) (i := 45) hx hb hK hM 1 (hV5.2.1 4 (by decide)) rfl rfl (by omega) (by decide) d_Model_splice_176 ?_
        have r7 : -1000000 ≤ (mPl (mVal b S1) ((mLow (S1.a 3) (mVal b S1) 4) + (S.f 7 - gone)) S1).a 4 (b : Int).toNat ∧ (mPl (mVal b S1) ((mLow (S1.a 3) (mVal b S1) 4) + (S.f 7 - gone)) S1).a 4 (b : Int).toNat ≤ 1000000 := hV5.2.2.1 4 _
        refine lv_istore (lv' := [(5, .int (iI ((mPl (mVal b S1) ((mLow (S1.a 3) (mVal b S1) 4) + (S.f 7 - gone)) S1).a 4 (b : Int).toNat))), (4, .int (iI (S.f 7 - gone))), (0, .ref (L 40)), (1, .int (iI a)), (2, .int (iI gone)), (3, .int (iI bx))]) hx hb d_Model_splice_177 hl (by decide) rfl (fun ls hl => ?_)
        refine lv_goto (tgt := 140) hx hb d_Model_splice_179 (by decide) ?_
        exact ih (q - 1) ((mPl (mVal b S1) ((mLow (S1.a 3) (mVal b S1) 4) + (S.f 7 - gone)) S1).a 4 (b : Int).toNat) (mPl (mVal b S1) ((mLow (S1.a 3) (mVal b S1) 4) + (S.f 7 - gone)) S1) κ5 (by omega) hV5 (fun r h => by rw [hk5 r (by omega), hf1 r (by omega)]) (by have z := congrFun hkt.1.1 b.toNat; have z2 := (hTs.2 b.toNat (by omega)).2.2.2.1; omega) (mTb_kt hTs hkt.2) (by have z := congrFun hkt.1.1 b.toNat; have z2 := (hTs.2 b.toNat (by omega)).2.2.2.1; rw [hkt.1.2]; omega) (by rw [hres, mUpN_s (by omega) (by omega)]) _ _ ls hM hS (lv_sub hl [0, 1, 2, 3, 4, 5] rfl)
  have loop106 : ∀ (N : Nat) (q : Nat) (k : Int) (S1 : MS) (κ1 : Nat → Option va_E), (S.f 7 - k).toNat < N → (mds g L κ1 S1) → (∀ r, (r < 40 ∨ 54 < r) → κ1 r = κ r) → (k = q ∧ k ≤ S.f 7) → (S1 = ((mMv a gone S).pf 2 (S.f 2 + (S.f 7 - gone))).cp 3 a.toNat 13 0 q) → ∀ (H : Heap) (locs : List Loc) (ls : Array Slot), mw D vwCl lo L κ1 H → va_S (fun q => lo ≤ q) s.heap H locs → lv_has ls 6 [(5, .int (iI k)), (4, .int (iI (S.f 7 - gone))), (0, .ref (L 40)), (1, .int (iI a)), (2, .int (iI gone)), (3, .int (iI bx))] → W p l e (headSpec w_Model_splice ({ frames := 1, cells := 0, slots := 0, locals := 25 })).room s m args below meth c H locs 0 0 (MQ below (mwQ D vwCl lo (mdQ g L κ none (mSplice a gone bx S))) args s 0 0 (fun q => lo ≤ q)) (F0 m 106 ls []) := by
    intro N
    induction N with
    | zero => intro q k S1 κ1 hms; exact absurd hms (Nat.not_lt_zero _)
    | succ N ih =>
      intro q k S1 κ1 hms hV1 hf1 hk hS1 H locs ls hM hS hl
      have hr1 : S1.f 7 = S.f 7 := congrFun (cp_f hS1) _
      refine lv_iload hx hb d_Model_splice_106 (lv_at hl 0 rfl) ?_
      refine lv_aload_n hx hb d_Model_splice_108 rfl (lv_at hl 2 rfl) ?_
      refine mw_get (ci := 4) (i := 40) (v := .int (iI (S1.f 7))) (C := R_Model) (T := T_Model) (N := 23) hx hb hts in_Model hown hK hM hV1.1 rfl rfl 22 (by decide) (hts _ m_567) rfl d_Model_splice_109 ?_
      have r8 : -1000000 ≤ S1.f 7 ∧ S1.f 7 ≤ 1000000 := hV1.2.2.2 7
      refine ia_icmp_ge (a := k) (b := S1.f 7) (tgt := 137) hx hb d_Model_splice_112 (by decide) (by omega) (by omega) (fun c9 => ?_) (fun c9 => ?_)
      · have hS2 : S1 = mSp1 a gone S := by rw [hS1, show q = (S.f 7).toNat by omega]; rfl
        subst hS2
        refine lv_iload_n hx hb d_Model_splice_137 rfl (lv_at hl 5 rfl) ?_
        refine lv_istore (lv' := [(5, .int (iI bx)), (4, .int (iI (S.f 7 - gone))), (0, .ref (L 40)), (1, .int (iI a)), (2, .int (iI gone)), (3, .int (iI bx))]) hx hb d_Model_splice_138 hl (by decide) rfl (fun ls hl => ?_)
        exact loop140 _ 1000 bx (mSp1 a gone S) κ1 (Nat.lt_succ_self _) hV1 (fun r h => by rw [hf1 r (by omega)]) (by omega) (mTb_kt hT mSp1_k) (by rw [show (mSp1 a gone S).f 3 = S.f 3 from rfl]; omega) rfl _ _ ls hM hS (lv_sub hl [0, 1, 2, 3, 4, 5] rfl)
      · refine lv_aload_n hx hb d_Model_splice_115 rfl (lv_at hl 2 rfl) ?_
        refine mw_get (ci := 4) (i := 40) (v := .ref (L 44)) (C := R_Model) (T := T_Model) (N := 23) hx hb hts in_Model hown hK hM hV1.1 rfl rfl 6 (by decide) (hts _ m_551) rfl d_Model_splice_116 ?_
        refine lv_iload_n hx hb d_Model_splice_119 rfl (lv_at hl 3 rfl) ?_
        refine lv_iload hx hb d_Model_splice_120 (lv_at hl 0 rfl) ?_
        refine ia_add hx hb d_Model_splice_122 ?_
        refine lv_aload_n hx hb d_Model_splice_123 rfl (lv_at hl 2 rfl) ?_
        refine mw_get (ci := 4) (i := 40) (v := .ref (L 54)) (C := R_Model) (T := T_Model) (N := 23) hx hb hts in_Model hown hK hM hV1.1 rfl rfl 21 (by decide) (hts _ m_566) rfl d_Model_splice_124 ?_
        refine lv_iload hx hb d_Model_splice_127 (lv_at hl 0 rfl) ?_
        refine mw_iald (n := 4200) (f := S1.a 13) (a := k) (i := 54) hx hb hK hM 1 (hV1.2.1 13 (by decide)) rfl rfl (by omega) (by decide) d_Model_splice_129 ?_
        have r10 : 0 ≤ S1.a 13 (k : Int).toNat ∧ S1.a 13 (k : Int).toNat ≤ 255 := hV1.2.2.1 13 _
        refine mw_iast (n := 4400) (f := S1.a 3) (a := a + k) (v := S1.a 13 (k : Int).toNat) (i := 44) hx hb hK hM hS 1 (hV1.2.1 3 (by decide)) rfl rfl (by omega) (by decide) d_Model_splice_130 (fun κ11 H locs e11 hk11 hM hS => ?_)
        have hV11 : mds g L κ11 (S1.st 3 ((a + k : Int).toNat) (S1.a 13 (k : Int).toNat)) := mds_st (k := 3) hV1 (by decide) e11 hk11 (show (0 : Int) ≤ S1.a 13 (k : Int).toNat ∧ S1.a 13 (k : Int).toNat ≤ 255 by first | omega | (split <;> omega))
        refine lv_iinc (v := iI (k + 1)) (lv' := [(5, .int (iI (k + 1))), (4, .int (iI (S.f 7 - gone))), (0, .ref (L 40)), (1, .int (iI a)), (2, .int (iI gone)), (3, .int (iI bx))]) hx hb d_Model_splice_131 hl (k := 0) rfl (iI_inc _ _) (by decide) rfl (fun ls hl => ?_)
        refine lv_goto (tgt := 106) hx hb d_Model_splice_134 (by decide) ?_
        exact ih (q + 1) (k + 1) (S1.st 3 ((a + k : Int).toNat) (S1.a 13 (k : Int).toNat)) κ11 (by omega) hV11 (fun r h => by rw [hk11 r (by omega), hf1 r (by omega)]) (by omega) (cp_stp hS1 (by omega) (by omega) (by omega)) _ _ ls hM hS (lv_sub hl [0, 1, 2, 3, 4, 5] rfl)
  have loop60 : ∀ (N : Nat) (q : Nat) (k : Int) (S1 : MS) (κ1 : Nat → Option va_E), (S.f 2 - k).toNat < N → (mds g L κ1 S1) → (∀ r, (r < 40 ∨ 54 < r) → κ1 r = κ r) → (k = a + gone + q ∧ k ≤ S.f 2 ∧ S.f 7 - gone ≤ 0) → (S1 = S.cp 3 (a + gone + (S.f 7 - gone)).toNat 3 (a + gone).toNat q) → ∀ (H : Heap) (locs : List Loc) (ls : Array Slot), mw D vwCl lo L κ1 H → va_S (fun q => lo ≤ q) s.heap H locs → lv_has ls 6 [(5, .int (iI k)), (4, .int (iI (S.f 7 - gone))), (0, .ref (L 40)), (1, .int (iI a)), (2, .int (iI gone)), (3, .int (iI bx))] → W p l e (headSpec w_Model_splice ({ frames := 1, cells := 0, slots := 0, locals := 25 })).room s m args below meth c H locs 0 0 (MQ below (mwQ D vwCl lo (mdQ g L κ none (mSplice a gone bx S))) args s 0 0 (fun q => lo ≤ q)) (F0 m 60 ls []) := by
    intro N
    induction N with
    | zero => intro q k S1 κ1 hms; exact absurd hms (Nat.not_lt_zero _)
    | succ N ih =>
      intro q k S1 κ1 hms hV1 hf1 hk hS1 H locs ls hM hS hl
      have hr1 : S1.f 2 = S.f 2 := congrFun (cp_f hS1) _
      have hp7 := hV.2.2.2 7
      refine lv_iload hx hb d_Model_splice_60 (lv_at hl 0 rfl) ?_
      refine lv_aload_n hx hb d_Model_splice_62 rfl (lv_at hl 2 rfl) ?_
      refine mw_get (ci := 4) (i := 40) (v := .int (iI (S1.f 2))) (C := R_Model) (T := T_Model) (N := 23) hx hb hts in_Model hown hK hM hV1.1 rfl rfl 7 (by decide) (hts _ m_552) rfl d_Model_splice_63 ?_
      have r12 : -1000000 ≤ S1.f 2 ∧ S1.f 2 ≤ 1000000 := hV1.2.2.2 2
      refine ia_icmp_ge (a := k) (b := S1.f 2) (tgt := 92) hx hb d_Model_splice_66 (by decide) (by omega) (by omega) (fun c13 => ?_) (fun c13 => ?_)
      · have hS2 : S1 = mMv a gone S := by rw [hS1]; unfold mMv; congr 1 <;> omega
        subst hS2
        refine lv_aload_n hx hb d_Model_splice_92 rfl (lv_at hl 2 rfl) ?_
        refine lv_dup hx hb d_Model_splice_93 rfl ?_
        refine mw_get (ci := 4) (i := 40) (v := .int (iI (S.f 2))) (C := R_Model) (T := T_Model) (N := 23) hx hb hts in_Model hown hK hM hV1.1 rfl rfl 7 (by decide) (hts _ m_552) rfl d_Model_splice_94 ?_
        have r14 : -1000000 ≤ S.f 2 ∧ S.f 2 ≤ 1000000 := hV1.2.2.2 2
        refine lv_iload hx hb d_Model_splice_97 (lv_at hl 1 rfl) ?_
        refine ia_add hx hb d_Model_splice_99 ?_
        refine mw_put (ci := 4) (i := 40) (v := .int (iI ((S.f 2) + (S.f 7 - gone)))) (C := R_Model) (T := T_Model) (N := 23) hx hb hts in_Model ty_Model ty_Model_ok nm_Model hown hK hM hS hV1.1 rfl rfl 7 (by decide) (hts _ m_552) rfl (ty_Model_ok 7 (by decide)) rfl rfl (Nat.le_of_ble_eq_true rfl) d_Model_splice_100 (fun κ15 H locs e15 hk15 hM hS => ?_)
        have e15 : κ15 40 = some (.inr (4, [.int (iI (S.f 8)), .ref (L 41), .int (iI (S.f 0)), .int (iI (S.f 1)), .ref (L 42), .ref (L 43), .ref (L 44), .int (iI ((S.f 2) + (S.f 7 - gone))), .int (iI (S.f 3)), .ref (L 45), .ref (L 46), .ref (L 47), .ref (L 48), .ref (L 49), .int (iI (S.f 4)), .int (iI (S.f 5)), .int (iI (S.f 6)), .ref (L 50), .ref (L 51), .ref (L 52), .ref (L 53), .ref (L 54), .int (iI (S.f 7))])) := e15
        have hV15 : mds g L κ15 ((mMv a gone S).pf 2 ((S.f 2) + (S.f 7 - gone))) := mds_pf hV1 e15 hk15 (by first | omega | (split <;> omega))
        refine lv_iconst (v := iI (0)) hx hb d_Model_splice_103 rfl ?_
        refine lv_istore (lv' := [(5, .int (iI 0)), (4, .int (iI (S.f 7 - gone))), (0, .ref (L 40)), (1, .int (iI a)), (2, .int (iI gone)), (3, .int (iI bx))]) hx hb d_Model_splice_104 hl (by decide) rfl (fun ls hl => ?_)
        exact loop106 _ 0 0 ((mMv a gone S).pf 2 ((S.f 2) + (S.f 7 - gone))) κ15 (Nat.lt_succ_self _) hV15 (fun r h => by rw [hk15 r (by omega), hf1 r (by omega)]) (by omega) cp_0.symm _ _ ls hM hS (lv_sub hl [0, 1, 2, 3, 4, 5] rfl)
      · refine lv_aload_n hx hb d_Model_splice_69 rfl (lv_at hl 2 rfl) ?_
        refine mw_get (ci := 4) (i := 40) (v := .ref (L 44)) (C := R_Model) (T := T_Model) (N := 23) hx hb hts in_Model hown hK hM hV1.1 rfl rfl 6 (by decide) (hts _ m_551) rfl d_Model_splice_70 ?_
        refine lv_iload hx hb d_Model_splice_73 (lv_at hl 0 rfl) ?_
        refine lv_iload hx hb d_Model_splice_75 (lv_at hl 1 rfl) ?_
        refine ia_add hx hb d_Model_splice_77 ?_
        refine lv_aload_n hx hb d_Model_splice_78 rfl (lv_at hl 2 rfl) ?_
        refine mw_get (ci := 4) (i := 40) (v := .ref (L 44)) (C := R_Model) (T := T_Model) (N := 23) hx hb hts in_Model hown hK hM hV1.1 rfl rfl 6 (by decide) (hts _ m_551) rfl d_Model_splice_79 ?_
        refine lv_iload hx hb d_Model_splice_82 (lv_at hl 0 rfl) ?_
        refine mw_iald (n := 4400) (f := S1.a 3) (a := k) (i := 44) hx hb hK hM 1 (hV1.2.1 3 (by decide)) rfl rfl (by omega) (by decide) d_Model_splice_84 ?_
        have r16 : 0 ≤ S1.a 3 (k : Int).toNat ∧ S1.a 3 (k : Int).toNat ≤ 255 := hV1.2.2.1 3 _
        refine mw_iast (n := 4400) (f := S1.a 3) (a := k + (S.f 7 - gone)) (v := S1.a 3 (k : Int).toNat) (i := 44) hx hb hK hM hS 1 (hV1.2.1 3 (by decide)) rfl rfl (by omega) (by decide) d_Model_splice_85 (fun κ17 H locs e17 hk17 hM hS => ?_)
        have hV17 : mds g L κ17 (S1.st 3 ((k + (S.f 7 - gone) : Int).toNat) (S1.a 3 (k : Int).toNat)) := mds_st (k := 3) hV1 (by decide) e17 hk17 (show (0 : Int) ≤ S1.a 3 (k : Int).toNat ∧ S1.a 3 (k : Int).toNat ≤ 255 by first | omega | (split <;> omega))
        refine lv_iinc (v := iI (k + 1)) (lv' := [(5, .int (iI (k + 1))), (4, .int (iI (S.f 7 - gone))), (0, .ref (L 40)), (1, .int (iI a)), (2, .int (iI gone)), (3, .int (iI bx))]) hx hb d_Model_splice_86 hl (k := 0) rfl (iI_inc _ _) (by decide) rfl (fun ls hl => ?_)
        refine lv_goto (tgt := 60) hx hb d_Model_splice_89 (by decide) ?_
        exact ih (q + 1) (k + 1) (S1.st 3 ((k + (S.f 7 - gone) : Int).toNat) (S1.a 3 (k : Int).toNat)) κ17 (by omega) hV17 (fun r h => by rw [hk17 r (by omega), hf1 r (by omega)]) (by omega) (cp_stp hS1 (by omega) (by omega) (by omega)) _ _ ls hM hS (lv_sub hl [0, 1, 2, 3, 4, 5] rfl)
  have loop21 : ∀ (N : Nat) (q : Nat) (k : Int) (S1 : MS) (κ1 : Nat → Option va_E), (k + 1).toNat < N → (mds g L κ1 S1) → (∀ r, (r < 40 ∨ 54 < r) → κ1 r = κ r) → (k + 1 + q = S.f 2 ∧ a + gone ≤ k + 1 ∧ 0 < S.f 7 - gone) → (S1 = S.cp 3 ((k + (S.f 7 - gone)).toNat + 1) 3 (k + 1).toNat q) → ∀ (H : Heap) (locs : List Loc) (ls : Array Slot), mw D vwCl lo L κ1 H → va_S (fun q => lo ≤ q) s.heap H locs → lv_has ls 6 [(5, .int (iI k)), (4, .int (iI (S.f 7 - gone))), (0, .ref (L 40)), (1, .int (iI a)), (2, .int (iI gone)), (3, .int (iI bx))] → W p l e (headSpec w_Model_splice ({ frames := 1, cells := 0, slots := 0, locals := 25 })).room s m args below meth c H locs 0 0 (MQ below (mwQ D vwCl lo (mdQ g L κ none (mSplice a gone bx S))) args s 0 0 (fun q => lo ≤ q)) (F0 m 21 ls []) := by
    intro N
    induction N with
    | zero => intro q k S1 κ1 hms; exact absurd hms (Nat.not_lt_zero _)
    | succ N ih =>
      intro q k S1 κ1 hms hV1 hf1 hk hS1 H locs ls hM hS hl
      have hr1 : S1.f 2 = S.f 2 := congrFun (cp_f hS1) _
      have hp7 := hV.2.2.2 7
      refine lv_iload hx hb d_Model_splice_21 (lv_at hl 0 rfl) ?_
      refine lv_iload_n hx hb d_Model_splice_23 rfl (lv_at hl 3 rfl) ?_
      refine lv_iload_n hx hb d_Model_splice_24 rfl (lv_at hl 4 rfl) ?_
      refine ia_add hx hb d_Model_splice_25 ?_
      refine ia_icmp_lt (a := k) (b := a + gone) (tgt := 52) hx hb d_Model_splice_26 (by decide) (by omega) (by omega) (fun c18 => ?_) (fun c18 => ?_)
      · refine lv_goto (tgt := 92) hx hb d_Model_splice_52 (by decide) ?_
        have hS2 : S1 = mMv a gone S := by rw [hS1]; unfold mMv; congr 1 <;> omega
        subst hS2
        refine lv_aload_n hx hb d_Model_splice_92 rfl (lv_at hl 2 rfl) ?_
        refine lv_dup hx hb d_Model_splice_93 rfl ?_
        refine mw_get (ci := 4) (i := 40) (v := .int (iI (S.f 2))) (C := R_Model) (T := T_Model) (N := 23) hx hb hts in_Model hown hK hM hV1.1 rfl rfl 7 (by decide) (hts _ m_552) rfl d_Model_splice_94 ?_
        have r19 : -1000000 ≤ S.f 2 ∧ S.f 2 ≤ 1000000 := hV1.2.2.2 2
        refine lv_iload hx hb d_Model_splice_97 (lv_at hl 1 rfl) ?_
        refine ia_add hx hb d_Model_splice_99 ?_
        refine mw_put (ci := 4) (i := 40) (v := .int (iI ((S.f 2) + (S.f 7 - gone)))) (C := R_Model) (T := T_Model) (N := 23) hx hb hts in_Model ty_Model ty_Model_ok nm_Model hown hK hM hS hV1.1 rfl rfl 7 (by decide) (hts _ m_552) rfl (ty_Model_ok 7 (by decide)) rfl rfl (Nat.le_of_ble_eq_true rfl) d_Model_splice_100 (fun κ20 H locs e20 hk20 hM hS => ?_)
        have e20 : κ20 40 = some (.inr (4, [.int (iI (S.f 8)), .ref (L 41), .int (iI (S.f 0)), .int (iI (S.f 1)), .ref (L 42), .ref (L 43), .ref (L 44), .int (iI ((S.f 2) + (S.f 7 - gone))), .int (iI (S.f 3)), .ref (L 45), .ref (L 46), .ref (L 47), .ref (L 48), .ref (L 49), .int (iI (S.f 4)), .int (iI (S.f 5)), .int (iI (S.f 6)), .ref (L 50), .ref (L 51), .ref (L 52), .ref (L 53), .ref (L 54), .int (iI (S.f 7))])) := e20
        have hV20 : mds g L κ20 ((mMv a gone S).pf 2 ((S.f 2) + (S.f 7 - gone))) := mds_pf hV1 e20 hk20 (by first | omega | (split <;> omega))
        refine lv_iconst (v := iI (0)) hx hb d_Model_splice_103 rfl ?_
        refine lv_istore (lv' := [(5, .int (iI 0)), (4, .int (iI (S.f 7 - gone))), (0, .ref (L 40)), (1, .int (iI a)), (2, .int (iI gone)), (3, .int (iI bx))]) hx hb d_Model_splice_104 hl (by decide) rfl (fun ls hl => ?_)
        exact loop106 _ 0 0 ((mMv a gone S).pf 2 ((S.f 2) + (S.f 7 - gone))) κ20 (Nat.lt_succ_self _) hV20 (fun r h => by rw [hk20 r (by omega), hf1 r (by omega)]) (by omega) cp_0.symm _ _ ls hM hS (lv_sub hl [0, 1, 2, 3, 4, 5] rfl)
      · refine lv_aload_n hx hb d_Model_splice_29 rfl (lv_at hl 2 rfl) ?_
        refine mw_get (ci := 4) (i := 40) (v := .ref (L 44)) (C := R_Model) (T := T_Model) (N := 23) hx hb hts in_Model hown hK hM hV1.1 rfl rfl 6 (by decide) (hts _ m_551) rfl d_Model_splice_30 ?_
        refine lv_iload hx hb d_Model_splice_33 (lv_at hl 0 rfl) ?_
        refine lv_iload hx hb d_Model_splice_35 (lv_at hl 1 rfl) ?_
        refine ia_add hx hb d_Model_splice_37 ?_
        refine lv_aload_n hx hb d_Model_splice_38 rfl (lv_at hl 2 rfl) ?_
        refine mw_get (ci := 4) (i := 40) (v := .ref (L 44)) (C := R_Model) (T := T_Model) (N := 23) hx hb hts in_Model hown hK hM hV1.1 rfl rfl 6 (by decide) (hts _ m_551) rfl d_Model_splice_39 ?_
        refine lv_iload hx hb d_Model_splice_42 (lv_at hl 0 rfl) ?_
        refine mw_iald (n := 4400) (f := S1.a 3) (a := k) (i := 44) hx hb hK hM 1 (hV1.2.1 3 (by decide)) rfl rfl (by omega) (by decide) d_Model_splice_44 ?_
        have r21 : 0 ≤ S1.a 3 (k : Int).toNat ∧ S1.a 3 (k : Int).toNat ≤ 255 := hV1.2.2.1 3 _
        refine mw_iast (n := 4400) (f := S1.a 3) (a := k + (S.f 7 - gone)) (v := S1.a 3 (k : Int).toNat) (i := 44) hx hb hK hM hS 1 (hV1.2.1 3 (by decide)) rfl rfl (by omega) (by decide) d_Model_splice_45 (fun κ22 H locs e22 hk22 hM hS => ?_)
        have hV22 : mds g L κ22 (S1.st 3 ((k + (S.f 7 - gone) : Int).toNat) (S1.a 3 (k : Int).toNat)) := mds_st (k := 3) hV1 (by decide) e22 hk22 (show (0 : Int) ≤ S1.a 3 (k : Int).toNat ∧ S1.a 3 (k : Int).toNat ≤ 255 by first | omega | (split <;> omega))
        refine lv_iinc (v := iI (k + (-1))) (lv' := [(5, .int (iI (k + (-1)))), (4, .int (iI (S.f 7 - gone))), (0, .ref (L 40)), (1, .int (iI a)), (2, .int (iI gone)), (3, .int (iI bx))]) hx hb d_Model_splice_46 hl (k := 0) rfl (iI_inc _ _) (by decide) rfl (fun ls hl => ?_)
        refine lv_goto (tgt := 21) hx hb d_Model_splice_49 (by decide) ?_
        exact ih (q + 1) (k + (-1)) (S1.st 3 ((k + (S.f 7 - gone) : Int).toNat) (S1.a 3 (k : Int).toNat)) κ22 (by omega) hV22 (fun r h => by rw [hk22 r (by omega), hf1 r (by omega)]) (by omega) (by rw [show (k + (-1) + (S.f 7 - gone)).toNat + 1 = (k + (S.f 7 - gone)).toNat by omega, show (k + (-1) + 1).toNat = k.toNat by omega]; exact cp_stpd (by rw [hS1, show (k + 1).toNat = k.toNat + 1 by omega]) (by omega) (by omega) (by omega)) _ _ ls hM hS (lv_sub hl [0, 1, 2, 3, 4, 5] rfl)
  obtain ⟨ls, hls, hl⟩ := mw_entry (m := m) [.ref (L 40), .int (iI a), .int (iI gone), .int (iI bx)] (n := 6) (Nat.le_of_ble_eq_true rfl) hargs
  refine W.eq hls ?_
  have hl : lv_has ls 6 [(0, .ref (L 40)), (1, .int (iI a)), (2, .int (iI gone)), (3, .int (iI bx))] := hl
  refine lv_aload_n hx hb d_Model_splice_0 rfl (lv_at hl 0 rfl) ?_
  refine mw_get (ci := 4) (i := 40) (v := .int (iI (S.f 7))) (C := R_Model) (T := T_Model) (N := 23) hx hb hts in_Model hown hK hM hV.1 rfl rfl 22 (by decide) (hts _ m_567) rfl d_Model_splice_1 ?_
  have r23 : -1000000 ≤ S.f 7 ∧ S.f 7 ≤ 1000000 := hV.2.2.2 7
  refine lv_iload_n hx hb d_Model_splice_4 rfl (lv_at hl 2 rfl) ?_
  refine ia_sub hx hb d_Model_splice_5 ?_
  refine lv_istore (lv' := [(4, .int (iI ((S.f 7) - gone))), (0, .ref (L 40)), (1, .int (iI a)), (2, .int (iI gone)), (3, .int (iI bx))]) hx hb d_Model_splice_6 hl (by decide) rfl (fun ls hl => ?_)
  refine lv_iload hx hb d_Model_splice_8 (lv_at hl 0 rfl) ?_
  refine ia_if_le (a := (S.f 7) - gone) (tgt := 55) hx hb d_Model_splice_10 (by decide) (by omega) (fun c24 => ?_) (fun c24 => ?_)
  · refine lv_iload_n hx hb d_Model_splice_55 rfl (lv_at hl 2 rfl) ?_
    refine lv_iload_n hx hb d_Model_splice_56 rfl (lv_at hl 3 rfl) ?_
    refine ia_add hx hb d_Model_splice_57 ?_
    refine lv_istore (lv' := [(5, .int (iI (a + gone))), (4, .int (iI ((S.f 7) - gone))), (0, .ref (L 40)), (1, .int (iI a)), (2, .int (iI gone)), (3, .int (iI bx))]) hx hb d_Model_splice_58 hl (by decide) rfl (fun ls hl => ?_)
    exact loop60 _ 0 (a + gone) S κ (Nat.lt_succ_self _) hV (fun r h => rfl) (by omega) cp_0.symm _ _ ls hM hS (lv_sub hl [0, 1, 2, 3, 4, 5] rfl)
  · refine lv_aload_n hx hb d_Model_splice_13 rfl (lv_at hl 1 rfl) ?_
    refine mw_get (ci := 4) (i := 40) (v := .int (iI (S.f 2))) (C := R_Model) (T := T_Model) (N := 23) hx hb hts in_Model hown hK hM hV.1 rfl rfl 7 (by decide) (hts _ m_552) rfl d_Model_splice_14 ?_
    have r25 : -1000000 ≤ S.f 2 ∧ S.f 2 ≤ 1000000 := hV.2.2.2 2
    refine lv_iconst (v := iI (1)) hx hb d_Model_splice_17 rfl ?_
    refine ia_sub hx hb d_Model_splice_18 ?_
    refine lv_istore (lv' := [(5, .int (iI ((S.f 2) - 1))), (4, .int (iI ((S.f 7) - gone))), (0, .ref (L 40)), (1, .int (iI a)), (2, .int (iI gone)), (3, .int (iI bx))]) hx hb d_Model_splice_19 hl (by decide) rfl (fun ls hl => ?_)
    exact loop21 _ 0 (S.f 2 - 1) S κ (Nat.lt_succ_self _) hV (fun r h => rfl) (by omega) cp_0.symm _ _ ls hM hS (lv_sub hl [0, 1, 2, 3, 4, 5] rfl)
set_option maxHeartbeats 4000000 in
set_option maxRecDepth 100000 in
theorem c_Model_insert (l : Launch) (D : va_G) (g : Nat → ClassId) (lo : Nat) (L : Nat → Nat) (κ : Nat → Option va_E) (S : MS) (hV : mds g L κ S) (u x : Int) (hu : 0 ≤ u ∧ u < 8) (hx0 : 0 ≤ x ∧ x < S.f 3) (hT : mTb S) (hE : mEn S) (hp : 0 ≤ S.f 7 ∧ S.f 7 ≤ 4200) : Met l y_Model_insert w_Model_insert ({ frames := 2, cells := 0, slots := 0, locals := 50 }) (mwP D vwCl (tyL g) lo L κ [.ref (L 40), .int (iI u), .int (iI x)]) (mwQ D vwCl lo (mdQ g L κ (some (.int (iI (mIns u x S).1))) (mIns u x S).2)) 0 0 (fun q => lo ≤ q) := by
  refine Met.ofW (cc := b_Model_insert) (maxL := 4) (ret := (Option.some Jvm.ClassFile.FieldType.int)) (by decide) rfl ?_
  intro p e s m args below meth c s₁ B hml hpre
  obtain ⟨hargs, hM, hK⟩ := hpre
  have hx := B.exec
  have hb := B.bytes
  have hr := B.returns
  have hts : ∀ w ∈ wA, w.before args s = true := fun w h => atoms_spec (ws := w_Model_insert) B.pre w (List.mem_cons_of_mem _ h)
  have hown : s.vm.findClass R_Model = some m.cls := findClass_of_methodNamed B.named
  have hlocks := B.notSynchronized
  have hS : va_S (fun q => lo ≤ q) s.heap s.heap [] := va_S.rf
  have hT1 := hT.1
  have hTx := hT.2 x.toNat (by omega)
  have hE1 := hE.1
  have hEx := hE.2 x.toNat (by omega)
  obtain ⟨ls, hls, hl⟩ := mw_entry (m := m) [.ref (L 40), .int (iI u), .int (iI x)] (n := 4) (Nat.le_of_ble_eq_true rfl) hargs
  refine W.eq hls ?_
  have hl : lv_has ls 4 [(0, .ref (L 40)), (1, .int (iI u)), (2, .int (iI x))] := hl
  refine lv_aload_n hx hb d_Model_insert_0 rfl (lv_at hl 0 rfl) ?_
  refine lv_iconst (v := iI (0)) hx hb d_Model_insert_1 rfl ?_
  refine mw_put (ci := 4) (i := 40) (v := .int (iI 0)) (C := R_Model) (T := T_Model) (N := 23) hx hb hts in_Model ty_Model ty_Model_ok nm_Model hown hK hM hS hV.1 rfl rfl 2 (by decide) (hts _ m_547) rfl (ty_Model_ok 2 (by decide)) rfl rfl (Nat.le_of_ble_eq_true rfl) d_Model_insert_2 (fun κ1 H locs e1 hk1 hM hS => ?_)
  have e1 : κ1 40 = some (.inr (4, [.int (iI (S.f 8)), .ref (L 41), .int (iI 0), .int (iI (S.f 1)), .ref (L 42), .ref (L 43), .ref (L 44), .int (iI (S.f 2)), .int (iI (S.f 3)), .ref (L 45), .ref (L 46), .ref (L 47), .ref (L 48), .ref (L 49), .int (iI (S.f 4)), .int (iI (S.f 5)), .int (iI (S.f 6)), .ref (L 50), .ref (L 51), .ref (L 52), .ref (L 53), .ref (L 54), .int (iI (S.f 7))])) := e1
  have hV1 : mds g L κ1 (S.pf 0 0) := mds_pf hV e1 hk1 (by first | omega | (split <;> omega))
  refine lv_aload_n hx hb d_Model_insert_5 rfl (lv_at hl 0 rfl) ?_
  refine mw_get (ci := 4) (i := 40) (v := .int (iI (S.f 2))) (C := R_Model) (T := T_Model) (N := 23) hx hb hts in_Model hown hK hM hV1.1 rfl rfl 7 (by decide) (hts _ m_552) rfl d_Model_insert_6 ?_
  have r2 : -1000000 ≤ S.f 2 ∧ S.f 2 ≤ 1000000 := hV1.2.2.2 2
  refine lv_aload_n hx hb d_Model_insert_9 rfl (lv_at hl 0 rfl) ?_
  refine mw_get (ci := 4) (i := 40) (v := .int (iI (S.f 7))) (C := R_Model) (T := T_Model) (N := 23) hx hb hts in_Model hown hK hM hV1.1 rfl rfl 22 (by decide) (hts _ m_567) rfl d_Model_insert_10 ?_
  have r3 : -1000000 ≤ S.f 7 ∧ S.f 7 ≤ 1000000 := hV1.2.2.2 7
  refine ia_add hx hb d_Model_insert_13 ?_
  refine lv_sipush (v := iI (2000)) hx hb d_Model_insert_14 (by decide) ?_
  refine ia_icmp_le (a := (S.f 2) + (S.f 7)) (b := 2000) (tgt := 23) hx hb d_Model_insert_17 (by decide) (by omega) (by omega) (fun c4 => ?_) (fun c4 => ?_)
  · refine lv_aload_n hx hb d_Model_insert_23 rfl (lv_at hl 0 rfl) ?_
    refine lv_iload_n hx hb d_Model_insert_24 rfl (lv_at hl 2 rfl) ?_
    have r5 : (S.pf 0 0).f 0 = 0 := rfl
    have r6 : (S.pf 0 0).f 2 = S.f 2 := rfl
    have r7 : (S.pf 0 0).f 3 = S.f 3 := rfl
    have r8 : (S.pf 0 0).f 7 = S.f 7 := rfl
    refine mw_rdV (i := 40) (As := [.int (iI x)]) (rest := []) ⟨hx, hb, hml, hown, hts⟩ hK hM hS rfl hV1.1 rfl (c_Model_lastOf l D g lo L κ1 (S.pf 0 0) hV1 x (by omega) hT) (cwV 1 hts (gV m_785 m_787 m_43 m_58 m_788) rfl rfl rfl (by decide +kernel) ⟨Nat.le_of_ble_eq_true rfl, Nat.le_of_ble_eq_true rfl⟩) rfl hl.1 rfl (Nat.le_of_ble_eq_true rfl) d_Model_insert_25 ⟨Nat.le_of_ble_eq_true rfl, Nat.le_of_ble_eq_true rfl⟩ (fun H locs hM hS => ?_)
    have r9 := mLo_r (x := x) (S := S.pf 0 0) (by omega)
    refine lv_iconst (v := iI (1)) hx hb d_Model_insert_28 rfl ?_
    refine ia_add hx hb d_Model_insert_29 ?_
    refine lv_istore_n (lv' := [(3, .int (iI ((mLo x (S.pf 0 0)) + 1))), (0, .ref (L 40)), (1, .int (iI u)), (2, .int (iI x))]) hx hb d_Model_insert_30 rfl hl (by decide) rfl (fun ls hl => ?_)
    refine lv_aload_n hx hb d_Model_insert_31 rfl (lv_at hl 1 rfl) ?_
    refine lv_aload_n hx hb d_Model_insert_32 rfl (lv_at hl 1 rfl) ?_
    refine mw_get (ci := 4) (i := 40) (v := .ref (L 48)) (C := R_Model) (T := T_Model) (N := 23) hx hb hts in_Model hown hK hM hV1.1 rfl rfl 12 (by decide) (hts _ m_557) rfl d_Model_insert_33 ?_
    refine lv_iload_n hx hb d_Model_insert_36 rfl (lv_at hl 3 rfl) ?_
    refine mw_iald (n := 1000) (f := S.a 7) (a := x) (i := 48) hx hb hK hM 1 (hV1.2.1 7 (by decide)) rfl rfl (by omega) (by decide) d_Model_insert_37 ?_
    have r10 : -1000000 ≤ S.a 7 (x : Int).toNat ∧ S.a 7 (x : Int).toNat ≤ 1000000 := hV1.2.2.1 7 _
    refine lv_iconst (v := iI (1)) hx hb d_Model_insert_38 rfl ?_
    refine ia_sub hx hb d_Model_insert_39 ?_
    refine lv_iconst (v := iI (0)) hx hb d_Model_insert_40 rfl ?_
    refine lv_iload_n hx hb d_Model_insert_41 rfl (lv_at hl 3 rfl) ?_
    refine mw_callV (i := 40) (As := [.int (iI ((S.a 7 (x : Int).toNat) - 1)), .int (iI 0), .int (iI x)]) (rest := []) ⟨hx, hb, hml, hown, hts⟩ hK hM hS rfl hV1.1 rfl (c_Model_splice l D g lo L κ1 (S.pf 0 0) hV1 ((S.a 7 (x : Int).toNat) - 1) 0 x (by omega) (by omega) (by omega) hT) (cwV 3 hts (gV m_789 m_791 m_44 m_58 m_792) rfl rfl rfl (by decide +kernel) ⟨Nat.le_of_ble_eq_true rfl, Nat.le_of_ble_eq_true rfl⟩) rfl hl.1 rfl (Nat.le_of_ble_eq_true rfl) d_Model_insert_42 ⟨Nat.le_of_ble_eq_true rfl, Nat.le_of_ble_eq_true rfl⟩ (fun v11 L11 κ11 H locs hp11 hM hS => ?_)
    obtain ⟨rfl, rfl, hV11, hk11⟩ := hp11
    have r12 := (mSplice_k (a := (S.a 7 (x : Int).toNat) - 1) (gone := 0) (bx := x) (S := S.pf 0 0)).2
    refine lv_aload_n hx hb d_Model_insert_45 rfl (lv_at hl 1 rfl) ?_
    refine lv_iload_n hx hb d_Model_insert_46 rfl (lv_at hl 2 rfl) ?_
    refine mw_callV (i := 40) (As := [.int (iI u)]) (rest := []) ⟨hx, hb, hml, hown, hts⟩ hK hM hS rfl hV11.1 rfl (c_Model_store l D g lo L κ11 (mSplice ((S.a 7 (x : Int).toNat) - 1) 0 x (S.pf 0 0)) hV11 u (by omega) (by omega)) (cwV 1 hts (gV m_686 m_688 m_27 m_58 m_689) rfl rfl rfl (by decide +kernel) ⟨Nat.le_of_ble_eq_true rfl, Nat.le_of_ble_eq_true rfl⟩) rfl hl.1 rfl (Nat.le_of_ble_eq_true rfl) d_Model_insert_47 ⟨Nat.le_of_ble_eq_true rfl, Nat.le_of_ble_eq_true rfl⟩ (fun v13 L13 κ13 H locs hp13 hM hS => ?_)
    obtain ⟨rfl, rfl, hV13, hk13⟩ := hp13
    refine lv_iload_n hx hb d_Model_insert_50 rfl (lv_at hl 0 rfl) ?_
    exact mw_iret hx hb hr hM hS hlocks d_Model_insert_51 (by rw [show mIns u x S = ((mLo x (S.pf 0 0)) + 1, mStore u (mSplice ((S.a 7 (x : Int).toNat) - 1) 0 x (S.pf 0 0))) by first | (exfalso; omega) | (unfold mIns; (first | (exfalso; omega) | (repeat (first | rw [if_pos (by first | assumption | omega)] | rw [if_neg (by first | assumption | exact zne (by assumption) | omega)]))))]; exact ⟨rfl, rfl, hV13, (fun r h => by rw [hk13 r (by omega), hk11 r (by omega), hk1 r (by omega)])⟩)
  · refine lv_bipush (v := iI (-5)) hx hb d_Model_insert_20 (by decide) ?_
    exact mw_iret hx hb hr hM hS hlocks d_Model_insert_22 (by rw [show mIns u x S = (-5, S.pf 0 0) by first | (exfalso; omega) | (unfold mIns; (first | (exfalso; omega) | (repeat (first | rw [if_pos (by first | assumption | omega)] | rw [if_neg (by first | assumption | exact zne (by assumption) | omega)]))))]; exact ⟨rfl, rfl, hV1, (fun r h => by rw [hk1 r (by omega)])⟩)
set_option maxHeartbeats 4000000 in
set_option maxRecDepth 100000 in
theorem c_Model_goOverAgain (l : Launch) (D : va_G) (g : Nat → ClassId) (lo : Nat) (L : Nat → Nat) (κ : Nat → Option va_E) (S : MS) (hV : mds g L κ S) (hn0 : 0 ≤ S.f 2 ∧ S.f 2 ≤ 4000) (hgood : mGoGood 4000 (mGoS (S.f 2) S)) : Met l y_Model_goOverAgain w_Model_goOverAgain ({ frames := 6, cells := 0, slots := 0, locals := 153 }) (mwP D vwCl (tyL g) lo L κ [.ref (L 40)]) (mwQ D vwCl lo (mdQ g L κ none (mAgain S))) 0 0 (fun q => lo ≤ q) := by
  refine Met.ofW (cc := b_Model_goOverAgain) (maxL := 2) (ret := (Option.none : Option Jvm.ClassFile.FieldType)) (by decide) rfl ?_
  intro p e s m args below meth c s₁ B hml hpre
  obtain ⟨hargs, hM, hK⟩ := hpre
  have hx := B.exec
  have hb := B.bytes
  have hr := B.returns
  have hts : ∀ w ∈ wA, w.before args s = true := fun w h => atoms_spec (ws := w_Model_goOverAgain) B.pre w (List.mem_cons_of_mem _ h)
  have hown : s.vm.findClass R_Model = some m.cls := findClass_of_methodNamed B.named
  have hlocks := B.notSynchronized
  have hS : va_S (fun q => lo ≤ q) s.heap s.heap [] := va_S.rf
  have hp1 := hV.2.2.2 1
  obtain ⟨ls, hls, hl⟩ := mw_entry (m := m) [.ref (L 40)] (n := 2) (Nat.le_of_ble_eq_true rfl) hargs
  refine W.eq hls ?_
  have hl : lv_has ls 2 [(0, .ref (L 40))] := hl
  refine lv_aload_n hx hb d_Model_goOverAgain_0 rfl (lv_at hl 0 rfl) ?_
  refine mw_get (ci := 4) (i := 40) (v := .int (iI (S.f 1))) (C := R_Model) (T := T_Model) (N := 23) hx hb hts in_Model hown hK hM hV.1 rfl rfl 3 (by decide) (hts _ m_548) rfl d_Model_goOverAgain_1 ?_
  have r1 : -1000000 ≤ S.f 1 ∧ S.f 1 ≤ 1000000 := hV.2.2.2 1
  refine lv_istore_n (lv' := [(1, .int (iI (S.f 1))), (0, .ref (L 40))]) hx hb d_Model_goOverAgain_4 rfl hl (by decide) rfl (fun ls hl => ?_)
  refine lv_aload_n hx hb d_Model_goOverAgain_5 rfl (lv_at hl 1 rfl) ?_
  refine lv_aload_n hx hb d_Model_goOverAgain_6 rfl (lv_at hl 1 rfl) ?_
  refine mw_get (ci := 4) (i := 40) (v := .int (iI (S.f 2))) (C := R_Model) (T := T_Model) (N := 23) hx hb hts in_Model hown hK hM hV.1 rfl rfl 7 (by decide) (hts _ m_552) rfl d_Model_goOverAgain_7 ?_
  have r2 : -1000000 ≤ S.f 2 ∧ S.f 2 ≤ 1000000 := hV.2.2.2 2
  refine mw_callV (i := 40) (As := [.int (iI (S.f 2))]) (rest := []) ⟨hx, hb, hml, hown, hts⟩ hK hM hS rfl hV.1 rfl (c_Model_goOver l D g lo L κ S hV (S.f 2) (by omega) hgood) (cwV 1 hts (gV m_630 m_632 m_18 m_58 m_633) rfl rfl rfl (by decide +kernel) ⟨Nat.le_of_ble_eq_true rfl, Nat.le_of_ble_eq_true rfl⟩) rfl hl.1 rfl (Nat.le_of_ble_eq_true rfl) d_Model_goOverAgain_10 ⟨Nat.le_of_ble_eq_true rfl, Nat.le_of_ble_eq_true rfl⟩ (fun v3 L3 κ3 H locs hp3 hM hS => ?_)
  obtain ⟨rfl, rfl, hV3, hk3⟩ := hp3
  refine lv_aload_n hx hb d_Model_goOverAgain_13 rfl (lv_at hl 1 rfl) ?_
  refine lv_iload_n hx hb d_Model_goOverAgain_14 rfl (lv_at hl 0 rfl) ?_
  refine mw_put (ci := 4) (i := 40) (v := .int (iI (S.f 1))) (C := R_Model) (T := T_Model) (N := 23) hx hb hts in_Model ty_Model ty_Model_ok nm_Model hown hK hM hS hV3.1 rfl rfl 3 (by decide) (hts _ m_548) rfl (ty_Model_ok 3 (by decide)) rfl rfl (Nat.le_of_ble_eq_true rfl) d_Model_goOverAgain_15 (fun κ4 H locs e4 hk4 hM hS => ?_)
  have e4 : κ4 40 = some (.inr (4, [.int (iI ((mGoOver (S.f 2) S).f 8)), .ref (L 41), .int (iI ((mGoOver (S.f 2) S).f 0)), .int (iI (S.f 1)), .ref (L 42), .ref (L 43), .ref (L 44), .int (iI ((mGoOver (S.f 2) S).f 2)), .int (iI ((mGoOver (S.f 2) S).f 3)), .ref (L 45), .ref (L 46), .ref (L 47), .ref (L 48), .ref (L 49), .int (iI ((mGoOver (S.f 2) S).f 4)), .int (iI ((mGoOver (S.f 2) S).f 5)), .int (iI ((mGoOver (S.f 2) S).f 6)), .ref (L 50), .ref (L 51), .ref (L 52), .ref (L 53), .ref (L 54), .int (iI ((mGoOver (S.f 2) S).f 7))])) := e4
  have hV4 : mds g L κ4 ((mGoOver (S.f 2) S).pf 1 (S.f 1)) := mds_pf hV3 e4 hk4 (by first | omega | (split <;> omega))
  exact mw_vret hx hb hr hM hS hlocks d_Model_goOverAgain_18 (by rw [show mAgain S = (mGoOver (S.f 2) S).pf 1 (S.f 1) by first | (exfalso; omega) | (rfl)]; exact ⟨rfl, rfl, hV4, (fun r h => by rw [hk4 r (by omega), hk3 r (by omega)])⟩)
set_option maxHeartbeats 4000000 in
set_option maxRecDepth 100000 in
theorem c_Model_renumber (l : Launch) (D : va_G) (g : Nat → ClassId) (lo : Nat) (L : Nat → Nat) (κ : Nat → Option va_E) (S : MS) (hV : mds g L κ S) (hn0 : 0 ≤ S.f 2 ∧ S.f 2 ≤ 4000) (hgood : mGoGood 4000 (mGoS (S.f 2) (S.pf 6 1))) : Met l y_Model_renumber w_Model_renumber ({ frames := 7, cells := 0, slots := 0, locals := 174 }) (mwP D vwCl (tyL g) lo L κ [.ref (L 40)]) (mwQ D vwCl lo (mdQ g L κ none (mRenum S))) 0 0 (fun q => lo ≤ q) := by
  refine Met.ofW (cc := b_Model_renumber) (maxL := 1) (ret := (Option.none : Option Jvm.ClassFile.FieldType)) (by decide) rfl ?_
  intro p e s m args below meth c s₁ B hml hpre
  obtain ⟨hargs, hM, hK⟩ := hpre
  have hx := B.exec
  have hb := B.bytes
  have hr := B.returns
  have hts : ∀ w ∈ wA, w.before args s = true := fun w h => atoms_spec (ws := w_Model_renumber) B.pre w (List.mem_cons_of_mem _ h)
  have hown : s.vm.findClass R_Model = some m.cls := findClass_of_methodNamed B.named
  have hlocks := B.notSynchronized
  have hS : va_S (fun q => lo ≤ q) s.heap s.heap [] := va_S.rf
  obtain ⟨ls, hls, hl⟩ := mw_entry (m := m) [.ref (L 40)] (n := 1) (Nat.le_of_ble_eq_true rfl) hargs
  refine W.eq hls ?_
  have hl : lv_has ls 1 [(0, .ref (L 40))] := hl
  refine lv_aload_n hx hb d_Model_renumber_0 rfl (lv_at hl 0 rfl) ?_
  refine lv_iconst (v := iI (1)) hx hb d_Model_renumber_1 rfl ?_
  refine mw_put (ci := 4) (i := 40) (v := .int (iI 1)) (C := R_Model) (T := T_Model) (N := 23) hx hb hts in_Model ty_Model ty_Model_ok nm_Model hown hK hM hS hV.1 rfl rfl 16 (by decide) (hts _ m_561) rfl (ty_Model_ok 16 (by decide)) rfl rfl (Nat.le_of_ble_eq_true rfl) d_Model_renumber_2 (fun κ1 H locs e1 hk1 hM hS => ?_)
  have e1 : κ1 40 = some (.inr (4, [.int (iI (S.f 8)), .ref (L 41), .int (iI (S.f 0)), .int (iI (S.f 1)), .ref (L 42), .ref (L 43), .ref (L 44), .int (iI (S.f 2)), .int (iI (S.f 3)), .ref (L 45), .ref (L 46), .ref (L 47), .ref (L 48), .ref (L 49), .int (iI (S.f 4)), .int (iI (S.f 5)), .int (iI 1), .ref (L 50), .ref (L 51), .ref (L 52), .ref (L 53), .ref (L 54), .int (iI (S.f 7))])) := e1
  have hV1 : mds g L κ1 (S.pf 6 1) := mds_pf hV e1 hk1 (by first | omega | (split <;> omega))
  refine lv_aload_n hx hb d_Model_renumber_5 rfl (lv_at hl 0 rfl) ?_
  have r2 : (S.pf 6 1).f 0 = S.f 0 := rfl
  have r3 : (S.pf 6 1).f 2 = S.f 2 := rfl
  have r4 : (S.pf 6 1).f 3 = S.f 3 := rfl
  have r5 : (S.pf 6 1).f 7 = S.f 7 := rfl
  refine mw_callV (i := 40) (As := []) (rest := []) ⟨hx, hb, hml, hown, hts⟩ hK hM hS rfl hV1.1 rfl (c_Model_goOverAgain l D g lo L κ1 (S.pf 6 1) hV1  (by omega) hgood) (cwV 0 hts (gV m_817 m_819 m_48 m_58 m_820) rfl rfl rfl (by decide +kernel) ⟨Nat.le_of_ble_eq_true rfl, Nat.le_of_ble_eq_true rfl⟩) rfl hl.1 rfl (Nat.le_of_ble_eq_true rfl) d_Model_renumber_6 ⟨Nat.le_of_ble_eq_true rfl, Nat.le_of_ble_eq_true rfl⟩ (fun v6 L6 κ6 H locs hp6 hM hS => ?_)
  obtain ⟨rfl, rfl, hV6, hk6⟩ := hp6
  refine lv_aload_n hx hb d_Model_renumber_9 rfl (lv_at hl 0 rfl) ?_
  refine lv_iconst (v := iI (0)) hx hb d_Model_renumber_10 rfl ?_
  refine mw_put (ci := 4) (i := 40) (v := .int (iI 0)) (C := R_Model) (T := T_Model) (N := 23) hx hb hts in_Model ty_Model ty_Model_ok nm_Model hown hK hM hS hV6.1 rfl rfl 16 (by decide) (hts _ m_561) rfl (ty_Model_ok 16 (by decide)) rfl rfl (Nat.le_of_ble_eq_true rfl) d_Model_renumber_11 (fun κ7 H locs e7 hk7 hM hS => ?_)
  have e7 : κ7 40 = some (.inr (4, [.int (iI ((mAgain (S.pf 6 1)).f 8)), .ref (L 41), .int (iI ((mAgain (S.pf 6 1)).f 0)), .int (iI ((mAgain (S.pf 6 1)).f 1)), .ref (L 42), .ref (L 43), .ref (L 44), .int (iI ((mAgain (S.pf 6 1)).f 2)), .int (iI ((mAgain (S.pf 6 1)).f 3)), .ref (L 45), .ref (L 46), .ref (L 47), .ref (L 48), .ref (L 49), .int (iI ((mAgain (S.pf 6 1)).f 4)), .int (iI ((mAgain (S.pf 6 1)).f 5)), .int (iI 0), .ref (L 50), .ref (L 51), .ref (L 52), .ref (L 53), .ref (L 54), .int (iI ((mAgain (S.pf 6 1)).f 7))])) := e7
  have hV7 : mds g L κ7 ((mAgain (S.pf 6 1)).pf 6 0) := mds_pf hV6 e7 hk7 (by first | omega | (split <;> omega))
  exact mw_vret hx hb hr hM hS hlocks d_Model_renumber_14 (by rw [show mRenum S = (mAgain (S.pf 6 1)).pf 6 0 by first | (exfalso; omega) | (rfl)]; exact ⟨rfl, rfl, hV7, (fun r h => by rw [hk7 r (by omega), hk6 r (by omega), hk1 r (by omega)])⟩)
