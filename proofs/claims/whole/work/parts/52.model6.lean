set_option maxHeartbeats 4000000 in
set_option maxRecDepth 100000 in
theorem c_Model_add (l : Launch) (D : va_G) (g : Nat → ClassId) (lo : Nat) (L : Nat → Nat) (κ : Nat → Option va_E) (S : MS) (hV : mds g L κ S) (u x k v n m1 : Int) (hu : -2147483648 ≤ u ∧ u < 2147483648) (hx : -2147483648 ≤ x ∧ x < 2147483648) (hk : -2147483648 ≤ k ∧ k < 2147483648) (hn : -2147483648 ≤ n ∧ n < 2147483648) (hm1 : -2147483648 ≤ m1 ∧ m1 < 2147483648) (hv : -9223372036854775808 ≤ v ∧ v < 9223372036854775808) (hL : mLdOK u S) (hz : mSzs S) (ht0 : 0 ≤ S.f 0 ∧ S.f 0 ≤ 2000) (hEn : mSlot u = true → mEn (mLoad u S)) : Met l y_Model_add w_Model_add ({ frames := 8, cells := 0, slots := 0, locals := 198 }) (mwP D vwCl (tyL g) lo L κ [.ref (L 40), .int (iI u), .int (iI x), .int (iI k), .long (lI v), .int (iI n), .int (iI m1)]) (mwQ D vwCl lo (mdQ g L κ (some (.int (iI (mAdd u x k v n m1 S).1))) (mAdd u x k v n m1 S).2)) 0 0 (fun q => lo ≤ q) := by
  refine Met.ofW (cc := b_Model_add) (maxL := 10) (ret := (Option.some Jvm.ClassFile.FieldType.int)) (by decide) rfl ?_
  intro p e s m args below meth c s₁ B hml hpre
  obtain ⟨hargs, hM, hK⟩ := hpre
  have hx := B.exec
  have hb := B.bytes
  have hr := B.returns
  have hts : ∀ w ∈ wA, w.before args s = true := fun w h => atoms_spec (ws := w_Model_add) B.pre w (List.mem_cons_of_mem _ h)
  have hown : s.vm.findClass R_Model = some m.cls := findClass_of_methodNamed B.named
  have hlocks := B.notSynchronized
  have hS : va_S (fun q => lo ≤ q) s.heap s.heap [] := va_S.rf
  have loop214 : ∀ (N : Nat) (i : Int) (S1 : MS) (κ1 : Nat → Option va_E), (m1 - i).toNat < N → (mds g L κ1 S1) → (∀ r, (r < 40 ∨ 54 < r) → κ1 r = κ r) → (0 ≤ i ∧ i ≤ m1 ∧ S1.f 7 = (mWl (m1 + 1) 4 (mHead x k n (mLoad u S))).f 7 + i) → ((mIsNode u x S).1 = true ∧ k = 2 ∧ (0 ≤ n ∧ 0 ≤ m1 ∧ n + m1 ≤ S.f 0)) → (mBox x (mLoad u S) = true) → (¬ mAddWhy x k v n m1 (mLoad u S) < 0) → (mKp (mHead x k n (mLoad u S)) S1) → (1 ≤ (mWl (m1 + 1) 4 (mHead x k n (mLoad u S))).f 7 ∧ (mWl (m1 + 1) 4 (mHead x k n (mLoad u S))).f 7 ≤ n + 10) → (mWcN 0 n (m1 - 0).toNat 0 (mWl (m1 + 1) 4 (mHead x k n (mLoad u S))) = mWcN 0 n (m1 - i).toNat i S1) → ∀ (H : Heap) (locs : List Loc) (ls : Array Slot), mw D vwCl lo L κ1 H → va_S (fun q => lo ≤ q) s.heap H locs → lv_has ls 10 [(9, .int (iI i)), (0, .ref (L 40)), (1, .int (iI u)), (2, .int (iI x)), (3, .int (iI k)), (4, .long (lI v)), (6, .int (iI n)), (7, .int (iI m1))] → W p l e (headSpec w_Model_add ({ frames := 8, cells := 0, slots := 0, locals := 198 })).room s m args below meth c H locs 0 0 (MQ below (mwQ D vwCl lo (mdQ g L κ (some (.int (iI (mAdd u x k v n m1 S).1))) (mAdd u x k v n m1 S).2)) args s 0 0 (fun q => lo ≤ q)) (F0 m 214 ls []) := by
    intro N
    induction N with
    | zero => intro i S1 κ1 hms; exact absurd hms (Nat.not_lt_zero _)
    | succ N ih =>
      intro i S1 κ1 hms hV1 hf1 hi hg hbx1 hwhy hkw hpx hres H locs ls hM hS hl
      obtain ⟨hyu, hyb, hyc⟩ := mNode_t hg.1
      have hT := (hL hyu).2
      have hT1 := hT.1
      have hTx := hT.2 x.toNat (by omega)
      have hE := hEn hyu
      have hE1 := hE.1
      refine lv_iload hx hb d_Model_add_214 (lv_at hl 0 rfl) ?_
      refine lv_iload hx hb d_Model_add_216 (lv_at hl 7 rfl) ?_
      refine ia_icmp_ge (a := i) (b := m1) (tgt := 241) hx hb d_Model_add_218 (by decide) (by omega) (by omega) (fun c1 => ?_) (fun c1 => ?_)
      · refine lv_aload_n hx hb d_Model_add_241 rfl (lv_at hl 1 rfl) ?_
        refine lv_iconst (v := iI (0)) hx hb d_Model_add_242 rfl ?_
        refine mw_callV (i := 40) (As := [.int (iI 0)]) (rest := []) ⟨hx, hb, hml, hown, hts⟩ hK hM hS rfl hV1.1 rfl (c_Model_write l D g lo L κ1 S1 hV1 0 (by omega) (by omega)) (cwV 1 hts (gV m_772 m_774 m_40 m_58 m_775) rfl rfl rfl (by decide +kernel) ⟨Nat.le_of_ble_eq_true rfl, Nat.le_of_ble_eq_true rfl⟩) rfl hl.1 rfl (Nat.le_of_ble_eq_true rfl) d_Model_add_243 ⟨Nat.le_of_ble_eq_true rfl, Nat.le_of_ble_eq_true rfl⟩ (fun v2 L2 κ2 H locs hp2 hM hS => ?_)
        obtain ⟨rfl, rfl, hV2, hk2⟩ := hp2
        have r3 := mWr_p (b := 0) (S := S1)
        refine lv_goto (tgt := 268) hx hb d_Model_add_246 (by decide) ?_
        have hkp : mKp (mLoad u S) (mWr 0 S1) := by refine mKp_t (mHead_k (x := x) (k := k) (n := n) (S := mLoad u S) (by omega)).1 ?_; first | exact mKp_r | exact (mWl_k (by omega)).1 | exact mWr_k | exact mKp_t hkw mWr_k | exact mKp_t (mWl_k (by omega)).1 mWr_k
        have hf3 := hkp.2 3 (by decide)
        refine lv_aload_n hx hb d_Model_add_268 rfl (lv_at hl 1 rfl) ?_
        refine lv_iload_n hx hb d_Model_add_269 rfl (lv_at hl 2 rfl) ?_
        refine lv_iload_n hx hb d_Model_add_270 rfl (lv_at hl 3 rfl) ?_
        refine mw_callV (i := 40) (As := [.int (iI u), .int (iI x)]) (rest := []) ⟨hx, hb, hml, hown, hts⟩ hK hM hS rfl hV2.1 rfl (c_Model_insert l D g lo L κ2 (mWr 0 S1) hV2 u x (mSlot_iff.mp hyu) (by rw [hkp.2 3 (by decide)]; omega) (mTb_kt hT (mKt_p hkp)) (mEn_kp hE hkp) (by omega)) (cwV 2 hts (gV m_781 m_783 m_42 m_58 m_784) rfl rfl rfl (by decide +kernel) ⟨Nat.le_of_ble_eq_true rfl, Nat.le_of_ble_eq_true rfl⟩) rfl hl.1 rfl (Nat.le_of_ble_eq_true rfl) d_Model_add_271 ⟨Nat.le_of_ble_eq_true rfl, Nat.le_of_ble_eq_true rfl⟩ (fun v4 L4 κ4 H locs hp4 hM hS => ?_)
        obtain ⟨rfl, rfl, hV4, hk4⟩ := hp4
        exact mw_iret hx hb hr hM hS hlocks d_Model_add_274 (by rw [show mAdd u x k v n m1 S = ((mIns u x (mWr 0 S1)).1, (mIns u x (mWr 0 S1)).2) by first | (exfalso; omega) | (unfold mAdd; rw [if_neg (by omega), if_neg (zne2 hg.1), if_neg (zne2 (by assumption))]; unfold mAdd2; rw [if_neg hwhy, show mAddV k v n m1 (mHead x k n (mLoad u S)) = (mWr 0 S1) by unfold mAddV; rw [if_neg (by omega), if_neg (by omega), if_neg (by omega), if_pos (by omega)]; unfold mWc; rw [hres, mWcN_e (by omega)]])]; exact ⟨rfl, rfl, hV4, (fun r h => by rw [hk4 r (by omega), hk2 r (by omega), hf1 r (by omega)])⟩)
      · refine lv_aload_n hx hb d_Model_add_221 rfl (lv_at hl 1 rfl) ?_
        refine lv_aload_n hx hb d_Model_add_222 rfl (lv_at hl 1 rfl) ?_
        refine mw_get (ci := 4) (i := 40) (v := .ref (L 41)) (C := R_Model) (T := T_Model) (N := 23) hx hb hts in_Model hown hK hM hV1.1 rfl rfl 1 (by decide) (hts _ m_546) rfl d_Model_add_223 ?_
        refine lv_iload hx hb d_Model_add_226 (lv_at hl 6 rfl) ?_
        refine lv_iload hx hb d_Model_add_228 (lv_at hl 0 rfl) ?_
        refine ia_add hx hb d_Model_add_230 ?_
        refine mw_iald (n := 2000) (f := S1.a 0) (a := n + i) (i := 41) hx hb hK hM 1 (hV1.2.1 0 (by decide)) rfl rfl (by omega) (by decide) d_Model_add_231 ?_
        have r5 : 0 ≤ S1.a 0 (n + i : Int).toNat ∧ S1.a 0 (n + i : Int).toNat ≤ 255 := hV1.2.2.1 0 _
        refine mw_callV (i := 40) (As := [.int (iI (S1.a 0 (n + i : Int).toNat))]) (rest := []) ⟨hx, hb, hml, hown, hts⟩ hK hM hS rfl hV1.1 rfl (c_Model_write l D g lo L κ1 S1 hV1 (S1.a 0 (n + i : Int).toNat) (by omega) (by omega)) (cwV 1 hts (gV m_772 m_774 m_40 m_58 m_775) rfl rfl rfl (by decide +kernel) ⟨Nat.le_of_ble_eq_true rfl, Nat.le_of_ble_eq_true rfl⟩) rfl hl.1 rfl (Nat.le_of_ble_eq_true rfl) d_Model_add_232 ⟨Nat.le_of_ble_eq_true rfl, Nat.le_of_ble_eq_true rfl⟩ (fun v6 L6 κ6 H locs hp6 hM hS => ?_)
        obtain ⟨rfl, rfl, hV6, hk6⟩ := hp6
        have r7 := mWr_p (b := S1.a 0 (n + i : Int).toNat) (S := S1)
        refine lv_iinc (v := iI (i + 1)) (lv' := [(9, .int (iI (i + 1))), (0, .ref (L 40)), (1, .int (iI u)), (2, .int (iI x)), (3, .int (iI k)), (4, .long (lI v)), (6, .int (iI n)), (7, .int (iI m1))]) hx hb d_Model_add_235 hl (k := 0) rfl (iI_inc _ _) (by decide) rfl (fun ls hl => ?_)
        refine lv_goto (tgt := 214) hx hb d_Model_add_238 (by decide) ?_
        exact ih (i + 1) (mWr (S1.a 0 (n + i : Int).toNat) S1) κ6 (by omega) hV6 (fun r h => by rw [hk6 r (by omega), hf1 r (by omega)]) (by omega) hg hbx1 hwhy (mKp_t hkw mWr_k) hpx (by rw [hres, mWcN_s (by omega)]) _ _ ls hM hS (lv_sub hl [0, 1, 2, 3, 4, 5, 6, 7] rfl)
  obtain ⟨ls, hls, hl⟩ := mw_entry (m := m) [.ref (L 40), .int (iI u), .int (iI x), .int (iI k), .long (lI v), .int (iI n), .int (iI m1)] (n := 10) (Nat.le_of_ble_eq_true rfl) hargs
  refine W.eq hls ?_
  have hl : lv_has ls 10 [(0, .ref (L 40)), (1, .int (iI u)), (2, .int (iI x)), (3, .int (iI k)), (4, .long (lI v)), (6, .int (iI n)), (7, .int (iI m1))] := hl
  refine lv_iload hx hb d_Model_add_0 (lv_at hl 5 rfl) ?_
  refine ia_if_lt (a := n) (tgt := 43) hx hb d_Model_add_2 (by decide) (by omega) (fun c8 => ?_) (fun c8 => ?_)
  · refine lv_iconst (v := iI (-1)) hx hb d_Model_add_43 rfl ?_
    exact mw_iret hx hb hr hM hS hlocks d_Model_add_44 (by rw [show mAdd u x k v n m1 S = (-1, S) by first | (exfalso; omega) | (unfold mAdd; rw [if_pos (by omega)])]; exact ⟨rfl, rfl, hV, (fun r h => rfl)⟩)
  · refine lv_iload hx hb d_Model_add_5 (lv_at hl 6 rfl) ?_
    refine ia_if_lt (a := m1) (tgt := 43) hx hb d_Model_add_7 (by decide) (by omega) (fun c9 => ?_) (fun c9 => ?_)
    · refine lv_iconst (v := iI (-1)) hx hb d_Model_add_43 rfl ?_
      exact mw_iret hx hb hr hM hS hlocks d_Model_add_44 (by rw [show mAdd u x k v n m1 S = (-1, S) by first | (exfalso; omega) | (unfold mAdd; rw [if_pos (by omega)])]; exact ⟨rfl, rfl, hV, (fun r h => rfl)⟩)
    · refine lv_iload hx hb d_Model_add_10 (lv_at hl 5 rfl) ?_
      refine ia_i2l hx hb (by omega) d_Model_add_12 ?_
      refine lv_iload hx hb d_Model_add_13 (lv_at hl 6 rfl) ?_
      refine ia_i2l hx hb (by omega) d_Model_add_15 ?_
      refine ia_ladd hx hb d_Model_add_16 ?_
      refine lv_aload_n hx hb d_Model_add_17 rfl (lv_at hl 0 rfl) ?_
      refine mw_get (ci := 4) (i := 40) (v := .int (iI (S.f 0))) (C := R_Model) (T := T_Model) (N := 23) hx hb hts in_Model hown hK hM hV.1 rfl rfl 2 (by decide) (hts _ m_547) rfl d_Model_add_18 ?_
      have r10 : -1000000 ≤ S.f 0 ∧ S.f 0 ≤ 1000000 := hV.2.2.2 0
      refine ia_i2l hx hb (by omega) d_Model_add_21 ?_
      refine ia_lcmp (a := n + m1) (b := S.f 0) hx hb (by omega) (by omega) d_Model_add_22 ?_
      have r11 := cmpI_s (n + m1) (S.f 0)
      refine ia_if_gt (a := cmpI (n + m1) (S.f 0)) (tgt := 43) hx hb d_Model_add_23 (by decide) (by omega) (fun c12 => ?_) (fun c12 => ?_)
      · refine lv_iconst (v := iI (-1)) hx hb d_Model_add_43 rfl ?_
        exact mw_iret hx hb hr hM hS hlocks d_Model_add_44 (by rw [show mAdd u x k v n m1 S = (-1, S) by first | (exfalso; omega) | (unfold mAdd; rw [if_pos (by omega)])]; exact ⟨rfl, rfl, hV, (fun r h => rfl)⟩)
      · refine lv_aload_n hx hb d_Model_add_26 rfl (lv_at hl 0 rfl) ?_
        refine lv_iload_n hx hb d_Model_add_27 rfl (lv_at hl 1 rfl) ?_
        refine lv_iload_n hx hb d_Model_add_28 rfl (lv_at hl 2 rfl) ?_
        refine mw_callV (i := 40) (As := [.int (iI u), .int (iI x)]) (rest := []) ⟨hx, hb, hml, hown, hts⟩ hK hM hS rfl hV.1 rfl (c_Model_isNode l D g lo L κ S hV u x (by omega) (by omega) hL hz) (cwV 2 hts (gV m_710 m_712 m_29 m_58 m_713) rfl rfl rfl (by decide +kernel) ⟨Nat.le_of_ble_eq_true rfl, Nat.le_of_ble_eq_true rfl⟩) rfl hl.1 rfl (Nat.le_of_ble_eq_true rfl) d_Model_add_29 ⟨Nat.le_of_ble_eq_true rfl, Nat.le_of_ble_eq_true rfl⟩ (fun v13 L13 κ13 H locs hp13 hM hS => ?_)
        obtain ⟨rfl, rfl, hV13, hk13⟩ := hp13
        refine ia_ifz_eq (x := (mIsNode u x S).1) (tgt := 43) hx hb d_Model_add_32 (by decide) (fun c14 => ?_) (fun c14 => ?_)
        · refine lv_iconst (v := iI (-1)) hx hb d_Model_add_43 rfl ?_
          exact mw_iret hx hb hr hM hS hlocks d_Model_add_44 (by rw [show mAdd u x k v n m1 S = (-1, (mIsNode u x S).2) by first | (exfalso; omega) | (unfold mAdd; rw [if_neg (by omega), if_pos (by assumption)])]; exact ⟨rfl, rfl, hV13, (fun r h => by rw [hk13 r (by omega)])⟩)
        · obtain ⟨hy15a, hy15b, hy15c⟩ := mNode_t c14
          rw [hy15b] at hV13
          have hT := (hL hy15a).2
          have hT1 := hT.1
          have hTx := hT.2 x.toNat (by omega)
          have hyu := (mNode_t (by assumption : (mIsNode u x S).1 = true)).1
          have hE := hEn hyu
          have hE1 := hE.1
          refine lv_aload_n hx hb d_Model_add_35 rfl (lv_at hl 0 rfl) ?_
          refine lv_iload_n hx hb d_Model_add_36 rfl (lv_at hl 2 rfl) ?_
          refine mw_rdV (i := 40) (As := [.int (iI x)]) (rest := []) ⟨hx, hb, hml, hown, hts⟩ hK hM hS rfl hV13.1 rfl (c_Model_isBox l D g lo L κ13 (mLoad u S) hV13 x (by omega) hT) (cwV 1 hts (gV m_726 m_728 m_33 m_58 m_729) rfl rfl rfl (by decide +kernel) ⟨Nat.le_of_ble_eq_true rfl, Nat.le_of_ble_eq_true rfl⟩) rfl hl.1 rfl (Nat.le_of_ble_eq_true rfl) d_Model_add_37 ⟨Nat.le_of_ble_eq_true rfl, Nat.le_of_ble_eq_true rfl⟩ (fun H locs hM hS => ?_)
          refine ia_ifz_ne (x := mBox x (mLoad u S)) (tgt := 45) hx hb d_Model_add_40 (by decide) (fun c16 => ?_) (fun c16 => ?_)
          · refine lv_aload_n hx hb d_Model_add_45 rfl (lv_at hl 0 rfl) ?_
            refine lv_iload_n hx hb d_Model_add_46 rfl (lv_at hl 2 rfl) ?_
            refine lv_iload_n hx hb d_Model_add_47 rfl (lv_at hl 3 rfl) ?_
            refine lv_lload hx hb d_Model_add_48 (lv_at hl 4 rfl) ?_
            refine lv_iload hx hb d_Model_add_50 (lv_at hl 5 rfl) ?_
            refine lv_iload hx hb d_Model_add_52 (lv_at hl 6 rfl) ?_
            refine mw_rdV (i := 40) (As := [.int (iI x), .int (iI k), .long (lI v), .int (iI n), .int (iI m1)]) (rest := []) ⟨hx, hb, hml, hown, hts⟩ hK hM hS rfl hV13.1 rfl (c_Model_canBe l D g lo L κ13 (mLoad u S) hV13 x k v n m1 (by omega) (by omega) (by omega) (by omega) (by omega) hT) (cwV 5 hts (gV m_758 m_760 m_37 m_58 m_761) rfl rfl rfl (by decide +kernel) ⟨Nat.le_of_ble_eq_true rfl, Nat.le_of_ble_eq_true rfl⟩) rfl hl.1 rfl (Nat.le_of_ble_eq_true rfl) d_Model_add_54 ⟨Nat.le_of_ble_eq_true rfl, Nat.le_of_ble_eq_true rfl⟩ (fun H locs hM hS => ?_)
            refine ia_ifz_ne (x := mCan x k v n m1 (mLoad u S)) (tgt := 65) hx hb d_Model_add_57 (by decide) (fun c17 => ?_) (fun c17 => ?_)
            · refine lv_aload_n hx hb d_Model_add_65 rfl (lv_at hl 0 rfl) ?_
              refine lv_iload_n hx hb d_Model_add_66 rfl (lv_at hl 2 rfl) ?_
              refine lv_iload hx hb d_Model_add_67 (lv_at hl 5 rfl) ?_
              refine mw_rdV (i := 40) (As := [.int (iI x), .int (iI n)]) (rest := []) ⟨hx, hb, hml, hown, hts⟩ hK hM hS rfl hV13.1 rfl (c_Model_isNameFree l D g lo L κ13 (mLoad u S) hV13 x n (by omega) (by omega) hT) (cwV 2 hts (gV m_764 m_766 m_38 m_58 m_767) rfl rfl rfl (by decide +kernel) ⟨Nat.le_of_ble_eq_true rfl, Nat.le_of_ble_eq_true rfl⟩) rfl hl.1 rfl (Nat.le_of_ble_eq_true rfl) d_Model_add_69 ⟨Nat.le_of_ble_eq_true rfl, Nat.le_of_ble_eq_true rfl⟩ (fun H locs hM hS => ?_)
              refine ia_ifz_eq (x := mFree x n (mLoad u S)) (tgt := 92) hx hb d_Model_add_72 (by decide) (fun c18 => ?_) (fun c18 => ?_)
              · refine lv_bipush (v := iI (-3)) hx hb d_Model_add_92 (by decide) ?_
                refine lv_goto (tgt := 124) hx hb d_Model_add_94 (by decide) ?_
                refine lv_istore (lv' := [(8, .int (iI (-3))), (0, .ref (L 40)), (1, .int (iI u)), (2, .int (iI x)), (3, .int (iI k)), (4, .long (lI v)), (6, .int (iI n)), (7, .int (iI m1))]) hx hb d_Model_add_124 hl (by decide) rfl (fun ls hl => ?_)
                refine lv_iload hx hb d_Model_add_126 (lv_at hl 0 rfl) ?_
                refine ia_if_ge (a := -3) (tgt := 139) hx hb d_Model_add_128 (by decide) (by omega) (fun c19 => ?_) (fun c19 => ?_)
                · exact absurd c19 (by decide)
                · refine lv_aload_n hx hb d_Model_add_131 rfl (lv_at hl 1 rfl) ?_
                  refine lv_iconst (v := iI (0)) hx hb d_Model_add_132 rfl ?_
                  refine mw_put (ci := 4) (i := 40) (v := .int (iI 0)) (C := R_Model) (T := T_Model) (N := 23) hx hb hts in_Model ty_Model ty_Model_ok nm_Model hown hK hM hS hV13.1 rfl rfl 2 (by decide) (hts _ m_547) rfl (ty_Model_ok 2 (by decide)) rfl rfl (Nat.le_of_ble_eq_true rfl) d_Model_add_133 (fun κ20 H locs e20 hk20 hM hS => ?_)
                  have e20 : κ20 40 = some (.inr (4, [.int (iI ((mLoad u S).f 8)), .ref (L 41), .int (iI 0), .int (iI ((mLoad u S).f 1)), .ref (L 42), .ref (L 43), .ref (L 44), .int (iI ((mLoad u S).f 2)), .int (iI ((mLoad u S).f 3)), .ref (L 45), .ref (L 46), .ref (L 47), .ref (L 48), .ref (L 49), .int (iI ((mLoad u S).f 4)), .int (iI ((mLoad u S).f 5)), .int (iI ((mLoad u S).f 6)), .ref (L 50), .ref (L 51), .ref (L 52), .ref (L 53), .ref (L 54), .int (iI ((mLoad u S).f 7))])) := e20
                  have hV20 : mds g L κ20 ((mLoad u S).pf 0 0) := mds_pf hV13 e20 hk20 (by first | omega | (split <;> omega))
                  refine lv_iload hx hb d_Model_add_136 (lv_at hl 0 rfl) ?_
                  exact mw_iret hx hb hr hM hS hlocks d_Model_add_138 (by rw [show mAdd u x k v n m1 S = (-3, (mLoad u S).pf 0 0) by first | (exfalso; omega) | (unfold mAdd; rw [if_neg (by omega), if_neg (zne2 c14), if_neg (zne2 (by assumption))]; unfold mAdd2; rw [show mAddWhy x k v n m1 (mLoad u S) = -3 by unfold mAddWhy; rw [if_neg (zne2 (by assumption)), if_pos (by first | exact Or.inl (by assumption) | exact Or.inr (by omega))], if_pos (by decide)])]; exact ⟨rfl, rfl, hV20, (fun r h => by rw [hk20 r (by omega), hk13 r (by omega)])⟩)
              · refine lv_aload_n hx hb d_Model_add_75 rfl (lv_at hl 0 rfl) ?_
                refine mw_get (ci := 4) (i := 40) (v := .ref (L 41)) (C := R_Model) (T := T_Model) (N := 23) hx hb hts in_Model hown hK hM hV13.1 rfl rfl 1 (by decide) (hts _ m_546) rfl d_Model_add_76 ?_
                refine lv_iload hx hb d_Model_add_79 (lv_at hl 5 rfl) ?_
                refine lv_iload hx hb d_Model_add_81 (lv_at hl 5 rfl) ?_
                refine lv_iload hx hb d_Model_add_83 (lv_at hl 6 rfl) ?_
                refine ia_add hx hb d_Model_add_85 ?_
                refine mw_rdS (As := [.ref (L 41), .int (iI n), .int (iI (n + m1))]) (rest := []) ⟨hx, hb, hml, hown, hts⟩ hK hM hS (c_Model_badText l D g lo L κ13 ((mLoad u S).a 0) 41 2000 (hV13.2.1 0 (by decide)) (by decide) (hV13.2.2.1 0) n (n + m1) (by omega) (by omega)) (cwS 3 hts (gS m_655 m_656 m_58 m_657) rfl rfl rfl (by decide +kernel) ⟨Nat.le_of_ble_eq_true rfl, Nat.le_of_ble_eq_true rfl⟩) rfl hl.1 rfl (Nat.le_of_ble_eq_true rfl) d_Model_add_86 ⟨Nat.le_of_ble_eq_true rfl, Nat.le_of_ble_eq_true rfl⟩ (fun H locs hM hS => ?_)
                have r21 := mBad_r ((mLoad u S).a 0) n (n + m1)
                refine ia_if_lt (a := mBad ((mLoad u S).a 0) n (n + m1)) (tgt := 97) hx hb d_Model_add_89 (by decide) (by omega) (fun c22 => ?_) (fun c22 => ?_)
                · refine lv_iload_n hx hb d_Model_add_97 rfl (lv_at hl 3 rfl) ?_
                  refine lv_iconst (v := iI (3)) hx hb d_Model_add_98 rfl ?_
                  refine ia_icmp_eq (a := k) (b := 3) (tgt := 107) hx hb d_Model_add_99 (by decide) (by omega) (by omega) (fun c23 => ?_) (fun c23 => ?_)
                  · refine lv_aload_n hx hb d_Model_add_107 rfl (lv_at hl 0 rfl) ?_
                    refine mw_get (ci := 4) (i := 40) (v := .ref (L 49)) (C := R_Model) (T := T_Model) (N := 23) hx hb hts in_Model hown hK hM hV13.1 rfl rfl 13 (by decide) (hts _ m_558) rfl d_Model_add_108 ?_
                    refine lv_iload_n hx hb d_Model_add_111 rfl (lv_at hl 2 rfl) ?_
                    refine mw_iald (n := 1000) (f := (mLoad u S).a 8) (a := x) (i := 49) hx hb hK hM 1 (hV13.2.1 8 (by decide)) rfl rfl (by omega) (by decide) d_Model_add_112 ?_
                    have r24 : -1000000 ≤ (mLoad u S).a 8 (x : Int).toNat ∧ (mLoad u S).a 8 (x : Int).toNat ≤ 1000000 := hV13.2.2.1 8 _
                    refine lv_bipush (v := iI (16)) hx hb d_Model_add_113 (by decide) ?_
                    refine ia_icmp_ne (a := (mLoad u S).a 8 (x : Int).toNat) (b := 16) (tgt := 123) hx hb d_Model_add_115 (by decide) (by omega) (by omega) (fun c25 => ?_) (fun c25 => ?_)
                    · refine lv_iconst (v := iI (0)) hx hb d_Model_add_123 rfl ?_
                      refine lv_istore (lv' := [(8, .int (iI 0)), (0, .ref (L 40)), (1, .int (iI u)), (2, .int (iI x)), (3, .int (iI k)), (4, .long (lI v)), (6, .int (iI n)), (7, .int (iI m1))]) hx hb d_Model_add_124 hl (by decide) rfl (fun ls hl => ?_)
                      refine lv_iload hx hb d_Model_add_126 (lv_at hl 0 rfl) ?_
                      refine ia_if_ge (a := 0) (tgt := 139) hx hb d_Model_add_128 (by decide) (by omega) (fun c26 => ?_) (fun c26 => ?_)
                      · have hwhy : ¬ mAddWhy x k v n m1 (mLoad u S) < 0 := by first | (exfalso; omega) | (unfold mAddWhy; rw [if_neg (zne2 (by assumption)), if_neg (by rintro (z | z); exact absurd z (zne2 (by assumption)); omega), if_neg (by omega)]; decide)
                        have hkb := (decide_eq_true_iff (p := k = 2 ∨ k = 10 ∨ k = 3 ∨ k = 4 ∨ k = 8 ∨ k = 16 ∨ k = 18)).mp (mCan_k (x := x) (k := k) (v := v) (n := n) (m := m1) (S := mLoad u S) (by assumption))
                        have hv8 : k = 8 → v = 0 ∨ v = 1 := by intro z; subst z; exact mCan_8 (x := x) (n := n) (m := m1) (S := mLoad u S) (by assumption)
                        have hbx1 : mBox x (mLoad u S) = true := by assumption
                        refine lv_aload_n hx hb d_Model_add_139 rfl (lv_at hl 1 rfl) ?_
                        refine lv_iload_n hx hb d_Model_add_140 rfl (lv_at hl 3 rfl) ?_
                        refine lv_iload_n hx hb d_Model_add_141 rfl (lv_at hl 4 rfl) ?_
                        refine lv_iload hx hb d_Model_add_142 (lv_at hl 6 rfl) ?_
                        refine mw_callV (i := 40) (As := [.int (iI x), .int (iI k), .int (iI n)]) (rest := []) ⟨hx, hb, hml, hown, hts⟩ hK hM hS rfl hV13.1 rfl (c_Model_writeHead l D g lo L κ13 (mLoad u S) hV13 x k n (by omega) (by omega) (by omega) hT) (cwV 3 hts (gV m_768 m_770 m_39 m_58 m_771) rfl rfl rfl (by decide +kernel) ⟨Nat.le_of_ble_eq_true rfl, Nat.le_of_ble_eq_true rfl⟩) rfl hl.1 rfl (Nat.le_of_ble_eq_true rfl) d_Model_add_144 ⟨Nat.le_of_ble_eq_true rfl, Nat.le_of_ble_eq_true rfl⟩ (fun v27 L27 κ27 H locs hp27 hM hS => ?_)
                        obtain ⟨rfl, rfl, hV27, hk27⟩ := hp27
                        have r28 := (mHead_k (x := x) (k := k) (n := n) (S := mLoad u S) (by omega)).2
                        refine lv_iload_n hx hb d_Model_add_147 rfl (lv_at hl 4 rfl) ?_
                        refine lv_bipush (v := iI (16)) hx hb d_Model_add_148 (by decide) ?_
                        refine ia_icmp_eq (a := k) (b := 16) (tgt := 159) hx hb d_Model_add_150 (by decide) (by omega) (by omega) (fun c29 => ?_) (fun c29 => ?_)
                        · refine lv_aload_n hx hb d_Model_add_159 rfl (lv_at hl 1 rfl) ?_
                          refine lv_lload hx hb d_Model_add_160 (lv_at hl 5 rfl) ?_
                          refine lv_iload_n hx hb d_Model_add_162 rfl (lv_at hl 4 rfl) ?_
                          refine lv_bipush (v := iI (16)) hx hb d_Model_add_163 (by decide) ?_
                          refine ia_icmp_ne (a := k) (b := 16) (tgt := 172) hx hb d_Model_add_165 (by decide) (by omega) (by omega) (fun c30 => ?_) (fun c30 => ?_)
                          · refine lv_bipush (v := iI (8)) hx hb d_Model_add_172 (by decide) ?_
                            refine mw_callV (i := 40) (As := [.long (lI v), .int (iI 8)]) (rest := []) ⟨hx, hb, hml, hown, hts⟩ hK hM hS rfl hV27.1 rfl (c_Model_writeLow l D g lo L κ27 (mHead x k n (mLoad u S)) hV27 v 8 (by omega) (by omega) (by omega)) (cwV 2 hts (gV m_776 m_778 m_41 m_58 m_779) rfl rfl rfl (by decide +kernel) ⟨Nat.le_of_ble_eq_true rfl, Nat.le_of_ble_eq_true rfl⟩) rfl hl.1 rfl (Nat.le_of_ble_eq_true rfl) d_Model_add_174 ⟨Nat.le_of_ble_eq_true rfl, Nat.le_of_ble_eq_true rfl⟩ (fun v31 L31 κ31 H locs hp31 hM hS => ?_)
                            obtain ⟨rfl, rfl, hV31, hk31⟩ := hp31
                            have r32 := (mWl_k (v := v) (n := 8) (S := mHead x k n (mLoad u S)) (by omega)).2
                            refine lv_goto (tgt := 268) hx hb d_Model_add_177 (by decide) ?_
                            have hkp : mKp (mLoad u S) (mWl v 8 (mHead x k n (mLoad u S))) := by refine mKp_t (mHead_k (x := x) (k := k) (n := n) (S := mLoad u S) (by omega)).1 ?_; first | exact mKp_r | exact (mWl_k (by omega)).1 | exact mWr_k | exact mKp_t hkw mWr_k | exact mKp_t (mWl_k (by omega)).1 mWr_k
                            have hf3 := hkp.2 3 (by decide)
                            refine lv_aload_n hx hb d_Model_add_268 rfl (lv_at hl 1 rfl) ?_
                            refine lv_iload_n hx hb d_Model_add_269 rfl (lv_at hl 2 rfl) ?_
                            refine lv_iload_n hx hb d_Model_add_270 rfl (lv_at hl 3 rfl) ?_
                            refine mw_callV (i := 40) (As := [.int (iI u), .int (iI x)]) (rest := []) ⟨hx, hb, hml, hown, hts⟩ hK hM hS rfl hV31.1 rfl (c_Model_insert l D g lo L κ31 (mWl v 8 (mHead x k n (mLoad u S))) hV31 u x (mSlot_iff.mp hyu) (by rw [hkp.2 3 (by decide)]; omega) (mTb_kt hT (mKt_p hkp)) (mEn_kp hE hkp) (by omega)) (cwV 2 hts (gV m_781 m_783 m_42 m_58 m_784) rfl rfl rfl (by decide +kernel) ⟨Nat.le_of_ble_eq_true rfl, Nat.le_of_ble_eq_true rfl⟩) rfl hl.1 rfl (Nat.le_of_ble_eq_true rfl) d_Model_add_271 ⟨Nat.le_of_ble_eq_true rfl, Nat.le_of_ble_eq_true rfl⟩ (fun v33 L33 κ33 H locs hp33 hM hS => ?_)
                            obtain ⟨rfl, rfl, hV33, hk33⟩ := hp33
                            exact mw_iret hx hb hr hM hS hlocks d_Model_add_274 (by rw [show mAdd u x k v n m1 S = ((mIns u x (mWl v 8 (mHead x k n (mLoad u S)))).1, (mIns u x (mWl v 8 (mHead x k n (mLoad u S)))).2) by first | (exfalso; omega) | (unfold mAdd; rw [if_neg (by omega), if_neg (zne2 c14), if_neg (zne2 (by assumption))]; unfold mAdd2; rw [if_neg hwhy, show mAddV k v n m1 (mHead x k n (mLoad u S)) = (mWl v 8 (mHead x k n (mLoad u S))) by unfold mAddV; (first | (exfalso; omega) | (repeat (first | rw [if_pos (by first | assumption | omega)] | rw [if_neg (by first | assumption | exact zne (by assumption) | omega)])))])]; exact ⟨rfl, rfl, hV33, (fun r h => by rw [hk33 r (by omega), hk31 r (by omega), hk27 r (by omega), hk13 r (by omega)])⟩)
                          · refine lv_iconst (v := iI (4)) hx hb d_Model_add_168 rfl ?_
                            refine lv_goto (tgt := 174) hx hb d_Model_add_169 (by decide) ?_
                            refine mw_callV (i := 40) (As := [.long (lI v), .int (iI 4)]) (rest := []) ⟨hx, hb, hml, hown, hts⟩ hK hM hS rfl hV27.1 rfl (c_Model_writeLow l D g lo L κ27 (mHead x k n (mLoad u S)) hV27 v 4 (by omega) (by omega) (by omega)) (cwV 2 hts (gV m_776 m_778 m_41 m_58 m_779) rfl rfl rfl (by decide +kernel) ⟨Nat.le_of_ble_eq_true rfl, Nat.le_of_ble_eq_true rfl⟩) rfl hl.1 rfl (Nat.le_of_ble_eq_true rfl) d_Model_add_174 ⟨Nat.le_of_ble_eq_true rfl, Nat.le_of_ble_eq_true rfl⟩ (fun v34 L34 κ34 H locs hp34 hM hS => ?_)
                            obtain ⟨rfl, rfl, hV34, hk34⟩ := hp34
                            have r35 := (mWl_k (v := v) (n := 4) (S := mHead x k n (mLoad u S)) (by omega)).2
                            refine lv_goto (tgt := 268) hx hb d_Model_add_177 (by decide) ?_
                            have hkp : mKp (mLoad u S) (mWl v 4 (mHead x k n (mLoad u S))) := by refine mKp_t (mHead_k (x := x) (k := k) (n := n) (S := mLoad u S) (by omega)).1 ?_; first | exact mKp_r | exact (mWl_k (by omega)).1 | exact mWr_k | exact mKp_t hkw mWr_k | exact mKp_t (mWl_k (by omega)).1 mWr_k
                            have hf3 := hkp.2 3 (by decide)
                            refine lv_aload_n hx hb d_Model_add_268 rfl (lv_at hl 1 rfl) ?_
                            refine lv_iload_n hx hb d_Model_add_269 rfl (lv_at hl 2 rfl) ?_
                            refine lv_iload_n hx hb d_Model_add_270 rfl (lv_at hl 3 rfl) ?_
                            refine mw_callV (i := 40) (As := [.int (iI u), .int (iI x)]) (rest := []) ⟨hx, hb, hml, hown, hts⟩ hK hM hS rfl hV34.1 rfl (c_Model_insert l D g lo L κ34 (mWl v 4 (mHead x k n (mLoad u S))) hV34 u x (mSlot_iff.mp hyu) (by rw [hkp.2 3 (by decide)]; omega) (mTb_kt hT (mKt_p hkp)) (mEn_kp hE hkp) (by omega)) (cwV 2 hts (gV m_781 m_783 m_42 m_58 m_784) rfl rfl rfl (by decide +kernel) ⟨Nat.le_of_ble_eq_true rfl, Nat.le_of_ble_eq_true rfl⟩) rfl hl.1 rfl (Nat.le_of_ble_eq_true rfl) d_Model_add_271 ⟨Nat.le_of_ble_eq_true rfl, Nat.le_of_ble_eq_true rfl⟩ (fun v36 L36 κ36 H locs hp36 hM hS => ?_)
                            obtain ⟨rfl, rfl, hV36, hk36⟩ := hp36
                            exact mw_iret hx hb hr hM hS hlocks d_Model_add_274 (by rw [show mAdd u x k v n m1 S = ((mIns u x (mWl v 4 (mHead x k n (mLoad u S)))).1, (mIns u x (mWl v 4 (mHead x k n (mLoad u S)))).2) by first | (exfalso; omega) | (unfold mAdd; rw [if_neg (by omega), if_neg (zne2 c14), if_neg (zne2 (by assumption))]; unfold mAdd2; rw [if_neg hwhy, show mAddV k v n m1 (mHead x k n (mLoad u S)) = (mWl v 4 (mHead x k n (mLoad u S))) by unfold mAddV; (first | (exfalso; omega) | (repeat (first | rw [if_pos (by first | assumption | omega)] | rw [if_neg (by first | assumption | exact zne (by assumption) | omega)])))])]; exact ⟨rfl, rfl, hV36, (fun r h => by rw [hk36 r (by omega), hk34 r (by omega), hk27 r (by omega), hk13 r (by omega)])⟩)
                        · refine lv_iload_n hx hb d_Model_add_153 rfl (lv_at hl 4 rfl) ?_
                          refine lv_bipush (v := iI (18)) hx hb d_Model_add_154 (by decide) ?_
                          refine ia_icmp_ne (a := k) (b := 18) (tgt := 180) hx hb d_Model_add_156 (by decide) (by omega) (by omega) (fun c37 => ?_) (fun c37 => ?_)
                          · refine lv_iload_n hx hb d_Model_add_180 rfl (lv_at hl 4 rfl) ?_
                            refine lv_bipush (v := iI (8)) hx hb d_Model_add_181 (by decide) ?_
                            refine ia_icmp_ne (a := k) (b := 8) (tgt := 196) hx hb d_Model_add_183 (by decide) (by omega) (by omega) (fun c38 => ?_) (fun c38 => ?_)
                            · refine lv_iload_n hx hb d_Model_add_196 rfl (lv_at hl 4 rfl) ?_
                              refine lv_iconst (v := iI (2)) hx hb d_Model_add_197 rfl ?_
                              refine ia_icmp_ne (a := k) (b := 2) (tgt := 249) hx hb d_Model_add_198 (by decide) (by omega) (by omega) (fun c39 => ?_) (fun c39 => ?_)
                              · refine lv_iload_n hx hb d_Model_add_249 rfl (lv_at hl 4 rfl) ?_
                                refine lv_bipush (v := iI (10)) hx hb d_Model_add_250 (by decide) ?_
                                refine ia_icmp_eq (a := k) (b := 10) (tgt := 268) hx hb d_Model_add_252 (by decide) (by omega) (by omega) (fun c40 => ?_) (fun c40 => ?_)
                                · have hkp : mKp (mLoad u S) (mHead x k n (mLoad u S)) := by refine mKp_t (mHead_k (x := x) (k := k) (n := n) (S := mLoad u S) (by omega)).1 ?_; first | exact mKp_r | exact (mWl_k (by omega)).1 | exact mWr_k | exact mKp_t hkw mWr_k | exact mKp_t (mWl_k (by omega)).1 mWr_k
                                  have hf3 := hkp.2 3 (by decide)
                                  refine lv_aload_n hx hb d_Model_add_268 rfl (lv_at hl 1 rfl) ?_
                                  refine lv_iload_n hx hb d_Model_add_269 rfl (lv_at hl 2 rfl) ?_
                                  refine lv_iload_n hx hb d_Model_add_270 rfl (lv_at hl 3 rfl) ?_
                                  refine mw_callV (i := 40) (As := [.int (iI u), .int (iI x)]) (rest := []) ⟨hx, hb, hml, hown, hts⟩ hK hM hS rfl hV27.1 rfl (c_Model_insert l D g lo L κ27 (mHead x k n (mLoad u S)) hV27 u x (mSlot_iff.mp hyu) (by rw [hkp.2 3 (by decide)]; omega) (mTb_kt hT (mKt_p hkp)) (mEn_kp hE hkp) (by omega)) (cwV 2 hts (gV m_781 m_783 m_42 m_58 m_784) rfl rfl rfl (by decide +kernel) ⟨Nat.le_of_ble_eq_true rfl, Nat.le_of_ble_eq_true rfl⟩) rfl hl.1 rfl (Nat.le_of_ble_eq_true rfl) d_Model_add_271 ⟨Nat.le_of_ble_eq_true rfl, Nat.le_of_ble_eq_true rfl⟩ (fun v41 L41 κ41 H locs hp41 hM hS => ?_)
                                  obtain ⟨rfl, rfl, hV41, hk41⟩ := hp41
                                  exact mw_iret hx hb hr hM hS hlocks d_Model_add_274 (by rw [show mAdd u x k v n m1 S = ((mIns u x (mHead x k n (mLoad u S))).1, (mIns u x (mHead x k n (mLoad u S))).2) by first | (exfalso; omega) | (unfold mAdd; rw [if_neg (by omega), if_neg (zne2 c14), if_neg (zne2 (by assumption))]; unfold mAdd2; rw [if_neg hwhy, show mAddV k v n m1 (mHead x k n (mLoad u S)) = (mHead x k n (mLoad u S)) by unfold mAddV; (first | (exfalso; omega) | (repeat (first | rw [if_pos (by first | assumption | omega)] | rw [if_neg (by first | assumption | exact zne (by assumption) | omega)])))])]; exact ⟨rfl, rfl, hV41, (fun r h => by rw [hk41 r (by omega), hk27 r (by omega), hk13 r (by omega)])⟩)
                                · refine lv_aload_n hx hb d_Model_add_255 rfl (lv_at hl 1 rfl) ?_
                                  refine lv_ldc2 (v := 5) hx hb hown (hts _ m_646) d_Model_add_256 ?_
                                  refine W.eq (g2 := F0 m 259 ls (.long (lI 5) :: .ref (L 40) :: [])) (by rfl) ?_
                                  refine lv_iconst (v := iI (4)) hx hb d_Model_add_259 rfl ?_
                                  refine mw_callV (i := 40) (As := [.long (lI 5), .int (iI 4)]) (rest := []) ⟨hx, hb, hml, hown, hts⟩ hK hM hS rfl hV27.1 rfl (c_Model_writeLow l D g lo L κ27 (mHead x k n (mLoad u S)) hV27 5 4 (by omega) (by omega) (by omega)) (cwV 2 hts (gV m_776 m_778 m_41 m_58 m_779) rfl rfl rfl (by decide +kernel) ⟨Nat.le_of_ble_eq_true rfl, Nat.le_of_ble_eq_true rfl⟩) rfl hl.1 rfl (Nat.le_of_ble_eq_true rfl) d_Model_add_260 ⟨Nat.le_of_ble_eq_true rfl, Nat.le_of_ble_eq_true rfl⟩ (fun v42 L42 κ42 H locs hp42 hM hS => ?_)
                                  obtain ⟨rfl, rfl, hV42, hk42⟩ := hp42
                                  have r43 := (mWl_k (v := 5) (n := 4) (S := mHead x k n (mLoad u S)) (by omega)).2
                                  refine lv_aload_n hx hb d_Model_add_263 rfl (lv_at hl 1 rfl) ?_
                                  refine lv_iconst (v := iI (0)) hx hb d_Model_add_264 rfl ?_
                                  refine mw_callV (i := 40) (As := [.int (iI 0)]) (rest := []) ⟨hx, hb, hml, hown, hts⟩ hK hM hS rfl hV42.1 rfl (c_Model_write l D g lo L κ42 (mWl 5 4 (mHead x k n (mLoad u S))) hV42 0 (by omega) (by omega)) (cwV 1 hts (gV m_772 m_774 m_40 m_58 m_775) rfl rfl rfl (by decide +kernel) ⟨Nat.le_of_ble_eq_true rfl, Nat.le_of_ble_eq_true rfl⟩) rfl hl.1 rfl (Nat.le_of_ble_eq_true rfl) d_Model_add_265 ⟨Nat.le_of_ble_eq_true rfl, Nat.le_of_ble_eq_true rfl⟩ (fun v44 L44 κ44 H locs hp44 hM hS => ?_)
                                  obtain ⟨rfl, rfl, hV44, hk44⟩ := hp44
                                  have r45 := mWr_p (b := 0) (S := mWl 5 4 (mHead x k n (mLoad u S)))
                                  have hkp : mKp (mLoad u S) (mWr 0 (mWl 5 4 (mHead x k n (mLoad u S)))) := by refine mKp_t (mHead_k (x := x) (k := k) (n := n) (S := mLoad u S) (by omega)).1 ?_; first | exact mKp_r | exact (mWl_k (by omega)).1 | exact mWr_k | exact mKp_t hkw mWr_k | exact mKp_t (mWl_k (by omega)).1 mWr_k
                                  have hf3 := hkp.2 3 (by decide)
                                  refine lv_aload_n hx hb d_Model_add_268 rfl (lv_at hl 1 rfl) ?_
                                  refine lv_iload_n hx hb d_Model_add_269 rfl (lv_at hl 2 rfl) ?_
                                  refine lv_iload_n hx hb d_Model_add_270 rfl (lv_at hl 3 rfl) ?_
                                  refine mw_callV (i := 40) (As := [.int (iI u), .int (iI x)]) (rest := []) ⟨hx, hb, hml, hown, hts⟩ hK hM hS rfl hV44.1 rfl (c_Model_insert l D g lo L κ44 (mWr 0 (mWl 5 4 (mHead x k n (mLoad u S)))) hV44 u x (mSlot_iff.mp hyu) (by rw [hkp.2 3 (by decide)]; omega) (mTb_kt hT (mKt_p hkp)) (mEn_kp hE hkp) (by omega)) (cwV 2 hts (gV m_781 m_783 m_42 m_58 m_784) rfl rfl rfl (by decide +kernel) ⟨Nat.le_of_ble_eq_true rfl, Nat.le_of_ble_eq_true rfl⟩) rfl hl.1 rfl (Nat.le_of_ble_eq_true rfl) d_Model_add_271 ⟨Nat.le_of_ble_eq_true rfl, Nat.le_of_ble_eq_true rfl⟩ (fun v46 L46 κ46 H locs hp46 hM hS => ?_)
                                  obtain ⟨rfl, rfl, hV46, hk46⟩ := hp46
                                  exact mw_iret hx hb hr hM hS hlocks d_Model_add_274 (by rw [show mAdd u x k v n m1 S = ((mIns u x (mWr 0 (mWl 5 4 (mHead x k n (mLoad u S))))).1, (mIns u x (mWr 0 (mWl 5 4 (mHead x k n (mLoad u S))))).2) by first | (exfalso; omega) | (unfold mAdd; rw [if_neg (by omega), if_neg (zne2 c14), if_neg (zne2 (by assumption))]; unfold mAdd2; rw [if_neg hwhy, show mAddV k v n m1 (mHead x k n (mLoad u S)) = (mWr 0 (mWl 5 4 (mHead x k n (mLoad u S)))) by unfold mAddV; (first | (exfalso; omega) | (repeat (first | rw [if_pos (by first | assumption | omega)] | rw [if_neg (by first | assumption | exact zne (by assumption) | omega)])))])]; exact ⟨rfl, rfl, hV46, (fun r h => by rw [hk46 r (by omega), hk44 r (by omega), hk42 r (by omega), hk27 r (by omega), hk13 r (by omega)])⟩)
                              · refine lv_aload_n hx hb d_Model_add_201 rfl (lv_at hl 1 rfl) ?_
                                refine lv_iload hx hb d_Model_add_202 (lv_at hl 7 rfl) ?_
                                refine ia_i2l hx hb (by omega) d_Model_add_204 ?_
                                refine lv_lconst (v := lI (1)) hx hb d_Model_add_205 (by decide) ?_
                                refine ia_ladd hx hb d_Model_add_206 ?_
                                refine lv_iconst (v := iI (4)) hx hb d_Model_add_207 rfl ?_
                                refine mw_callV (i := 40) (As := [.long (lI (m1 + 1)), .int (iI 4)]) (rest := []) ⟨hx, hb, hml, hown, hts⟩ hK hM hS rfl hV27.1 rfl (c_Model_writeLow l D g lo L κ27 (mHead x k n (mLoad u S)) hV27 (m1 + 1) 4 (by omega) (by omega) (by omega)) (cwV 2 hts (gV m_776 m_778 m_41 m_58 m_779) rfl rfl rfl (by decide +kernel) ⟨Nat.le_of_ble_eq_true rfl, Nat.le_of_ble_eq_true rfl⟩) rfl hl.1 rfl (Nat.le_of_ble_eq_true rfl) d_Model_add_208 ⟨Nat.le_of_ble_eq_true rfl, Nat.le_of_ble_eq_true rfl⟩ (fun v47 L47 κ47 H locs hp47 hM hS => ?_)
                                obtain ⟨rfl, rfl, hV47, hk47⟩ := hp47
                                have r48 := (mWl_k (v := m1 + 1) (n := 4) (S := mHead x k n (mLoad u S)) (by omega)).2
                                refine lv_iconst (v := iI (0)) hx hb d_Model_add_211 rfl ?_
                                refine lv_istore (lv' := [(9, .int (iI 0)), (8, .int (iI 0)), (0, .ref (L 40)), (1, .int (iI u)), (2, .int (iI x)), (3, .int (iI k)), (4, .long (lI v)), (6, .int (iI n)), (7, .int (iI m1))]) hx hb d_Model_add_212 hl (by decide) rfl (fun ls hl => ?_)
                                exact loop214 _ 0 (mWl (m1 + 1) 4 (mHead x k n (mLoad u S))) κ47 (Nat.lt_succ_self _) hV47 (fun r h => by rw [hk47 r (by omega), hk27 r (by omega), hk13 r (by omega)]) (by omega) ⟨c14, by omega, by omega⟩ hbx1 hwhy (mWl_k (by omega)).1 (by omega) rfl _ _ ls hM hS (lv_sub hl [0, 2, 3, 4, 5, 6, 7, 8] rfl)
                            · have hv81 := hv8 (by omega)
                              refine lv_aload_n hx hb d_Model_add_186 rfl (lv_at hl 1 rfl) ?_
                              refine lv_lload hx hb d_Model_add_187 (lv_at hl 5 rfl) ?_
                              refine ia_l2i hx hb d_Model_add_189 ?_
                              refine mw_callV (i := 40) (As := [.int (iI v)]) (rest := []) ⟨hx, hb, hml, hown, hts⟩ hK hM hS rfl hV27.1 rfl (c_Model_write l D g lo L κ27 (mHead x k n (mLoad u S)) hV27 v (by omega) (by omega)) (cwV 1 hts (gV m_772 m_774 m_40 m_58 m_775) rfl rfl rfl (by decide +kernel) ⟨Nat.le_of_ble_eq_true rfl, Nat.le_of_ble_eq_true rfl⟩) rfl hl.1 rfl (Nat.le_of_ble_eq_true rfl) d_Model_add_190 ⟨Nat.le_of_ble_eq_true rfl, Nat.le_of_ble_eq_true rfl⟩ (fun v49 L49 κ49 H locs hp49 hM hS => ?_)
                              obtain ⟨rfl, rfl, hV49, hk49⟩ := hp49
                              have r50 := mWr_p (b := v) (S := mHead x k n (mLoad u S))
                              refine lv_goto (tgt := 268) hx hb d_Model_add_193 (by decide) ?_
                              have hkp : mKp (mLoad u S) (mWr v (mHead x k n (mLoad u S))) := by refine mKp_t (mHead_k (x := x) (k := k) (n := n) (S := mLoad u S) (by omega)).1 ?_; first | exact mKp_r | exact (mWl_k (by omega)).1 | exact mWr_k | exact mKp_t hkw mWr_k | exact mKp_t (mWl_k (by omega)).1 mWr_k
                              have hf3 := hkp.2 3 (by decide)
                              refine lv_aload_n hx hb d_Model_add_268 rfl (lv_at hl 1 rfl) ?_
                              refine lv_iload_n hx hb d_Model_add_269 rfl (lv_at hl 2 rfl) ?_
                              refine lv_iload_n hx hb d_Model_add_270 rfl (lv_at hl 3 rfl) ?_
                              refine mw_callV (i := 40) (As := [.int (iI u), .int (iI x)]) (rest := []) ⟨hx, hb, hml, hown, hts⟩ hK hM hS rfl hV49.1 rfl (c_Model_insert l D g lo L κ49 (mWr v (mHead x k n (mLoad u S))) hV49 u x (mSlot_iff.mp hyu) (by rw [hkp.2 3 (by decide)]; omega) (mTb_kt hT (mKt_p hkp)) (mEn_kp hE hkp) (by omega)) (cwV 2 hts (gV m_781 m_783 m_42 m_58 m_784) rfl rfl rfl (by decide +kernel) ⟨Nat.le_of_ble_eq_true rfl, Nat.le_of_ble_eq_true rfl⟩) rfl hl.1 rfl (Nat.le_of_ble_eq_true rfl) d_Model_add_271 ⟨Nat.le_of_ble_eq_true rfl, Nat.le_of_ble_eq_true rfl⟩ (fun v51 L51 κ51 H locs hp51 hM hS => ?_)
                              obtain ⟨rfl, rfl, hV51, hk51⟩ := hp51
                              exact mw_iret hx hb hr hM hS hlocks d_Model_add_274 (by rw [show mAdd u x k v n m1 S = ((mIns u x (mWr v (mHead x k n (mLoad u S)))).1, (mIns u x (mWr v (mHead x k n (mLoad u S)))).2) by first | (exfalso; omega) | (unfold mAdd; rw [if_neg (by omega), if_neg (zne2 c14), if_neg (zne2 (by assumption))]; unfold mAdd2; rw [if_neg hwhy, show mAddV k v n m1 (mHead x k n (mLoad u S)) = (mWr v (mHead x k n (mLoad u S))) by unfold mAddV; (first | (exfalso; omega) | (repeat (first | rw [if_pos (by first | assumption | omega)] | rw [if_neg (by first | assumption | exact zne (by assumption) | omega)])))])]; exact ⟨rfl, rfl, hV51, (fun r h => by rw [hk51 r (by omega), hk49 r (by omega), hk27 r (by omega), hk13 r (by omega)])⟩)
                          · refine lv_aload_n hx hb d_Model_add_159 rfl (lv_at hl 1 rfl) ?_
                            refine lv_lload hx hb d_Model_add_160 (lv_at hl 5 rfl) ?_
                            refine lv_iload_n hx hb d_Model_add_162 rfl (lv_at hl 4 rfl) ?_
                            refine lv_bipush (v := iI (16)) hx hb d_Model_add_163 (by decide) ?_
                            refine ia_icmp_ne (a := k) (b := 16) (tgt := 172) hx hb d_Model_add_165 (by decide) (by omega) (by omega) (fun c52 => ?_) (fun c52 => ?_)
                            · refine lv_bipush (v := iI (8)) hx hb d_Model_add_172 (by decide) ?_
                              refine mw_callV (i := 40) (As := [.long (lI v), .int (iI 8)]) (rest := []) ⟨hx, hb, hml, hown, hts⟩ hK hM hS rfl hV27.1 rfl (c_Model_writeLow l D g lo L κ27 (mHead x k n (mLoad u S)) hV27 v 8 (by omega) (by omega) (by omega)) (cwV 2 hts (gV m_776 m_778 m_41 m_58 m_779) rfl rfl rfl (by decide +kernel) ⟨Nat.le_of_ble_eq_true rfl, Nat.le_of_ble_eq_true rfl⟩) rfl hl.1 rfl (Nat.le_of_ble_eq_true rfl) d_Model_add_174 ⟨Nat.le_of_ble_eq_true rfl, Nat.le_of_ble_eq_true rfl⟩ (fun v53 L53 κ53 H locs hp53 hM hS => ?_)
                              obtain ⟨rfl, rfl, hV53, hk53⟩ := hp53
                              have r54 := (mWl_k (v := v) (n := 8) (S := mHead x k n (mLoad u S)) (by omega)).2
                              refine lv_goto (tgt := 268) hx hb d_Model_add_177 (by decide) ?_
                              have hkp : mKp (mLoad u S) (mWl v 8 (mHead x k n (mLoad u S))) := by refine mKp_t (mHead_k (x := x) (k := k) (n := n) (S := mLoad u S) (by omega)).1 ?_; first | exact mKp_r | exact (mWl_k (by omega)).1 | exact mWr_k | exact mKp_t hkw mWr_k | exact mKp_t (mWl_k (by omega)).1 mWr_k
                              have hf3 := hkp.2 3 (by decide)
                              refine lv_aload_n hx hb d_Model_add_268 rfl (lv_at hl 1 rfl) ?_
                              refine lv_iload_n hx hb d_Model_add_269 rfl (lv_at hl 2 rfl) ?_
                              refine lv_iload_n hx hb d_Model_add_270 rfl (lv_at hl 3 rfl) ?_
                              refine mw_callV (i := 40) (As := [.int (iI u), .int (iI x)]) (rest := []) ⟨hx, hb, hml, hown, hts⟩ hK hM hS rfl hV53.1 rfl (c_Model_insert l D g lo L κ53 (mWl v 8 (mHead x k n (mLoad u S))) hV53 u x (mSlot_iff.mp hyu) (by rw [hkp.2 3 (by decide)]; omega) (mTb_kt hT (mKt_p hkp)) (mEn_kp hE hkp) (by omega)) (cwV 2 hts (gV m_781 m_783 m_42 m_58 m_784) rfl rfl rfl (by decide +kernel) ⟨Nat.le_of_ble_eq_true rfl, Nat.le_of_ble_eq_true rfl⟩) rfl hl.1 rfl (Nat.le_of_ble_eq_true rfl) d_Model_add_271 ⟨Nat.le_of_ble_eq_true rfl, Nat.le_of_ble_eq_true rfl⟩ (fun v55 L55 κ55 H locs hp55 hM hS => ?_)
                              obtain ⟨rfl, rfl, hV55, hk55⟩ := hp55
                              exact mw_iret hx hb hr hM hS hlocks d_Model_add_274 (by rw [show mAdd u x k v n m1 S = ((mIns u x (mWl v 8 (mHead x k n (mLoad u S)))).1, (mIns u x (mWl v 8 (mHead x k n (mLoad u S)))).2) by first | (exfalso; omega) | (unfold mAdd; rw [if_neg (by omega), if_neg (zne2 c14), if_neg (zne2 (by assumption))]; unfold mAdd2; rw [if_neg hwhy, show mAddV k v n m1 (mHead x k n (mLoad u S)) = (mWl v 8 (mHead x k n (mLoad u S))) by unfold mAddV; (first | (exfalso; omega) | (repeat (first | rw [if_pos (by first | assumption | omega)] | rw [if_neg (by first | assumption | exact zne (by assumption) | omega)])))])]; exact ⟨rfl, rfl, hV55, (fun r h => by rw [hk55 r (by omega), hk53 r (by omega), hk27 r (by omega), hk13 r (by omega)])⟩)
                            · refine lv_iconst (v := iI (4)) hx hb d_Model_add_168 rfl ?_
                              refine lv_goto (tgt := 174) hx hb d_Model_add_169 (by decide) ?_
                              refine mw_callV (i := 40) (As := [.long (lI v), .int (iI 4)]) (rest := []) ⟨hx, hb, hml, hown, hts⟩ hK hM hS rfl hV27.1 rfl (c_Model_writeLow l D g lo L κ27 (mHead x k n (mLoad u S)) hV27 v 4 (by omega) (by omega) (by omega)) (cwV 2 hts (gV m_776 m_778 m_41 m_58 m_779) rfl rfl rfl (by decide +kernel) ⟨Nat.le_of_ble_eq_true rfl, Nat.le_of_ble_eq_true rfl⟩) rfl hl.1 rfl (Nat.le_of_ble_eq_true rfl) d_Model_add_174 ⟨Nat.le_of_ble_eq_true rfl, Nat.le_of_ble_eq_true rfl⟩ (fun v56 L56 κ56 H locs hp56 hM hS => ?_)
                              obtain ⟨rfl, rfl, hV56, hk56⟩ := hp56
                              have r57 := (mWl_k (v := v) (n := 4) (S := mHead x k n (mLoad u S)) (by omega)).2
                              refine lv_goto (tgt := 268) hx hb d_Model_add_177 (by decide) ?_
                              have hkp : mKp (mLoad u S) (mWl v 4 (mHead x k n (mLoad u S))) := by refine mKp_t (mHead_k (x := x) (k := k) (n := n) (S := mLoad u S) (by omega)).1 ?_; first | exact mKp_r | exact (mWl_k (by omega)).1 | exact mWr_k | exact mKp_t hkw mWr_k | exact mKp_t (mWl_k (by omega)).1 mWr_k
                              have hf3 := hkp.2 3 (by decide)
                              refine lv_aload_n hx hb d_Model_add_268 rfl (lv_at hl 1 rfl) ?_
                              refine lv_iload_n hx hb d_Model_add_269 rfl (lv_at hl 2 rfl) ?_
                              refine lv_iload_n hx hb d_Model_add_270 rfl (lv_at hl 3 rfl) ?_
                              refine mw_callV (i := 40) (As := [.int (iI u), .int (iI x)]) (rest := []) ⟨hx, hb, hml, hown, hts⟩ hK hM hS rfl hV56.1 rfl (c_Model_insert l D g lo L κ56 (mWl v 4 (mHead x k n (mLoad u S))) hV56 u x (mSlot_iff.mp hyu) (by rw [hkp.2 3 (by decide)]; omega) (mTb_kt hT (mKt_p hkp)) (mEn_kp hE hkp) (by omega)) (cwV 2 hts (gV m_781 m_783 m_42 m_58 m_784) rfl rfl rfl (by decide +kernel) ⟨Nat.le_of_ble_eq_true rfl, Nat.le_of_ble_eq_true rfl⟩) rfl hl.1 rfl (Nat.le_of_ble_eq_true rfl) d_Model_add_271 ⟨Nat.le_of_ble_eq_true rfl, Nat.le_of_ble_eq_true rfl⟩ (fun v58 L58 κ58 H locs hp58 hM hS => ?_)
                              obtain ⟨rfl, rfl, hV58, hk58⟩ := hp58
                              exact mw_iret hx hb hr hM hS hlocks d_Model_add_274 (by rw [show mAdd u x k v n m1 S = ((mIns u x (mWl v 4 (mHead x k n (mLoad u S)))).1, (mIns u x (mWl v 4 (mHead x k n (mLoad u S)))).2) by first | (exfalso; omega) | (unfold mAdd; rw [if_neg (by omega), if_neg (zne2 c14), if_neg (zne2 (by assumption))]; unfold mAdd2; rw [if_neg hwhy, show mAddV k v n m1 (mHead x k n (mLoad u S)) = (mWl v 4 (mHead x k n (mLoad u S))) by unfold mAddV; (first | (exfalso; omega) | (repeat (first | rw [if_pos (by first | assumption | omega)] | rw [if_neg (by first | assumption | exact zne (by assumption) | omega)])))])]; exact ⟨rfl, rfl, hV58, (fun r h => by rw [hk58 r (by omega), hk56 r (by omega), hk27 r (by omega), hk13 r (by omega)])⟩)
                      · exact absurd (by decide) c26
                    · refine lv_bipush (v := iI (-4)) hx hb d_Model_add_118 (by decide) ?_
                      refine lv_goto (tgt := 124) hx hb d_Model_add_120 (by decide) ?_
                      refine lv_istore (lv' := [(8, .int (iI (-4))), (0, .ref (L 40)), (1, .int (iI u)), (2, .int (iI x)), (3, .int (iI k)), (4, .long (lI v)), (6, .int (iI n)), (7, .int (iI m1))]) hx hb d_Model_add_124 hl (by decide) rfl (fun ls hl => ?_)
                      refine lv_iload hx hb d_Model_add_126 (lv_at hl 0 rfl) ?_
                      refine ia_if_ge (a := -4) (tgt := 139) hx hb d_Model_add_128 (by decide) (by omega) (fun c59 => ?_) (fun c59 => ?_)
                      · exact absurd c59 (by decide)
                      · refine lv_aload_n hx hb d_Model_add_131 rfl (lv_at hl 1 rfl) ?_
                        refine lv_iconst (v := iI (0)) hx hb d_Model_add_132 rfl ?_
                        refine mw_put (ci := 4) (i := 40) (v := .int (iI 0)) (C := R_Model) (T := T_Model) (N := 23) hx hb hts in_Model ty_Model ty_Model_ok nm_Model hown hK hM hS hV13.1 rfl rfl 2 (by decide) (hts _ m_547) rfl (ty_Model_ok 2 (by decide)) rfl rfl (Nat.le_of_ble_eq_true rfl) d_Model_add_133 (fun κ60 H locs e60 hk60 hM hS => ?_)
                        have e60 : κ60 40 = some (.inr (4, [.int (iI ((mLoad u S).f 8)), .ref (L 41), .int (iI 0), .int (iI ((mLoad u S).f 1)), .ref (L 42), .ref (L 43), .ref (L 44), .int (iI ((mLoad u S).f 2)), .int (iI ((mLoad u S).f 3)), .ref (L 45), .ref (L 46), .ref (L 47), .ref (L 48), .ref (L 49), .int (iI ((mLoad u S).f 4)), .int (iI ((mLoad u S).f 5)), .int (iI ((mLoad u S).f 6)), .ref (L 50), .ref (L 51), .ref (L 52), .ref (L 53), .ref (L 54), .int (iI ((mLoad u S).f 7))])) := e60
                        have hV60 : mds g L κ60 ((mLoad u S).pf 0 0) := mds_pf hV13 e60 hk60 (by first | omega | (split <;> omega))
                        refine lv_iload hx hb d_Model_add_136 (lv_at hl 0 rfl) ?_
                        exact mw_iret hx hb hr hM hS hlocks d_Model_add_138 (by rw [show mAdd u x k v n m1 S = (-4, (mLoad u S).pf 0 0) by first | (exfalso; omega) | (unfold mAdd; rw [if_neg (by omega), if_neg (zne2 c14), if_neg (zne2 (by assumption))]; unfold mAdd2; rw [show mAddWhy x k v n m1 (mLoad u S) = -4 by unfold mAddWhy; rw [if_neg (zne2 (by assumption)), if_neg (by rintro (z | z); exact absurd z (zne2 (by assumption)); omega), if_pos (by omega)], if_pos (by decide)])]; exact ⟨rfl, rfl, hV60, (fun r h => by rw [hk60 r (by omega), hk13 r (by omega)])⟩)
                  · refine lv_iload_n hx hb d_Model_add_102 rfl (lv_at hl 3 rfl) ?_
                    refine lv_iconst (v := iI (4)) hx hb d_Model_add_103 rfl ?_
                    refine ia_icmp_ne (a := k) (b := 4) (tgt := 123) hx hb d_Model_add_104 (by decide) (by omega) (by omega) (fun c61 => ?_) (fun c61 => ?_)
                    · refine lv_iconst (v := iI (0)) hx hb d_Model_add_123 rfl ?_
                      refine lv_istore (lv' := [(8, .int (iI 0)), (0, .ref (L 40)), (1, .int (iI u)), (2, .int (iI x)), (3, .int (iI k)), (4, .long (lI v)), (6, .int (iI n)), (7, .int (iI m1))]) hx hb d_Model_add_124 hl (by decide) rfl (fun ls hl => ?_)
                      refine lv_iload hx hb d_Model_add_126 (lv_at hl 0 rfl) ?_
                      refine ia_if_ge (a := 0) (tgt := 139) hx hb d_Model_add_128 (by decide) (by omega) (fun c62 => ?_) (fun c62 => ?_)
                      · have hwhy : ¬ mAddWhy x k v n m1 (mLoad u S) < 0 := by first | (exfalso; omega) | (unfold mAddWhy; rw [if_neg (zne2 (by assumption)), if_neg (by rintro (z | z); exact absurd z (zne2 (by assumption)); omega), if_neg (by omega)]; decide)
                        have hkb := (decide_eq_true_iff (p := k = 2 ∨ k = 10 ∨ k = 3 ∨ k = 4 ∨ k = 8 ∨ k = 16 ∨ k = 18)).mp (mCan_k (x := x) (k := k) (v := v) (n := n) (m := m1) (S := mLoad u S) (by assumption))
                        have hv8 : k = 8 → v = 0 ∨ v = 1 := by intro z; subst z; exact mCan_8 (x := x) (n := n) (m := m1) (S := mLoad u S) (by assumption)
                        have hbx1 : mBox x (mLoad u S) = true := by assumption
                        refine lv_aload_n hx hb d_Model_add_139 rfl (lv_at hl 1 rfl) ?_
                        refine lv_iload_n hx hb d_Model_add_140 rfl (lv_at hl 3 rfl) ?_
                        refine lv_iload_n hx hb d_Model_add_141 rfl (lv_at hl 4 rfl) ?_
                        refine lv_iload hx hb d_Model_add_142 (lv_at hl 6 rfl) ?_
                        refine mw_callV (i := 40) (As := [.int (iI x), .int (iI k), .int (iI n)]) (rest := []) ⟨hx, hb, hml, hown, hts⟩ hK hM hS rfl hV13.1 rfl (c_Model_writeHead l D g lo L κ13 (mLoad u S) hV13 x k n (by omega) (by omega) (by omega) hT) (cwV 3 hts (gV m_768 m_770 m_39 m_58 m_771) rfl rfl rfl (by decide +kernel) ⟨Nat.le_of_ble_eq_true rfl, Nat.le_of_ble_eq_true rfl⟩) rfl hl.1 rfl (Nat.le_of_ble_eq_true rfl) d_Model_add_144 ⟨Nat.le_of_ble_eq_true rfl, Nat.le_of_ble_eq_true rfl⟩ (fun v63 L63 κ63 H locs hp63 hM hS => ?_)
                        obtain ⟨rfl, rfl, hV63, hk63⟩ := hp63
                        have r64 := (mHead_k (x := x) (k := k) (n := n) (S := mLoad u S) (by omega)).2
                        refine lv_iload_n hx hb d_Model_add_147 rfl (lv_at hl 4 rfl) ?_
                        refine lv_bipush (v := iI (16)) hx hb d_Model_add_148 (by decide) ?_
                        refine ia_icmp_eq (a := k) (b := 16) (tgt := 159) hx hb d_Model_add_150 (by decide) (by omega) (by omega) (fun c65 => ?_) (fun c65 => ?_)
                        · refine lv_aload_n hx hb d_Model_add_159 rfl (lv_at hl 1 rfl) ?_
                          refine lv_lload hx hb d_Model_add_160 (lv_at hl 5 rfl) ?_
                          refine lv_iload_n hx hb d_Model_add_162 rfl (lv_at hl 4 rfl) ?_
                          refine lv_bipush (v := iI (16)) hx hb d_Model_add_163 (by decide) ?_
                          refine ia_icmp_ne (a := k) (b := 16) (tgt := 172) hx hb d_Model_add_165 (by decide) (by omega) (by omega) (fun c66 => ?_) (fun c66 => ?_)
                          · refine lv_bipush (v := iI (8)) hx hb d_Model_add_172 (by decide) ?_
                            refine mw_callV (i := 40) (As := [.long (lI v), .int (iI 8)]) (rest := []) ⟨hx, hb, hml, hown, hts⟩ hK hM hS rfl hV63.1 rfl (c_Model_writeLow l D g lo L κ63 (mHead x k n (mLoad u S)) hV63 v 8 (by omega) (by omega) (by omega)) (cwV 2 hts (gV m_776 m_778 m_41 m_58 m_779) rfl rfl rfl (by decide +kernel) ⟨Nat.le_of_ble_eq_true rfl, Nat.le_of_ble_eq_true rfl⟩) rfl hl.1 rfl (Nat.le_of_ble_eq_true rfl) d_Model_add_174 ⟨Nat.le_of_ble_eq_true rfl, Nat.le_of_ble_eq_true rfl⟩ (fun v67 L67 κ67 H locs hp67 hM hS => ?_)
                            obtain ⟨rfl, rfl, hV67, hk67⟩ := hp67
                            have r68 := (mWl_k (v := v) (n := 8) (S := mHead x k n (mLoad u S)) (by omega)).2
                            refine lv_goto (tgt := 268) hx hb d_Model_add_177 (by decide) ?_
                            have hkp : mKp (mLoad u S) (mWl v 8 (mHead x k n (mLoad u S))) := by refine mKp_t (mHead_k (x := x) (k := k) (n := n) (S := mLoad u S) (by omega)).1 ?_; first | exact mKp_r | exact (mWl_k (by omega)).1 | exact mWr_k | exact mKp_t hkw mWr_k | exact mKp_t (mWl_k (by omega)).1 mWr_k
                            have hf3 := hkp.2 3 (by decide)
                            refine lv_aload_n hx hb d_Model_add_268 rfl (lv_at hl 1 rfl) ?_
                            refine lv_iload_n hx hb d_Model_add_269 rfl (lv_at hl 2 rfl) ?_
                            refine lv_iload_n hx hb d_Model_add_270 rfl (lv_at hl 3 rfl) ?_
                            refine mw_callV (i := 40) (As := [.int (iI u), .int (iI x)]) (rest := []) ⟨hx, hb, hml, hown, hts⟩ hK hM hS rfl hV67.1 rfl (c_Model_insert l D g lo L κ67 (mWl v 8 (mHead x k n (mLoad u S))) hV67 u x (mSlot_iff.mp hyu) (by rw [hkp.2 3 (by decide)]; omega) (mTb_kt hT (mKt_p hkp)) (mEn_kp hE hkp) (by omega)) (cwV 2 hts (gV m_781 m_783 m_42 m_58 m_784) rfl rfl rfl (by decide +kernel) ⟨Nat.le_of_ble_eq_true rfl, Nat.le_of_ble_eq_true rfl⟩) rfl hl.1 rfl (Nat.le_of_ble_eq_true rfl) d_Model_add_271 ⟨Nat.le_of_ble_eq_true rfl, Nat.le_of_ble_eq_true rfl⟩ (fun v69 L69 κ69 H locs hp69 hM hS => ?_)
                            obtain ⟨rfl, rfl, hV69, hk69⟩ := hp69
                            exact mw_iret hx hb hr hM hS hlocks d_Model_add_274 (by rw [show mAdd u x k v n m1 S = ((mIns u x (mWl v 8 (mHead x k n (mLoad u S)))).1, (mIns u x (mWl v 8 (mHead x k n (mLoad u S)))).2) by first | (exfalso; omega) | (unfold mAdd; rw [if_neg (by omega), if_neg (zne2 c14), if_neg (zne2 (by assumption))]; unfold mAdd2; rw [if_neg hwhy, show mAddV k v n m1 (mHead x k n (mLoad u S)) = (mWl v 8 (mHead x k n (mLoad u S))) by unfold mAddV; (first | (exfalso; omega) | (repeat (first | rw [if_pos (by first | assumption | omega)] | rw [if_neg (by first | assumption | exact zne (by assumption) | omega)])))])]; exact ⟨rfl, rfl, hV69, (fun r h => by rw [hk69 r (by omega), hk67 r (by omega), hk63 r (by omega), hk13 r (by omega)])⟩)
                          · refine lv_iconst (v := iI (4)) hx hb d_Model_add_168 rfl ?_
                            refine lv_goto (tgt := 174) hx hb d_Model_add_169 (by decide) ?_
                            refine mw_callV (i := 40) (As := [.long (lI v), .int (iI 4)]) (rest := []) ⟨hx, hb, hml, hown, hts⟩ hK hM hS rfl hV63.1 rfl (c_Model_writeLow l D g lo L κ63 (mHead x k n (mLoad u S)) hV63 v 4 (by omega) (by omega) (by omega)) (cwV 2 hts (gV m_776 m_778 m_41 m_58 m_779) rfl rfl rfl (by decide +kernel) ⟨Nat.le_of_ble_eq_true rfl, Nat.le_of_ble_eq_true rfl⟩) rfl hl.1 rfl (Nat.le_of_ble_eq_true rfl) d_Model_add_174 ⟨Nat.le_of_ble_eq_true rfl, Nat.le_of_ble_eq_true rfl⟩ (fun v70 L70 κ70 H locs hp70 hM hS => ?_)
                            obtain ⟨rfl, rfl, hV70, hk70⟩ := hp70
                            have r71 := (mWl_k (v := v) (n := 4) (S := mHead x k n (mLoad u S)) (by omega)).2
                            refine lv_goto (tgt := 268) hx hb d_Model_add_177 (by decide) ?_
                            have hkp : mKp (mLoad u S) (mWl v 4 (mHead x k n (mLoad u S))) := by refine mKp_t (mHead_k (x := x) (k := k) (n := n) (S := mLoad u S) (by omega)).1 ?_; first | exact mKp_r | exact (mWl_k (by omega)).1 | exact mWr_k | exact mKp_t hkw mWr_k | exact mKp_t (mWl_k (by omega)).1 mWr_k
                            have hf3 := hkp.2 3 (by decide)
                            refine lv_aload_n hx hb d_Model_add_268 rfl (lv_at hl 1 rfl) ?_
                            refine lv_iload_n hx hb d_Model_add_269 rfl (lv_at hl 2 rfl) ?_
                            refine lv_iload_n hx hb d_Model_add_270 rfl (lv_at hl 3 rfl) ?_
                            refine mw_callV (i := 40) (As := [.int (iI u), .int (iI x)]) (rest := []) ⟨hx, hb, hml, hown, hts⟩ hK hM hS rfl hV70.1 rfl (c_Model_insert l D g lo L κ70 (mWl v 4 (mHead x k n (mLoad u S))) hV70 u x (mSlot_iff.mp hyu) (by rw [hkp.2 3 (by decide)]; omega) (mTb_kt hT (mKt_p hkp)) (mEn_kp hE hkp) (by omega)) (cwV 2 hts (gV m_781 m_783 m_42 m_58 m_784) rfl rfl rfl (by decide +kernel) ⟨Nat.le_of_ble_eq_true rfl, Nat.le_of_ble_eq_true rfl⟩) rfl hl.1 rfl (Nat.le_of_ble_eq_true rfl) d_Model_add_271 ⟨Nat.le_of_ble_eq_true rfl, Nat.le_of_ble_eq_true rfl⟩ (fun v72 L72 κ72 H locs hp72 hM hS => ?_)
                            obtain ⟨rfl, rfl, hV72, hk72⟩ := hp72
                            exact mw_iret hx hb hr hM hS hlocks d_Model_add_274 (by rw [show mAdd u x k v n m1 S = ((mIns u x (mWl v 4 (mHead x k n (mLoad u S)))).1, (mIns u x (mWl v 4 (mHead x k n (mLoad u S)))).2) by first | (exfalso; omega) | (unfold mAdd; rw [if_neg (by omega), if_neg (zne2 c14), if_neg (zne2 (by assumption))]; unfold mAdd2; rw [if_neg hwhy, show mAddV k v n m1 (mHead x k n (mLoad u S)) = (mWl v 4 (mHead x k n (mLoad u S))) by unfold mAddV; (first | (exfalso; omega) | (repeat (first | rw [if_pos (by first | assumption | omega)] | rw [if_neg (by first | assumption | exact zne (by assumption) | omega)])))])]; exact ⟨rfl, rfl, hV72, (fun r h => by rw [hk72 r (by omega), hk70 r (by omega), hk63 r (by omega), hk13 r (by omega)])⟩)
                        · refine lv_iload_n hx hb d_Model_add_153 rfl (lv_at hl 4 rfl) ?_
                          refine lv_bipush (v := iI (18)) hx hb d_Model_add_154 (by decide) ?_
                          refine ia_icmp_ne (a := k) (b := 18) (tgt := 180) hx hb d_Model_add_156 (by decide) (by omega) (by omega) (fun c73 => ?_) (fun c73 => ?_)
                          · refine lv_iload_n hx hb d_Model_add_180 rfl (lv_at hl 4 rfl) ?_
                            refine lv_bipush (v := iI (8)) hx hb d_Model_add_181 (by decide) ?_
                            refine ia_icmp_ne (a := k) (b := 8) (tgt := 196) hx hb d_Model_add_183 (by decide) (by omega) (by omega) (fun c74 => ?_) (fun c74 => ?_)
                            · refine lv_iload_n hx hb d_Model_add_196 rfl (lv_at hl 4 rfl) ?_
                              refine lv_iconst (v := iI (2)) hx hb d_Model_add_197 rfl ?_
                              refine ia_icmp_ne (a := k) (b := 2) (tgt := 249) hx hb d_Model_add_198 (by decide) (by omega) (by omega) (fun c75 => ?_) (fun c75 => ?_)
                              · refine lv_iload_n hx hb d_Model_add_249 rfl (lv_at hl 4 rfl) ?_
                                refine lv_bipush (v := iI (10)) hx hb d_Model_add_250 (by decide) ?_
                                refine ia_icmp_eq (a := k) (b := 10) (tgt := 268) hx hb d_Model_add_252 (by decide) (by omega) (by omega) (fun c76 => ?_) (fun c76 => ?_)
                                · have hkp : mKp (mLoad u S) (mHead x k n (mLoad u S)) := by refine mKp_t (mHead_k (x := x) (k := k) (n := n) (S := mLoad u S) (by omega)).1 ?_; first | exact mKp_r | exact (mWl_k (by omega)).1 | exact mWr_k | exact mKp_t hkw mWr_k | exact mKp_t (mWl_k (by omega)).1 mWr_k
                                  have hf3 := hkp.2 3 (by decide)
                                  refine lv_aload_n hx hb d_Model_add_268 rfl (lv_at hl 1 rfl) ?_
                                  refine lv_iload_n hx hb d_Model_add_269 rfl (lv_at hl 2 rfl) ?_
                                  refine lv_iload_n hx hb d_Model_add_270 rfl (lv_at hl 3 rfl) ?_
                                  refine mw_callV (i := 40) (As := [.int (iI u), .int (iI x)]) (rest := []) ⟨hx, hb, hml, hown, hts⟩ hK hM hS rfl hV63.1 rfl (c_Model_insert l D g lo L κ63 (mHead x k n (mLoad u S)) hV63 u x (mSlot_iff.mp hyu) (by rw [hkp.2 3 (by decide)]; omega) (mTb_kt hT (mKt_p hkp)) (mEn_kp hE hkp) (by omega)) (cwV 2 hts (gV m_781 m_783 m_42 m_58 m_784) rfl rfl rfl (by decide +kernel) ⟨Nat.le_of_ble_eq_true rfl, Nat.le_of_ble_eq_true rfl⟩) rfl hl.1 rfl (Nat.le_of_ble_eq_true rfl) d_Model_add_271 ⟨Nat.le_of_ble_eq_true rfl, Nat.le_of_ble_eq_true rfl⟩ (fun v77 L77 κ77 H locs hp77 hM hS => ?_)
                                  obtain ⟨rfl, rfl, hV77, hk77⟩ := hp77
                                  exact mw_iret hx hb hr hM hS hlocks d_Model_add_274 (by rw [show mAdd u x k v n m1 S = ((mIns u x (mHead x k n (mLoad u S))).1, (mIns u x (mHead x k n (mLoad u S))).2) by first | (exfalso; omega) | (unfold mAdd; rw [if_neg (by omega), if_neg (zne2 c14), if_neg (zne2 (by assumption))]; unfold mAdd2; rw [if_neg hwhy, show mAddV k v n m1 (mHead x k n (mLoad u S)) = (mHead x k n (mLoad u S)) by unfold mAddV; (first | (exfalso; omega) | (repeat (first | rw [if_pos (by first | assumption | omega)] | rw [if_neg (by first | assumption | exact zne (by assumption) | omega)])))])]; exact ⟨rfl, rfl, hV77, (fun r h => by rw [hk77 r (by omega), hk63 r (by omega), hk13 r (by omega)])⟩)
                                · refine lv_aload_n hx hb d_Model_add_255 rfl (lv_at hl 1 rfl) ?_
                                  refine lv_ldc2 (v := 5) hx hb hown (hts _ m_646) d_Model_add_256 ?_
                                  refine W.eq (g2 := F0 m 259 ls (.long (lI 5) :: .ref (L 40) :: [])) (by rfl) ?_
                                  refine lv_iconst (v := iI (4)) hx hb d_Model_add_259 rfl ?_
                                  refine mw_callV (i := 40) (As := [.long (lI 5), .int (iI 4)]) (rest := []) ⟨hx, hb, hml, hown, hts⟩ hK hM hS rfl hV63.1 rfl (c_Model_writeLow l D g lo L κ63 (mHead x k n (mLoad u S)) hV63 5 4 (by omega) (by omega) (by omega)) (cwV 2 hts (gV m_776 m_778 m_41 m_58 m_779) rfl rfl rfl (by decide +kernel) ⟨Nat.le_of_ble_eq_true rfl, Nat.le_of_ble_eq_true rfl⟩) rfl hl.1 rfl (Nat.le_of_ble_eq_true rfl) d_Model_add_260 ⟨Nat.le_of_ble_eq_true rfl, Nat.le_of_ble_eq_true rfl⟩ (fun v78 L78 κ78 H locs hp78 hM hS => ?_)
                                  obtain ⟨rfl, rfl, hV78, hk78⟩ := hp78
                                  have r79 := (mWl_k (v := 5) (n := 4) (S := mHead x k n (mLoad u S)) (by omega)).2
                                  refine lv_aload_n hx hb d_Model_add_263 rfl (lv_at hl 1 rfl) ?_
                                  refine lv_iconst (v := iI (0)) hx hb d_Model_add_264 rfl ?_
                                  refine mw_callV (i := 40) (As := [.int (iI 0)]) (rest := []) ⟨hx, hb, hml, hown, hts⟩ hK hM hS rfl hV78.1 rfl (c_Model_write l D g lo L κ78 (mWl 5 4 (mHead x k n (mLoad u S))) hV78 0 (by omega) (by omega)) (cwV 1 hts (gV m_772 m_774 m_40 m_58 m_775) rfl rfl rfl (by decide +kernel) ⟨Nat.le_of_ble_eq_true rfl, Nat.le_of_ble_eq_true rfl⟩) rfl hl.1 rfl (Nat.le_of_ble_eq_true rfl) d_Model_add_265 ⟨Nat.le_of_ble_eq_true rfl, Nat.le_of_ble_eq_true rfl⟩ (fun v80 L80 κ80 H locs hp80 hM hS => ?_)
                                  obtain ⟨rfl, rfl, hV80, hk80⟩ := hp80
                                  have r81 := mWr_p (b := 0) (S := mWl 5 4 (mHead x k n (mLoad u S)))
                                  have hkp : mKp (mLoad u S) (mWr 0 (mWl 5 4 (mHead x k n (mLoad u S)))) := by refine mKp_t (mHead_k (x := x) (k := k) (n := n) (S := mLoad u S) (by omega)).1 ?_; first | exact mKp_r | exact (mWl_k (by omega)).1 | exact mWr_k | exact mKp_t hkw mWr_k | exact mKp_t (mWl_k (by omega)).1 mWr_k
                                  have hf3 := hkp.2 3 (by decide)
                                  refine lv_aload_n hx hb d_Model_add_268 rfl (lv_at hl 1 rfl) ?_
                                  refine lv_iload_n hx hb d_Model_add_269 rfl (lv_at hl 2 rfl) ?_
                                  refine lv_iload_n hx hb d_Model_add_270 rfl (lv_at hl 3 rfl) ?_
                                  refine mw_callV (i := 40) (As := [.int (iI u), .int (iI x)]) (rest := []) ⟨hx, hb, hml, hown, hts⟩ hK hM hS rfl hV80.1 rfl (c_Model_insert l D g lo L κ80 (mWr 0 (mWl 5 4 (mHead x k n (mLoad u S)))) hV80 u x (mSlot_iff.mp hyu) (by rw [hkp.2 3 (by decide)]; omega) (mTb_kt hT (mKt_p hkp)) (mEn_kp hE hkp) (by omega)) (cwV 2 hts (gV m_781 m_783 m_42 m_58 m_784) rfl rfl rfl (by decide +kernel) ⟨Nat.le_of_ble_eq_true rfl, Nat.le_of_ble_eq_true rfl⟩) rfl hl.1 rfl (Nat.le_of_ble_eq_true rfl) d_Model_add_271 ⟨Nat.le_of_ble_eq_true rfl, Nat.le_of_ble_eq_true rfl⟩ (fun v82 L82 κ82 H locs hp82 hM hS => ?_)
                                  obtain ⟨rfl, rfl, hV82, hk82⟩ := hp82
                                  exact mw_iret hx hb hr hM hS hlocks d_Model_add_274 (by rw [show mAdd u x k v n m1 S = ((mIns u x (mWr 0 (mWl 5 4 (mHead x k n (mLoad u S))))).1, (mIns u x (mWr 0 (mWl 5 4 (mHead x k n (mLoad u S))))).2) by first | (exfalso; omega) | (unfold mAdd; rw [if_neg (by omega), if_neg (zne2 c14), if_neg (zne2 (by assumption))]; unfold mAdd2; rw [if_neg hwhy, show mAddV k v n m1 (mHead x k n (mLoad u S)) = (mWr 0 (mWl 5 4 (mHead x k n (mLoad u S)))) by unfold mAddV; (first | (exfalso; omega) | (repeat (first | rw [if_pos (by first | assumption | omega)] | rw [if_neg (by first | assumption | exact zne (by assumption) | omega)])))])]; exact ⟨rfl, rfl, hV82, (fun r h => by rw [hk82 r (by omega), hk80 r (by omega), hk78 r (by omega), hk63 r (by omega), hk13 r (by omega)])⟩)
                              · refine lv_aload_n hx hb d_Model_add_201 rfl (lv_at hl 1 rfl) ?_
                                refine lv_iload hx hb d_Model_add_202 (lv_at hl 7 rfl) ?_
                                refine ia_i2l hx hb (by omega) d_Model_add_204 ?_
                                refine lv_lconst (v := lI (1)) hx hb d_Model_add_205 (by decide) ?_
                                refine ia_ladd hx hb d_Model_add_206 ?_
                                refine lv_iconst (v := iI (4)) hx hb d_Model_add_207 rfl ?_
                                refine mw_callV (i := 40) (As := [.long (lI (m1 + 1)), .int (iI 4)]) (rest := []) ⟨hx, hb, hml, hown, hts⟩ hK hM hS rfl hV63.1 rfl (c_Model_writeLow l D g lo L κ63 (mHead x k n (mLoad u S)) hV63 (m1 + 1) 4 (by omega) (by omega) (by omega)) (cwV 2 hts (gV m_776 m_778 m_41 m_58 m_779) rfl rfl rfl (by decide +kernel) ⟨Nat.le_of_ble_eq_true rfl, Nat.le_of_ble_eq_true rfl⟩) rfl hl.1 rfl (Nat.le_of_ble_eq_true rfl) d_Model_add_208 ⟨Nat.le_of_ble_eq_true rfl, Nat.le_of_ble_eq_true rfl⟩ (fun v83 L83 κ83 H locs hp83 hM hS => ?_)
                                obtain ⟨rfl, rfl, hV83, hk83⟩ := hp83
                                have r84 := (mWl_k (v := m1 + 1) (n := 4) (S := mHead x k n (mLoad u S)) (by omega)).2
                                refine lv_iconst (v := iI (0)) hx hb d_Model_add_211 rfl ?_
                                refine lv_istore (lv' := [(9, .int (iI 0)), (8, .int (iI 0)), (0, .ref (L 40)), (1, .int (iI u)), (2, .int (iI x)), (3, .int (iI k)), (4, .long (lI v)), (6, .int (iI n)), (7, .int (iI m1))]) hx hb d_Model_add_212 hl (by decide) rfl (fun ls hl => ?_)
                                exact loop214 _ 0 (mWl (m1 + 1) 4 (mHead x k n (mLoad u S))) κ83 (Nat.lt_succ_self _) hV83 (fun r h => by rw [hk83 r (by omega), hk63 r (by omega), hk13 r (by omega)]) (by omega) ⟨c14, by omega, by omega⟩ hbx1 hwhy (mWl_k (by omega)).1 (by omega) rfl _ _ ls hM hS (lv_sub hl [0, 2, 3, 4, 5, 6, 7, 8] rfl)
                            · have hv81 := hv8 (by omega)
                              refine lv_aload_n hx hb d_Model_add_186 rfl (lv_at hl 1 rfl) ?_
                              refine lv_lload hx hb d_Model_add_187 (lv_at hl 5 rfl) ?_
                              refine ia_l2i hx hb d_Model_add_189 ?_
                              refine mw_callV (i := 40) (As := [.int (iI v)]) (rest := []) ⟨hx, hb, hml, hown, hts⟩ hK hM hS rfl hV63.1 rfl (c_Model_write l D g lo L κ63 (mHead x k n (mLoad u S)) hV63 v (by omega) (by omega)) (cwV 1 hts (gV m_772 m_774 m_40 m_58 m_775) rfl rfl rfl (by decide +kernel) ⟨Nat.le_of_ble_eq_true rfl, Nat.le_of_ble_eq_true rfl⟩) rfl hl.1 rfl (Nat.le_of_ble_eq_true rfl) d_Model_add_190 ⟨Nat.le_of_ble_eq_true rfl, Nat.le_of_ble_eq_true rfl⟩ (fun v85 L85 κ85 H locs hp85 hM hS => ?_)
                              obtain ⟨rfl, rfl, hV85, hk85⟩ := hp85
                              have r86 := mWr_p (b := v) (S := mHead x k n (mLoad u S))
                              refine lv_goto (tgt := 268) hx hb d_Model_add_193 (by decide) ?_
                              have hkp : mKp (mLoad u S) (mWr v (mHead x k n (mLoad u S))) := by refine mKp_t (mHead_k (x := x) (k := k) (n := n) (S := mLoad u S) (by omega)).1 ?_; first | exact mKp_r | exact (mWl_k (by omega)).1 | exact mWr_k | exact mKp_t hkw mWr_k | exact mKp_t (mWl_k (by omega)).1 mWr_k
                              have hf3 := hkp.2 3 (by decide)
                              refine lv_aload_n hx hb d_Model_add_268 rfl (lv_at hl 1 rfl) ?_
                              refine lv_iload_n hx hb d_Model_add_269 rfl (lv_at hl 2 rfl) ?_
                              refine lv_iload_n hx hb d_Model_add_270 rfl (lv_at hl 3 rfl) ?_
                              refine mw_callV (i := 40) (As := [.int (iI u), .int (iI x)]) (rest := []) ⟨hx, hb, hml, hown, hts⟩ hK hM hS rfl hV85.1 rfl (c_Model_insert l D g lo L κ85 (mWr v (mHead x k n (mLoad u S))) hV85 u x (mSlot_iff.mp hyu) (by rw [hkp.2 3 (by decide)]; omega) (mTb_kt hT (mKt_p hkp)) (mEn_kp hE hkp) (by omega)) (cwV 2 hts (gV m_781 m_783 m_42 m_58 m_784) rfl rfl rfl (by decide +kernel) ⟨Nat.le_of_ble_eq_true rfl, Nat.le_of_ble_eq_true rfl⟩) rfl hl.1 rfl (Nat.le_of_ble_eq_true rfl) d_Model_add_271 ⟨Nat.le_of_ble_eq_true rfl, Nat.le_of_ble_eq_true rfl⟩ (fun v87 L87 κ87 H locs hp87 hM hS => ?_)
                              obtain ⟨rfl, rfl, hV87, hk87⟩ := hp87
                              exact mw_iret hx hb hr hM hS hlocks d_Model_add_274 (by rw [show mAdd u x k v n m1 S = ((mIns u x (mWr v (mHead x k n (mLoad u S)))).1, (mIns u x (mWr v (mHead x k n (mLoad u S)))).2) by first | (exfalso; omega) | (unfold mAdd; rw [if_neg (by omega), if_neg (zne2 c14), if_neg (zne2 (by assumption))]; unfold mAdd2; rw [if_neg hwhy, show mAddV k v n m1 (mHead x k n (mLoad u S)) = (mWr v (mHead x k n (mLoad u S))) by unfold mAddV; (first | (exfalso; omega) | (repeat (first | rw [if_pos (by first | assumption | omega)] | rw [if_neg (by first | assumption | exact zne (by assumption) | omega)])))])]; exact ⟨rfl, rfl, hV87, (fun r h => by rw [hk87 r (by omega), hk85 r (by omega), hk63 r (by omega), hk13 r (by omega)])⟩)
                          · refine lv_aload_n hx hb d_Model_add_159 rfl (lv_at hl 1 rfl) ?_
                            refine lv_lload hx hb d_Model_add_160 (lv_at hl 5 rfl) ?_
                            refine lv_iload_n hx hb d_Model_add_162 rfl (lv_at hl 4 rfl) ?_
                            refine lv_bipush (v := iI (16)) hx hb d_Model_add_163 (by decide) ?_
                            refine ia_icmp_ne (a := k) (b := 16) (tgt := 172) hx hb d_Model_add_165 (by decide) (by omega) (by omega) (fun c88 => ?_) (fun c88 => ?_)
                            · refine lv_bipush (v := iI (8)) hx hb d_Model_add_172 (by decide) ?_
                              refine mw_callV (i := 40) (As := [.long (lI v), .int (iI 8)]) (rest := []) ⟨hx, hb, hml, hown, hts⟩ hK hM hS rfl hV63.1 rfl (c_Model_writeLow l D g lo L κ63 (mHead x k n (mLoad u S)) hV63 v 8 (by omega) (by omega) (by omega)) (cwV 2 hts (gV m_776 m_778 m_41 m_58 m_779) rfl rfl rfl (by decide +kernel) ⟨Nat.le_of_ble_eq_true rfl, Nat.le_of_ble_eq_true rfl⟩) rfl hl.1 rfl (Nat.le_of_ble_eq_true rfl) d_Model_add_174 ⟨Nat.le_of_ble_eq_true rfl, Nat.le_of_ble_eq_true rfl⟩ (fun v89 L89 κ89 H locs hp89 hM hS => ?_)
                              obtain ⟨rfl, rfl, hV89, hk89⟩ := hp89
                              have r90 := (mWl_k (v := v) (n := 8) (S := mHead x k n (mLoad u S)) (by omega)).2
                              refine lv_goto (tgt := 268) hx hb d_Model_add_177 (by decide) ?_
                              have hkp : mKp (mLoad u S) (mWl v 8 (mHead x k n (mLoad u S))) := by refine mKp_t (mHead_k (x := x) (k := k) (n := n) (S := mLoad u S) (by omega)).1 ?_; first | exact mKp_r | exact (mWl_k (by omega)).1 | exact mWr_k | exact mKp_t hkw mWr_k | exact mKp_t (mWl_k (by omega)).1 mWr_k
                              have hf3 := hkp.2 3 (by decide)
                              refine lv_aload_n hx hb d_Model_add_268 rfl (lv_at hl 1 rfl) ?_
                              refine lv_iload_n hx hb d_Model_add_269 rfl (lv_at hl 2 rfl) ?_
                              refine lv_iload_n hx hb d_Model_add_270 rfl (lv_at hl 3 rfl) ?_
                              refine mw_callV (i := 40) (As := [.int (iI u), .int (iI x)]) (rest := []) ⟨hx, hb, hml, hown, hts⟩ hK hM hS rfl hV89.1 rfl (c_Model_insert l D g lo L κ89 (mWl v 8 (mHead x k n (mLoad u S))) hV89 u x (mSlot_iff.mp hyu) (by rw [hkp.2 3 (by decide)]; omega) (mTb_kt hT (mKt_p hkp)) (mEn_kp hE hkp) (by omega)) (cwV 2 hts (gV m_781 m_783 m_42 m_58 m_784) rfl rfl rfl (by decide +kernel) ⟨Nat.le_of_ble_eq_true rfl, Nat.le_of_ble_eq_true rfl⟩) rfl hl.1 rfl (Nat.le_of_ble_eq_true rfl) d_Model_add_271 ⟨Nat.le_of_ble_eq_true rfl, Nat.le_of_ble_eq_true rfl⟩ (fun v91 L91 κ91 H locs hp91 hM hS => ?_)
                              obtain ⟨rfl, rfl, hV91, hk91⟩ := hp91
                              exact mw_iret hx hb hr hM hS hlocks d_Model_add_274 (by rw [show mAdd u x k v n m1 S = ((mIns u x (mWl v 8 (mHead x k n (mLoad u S)))).1, (mIns u x (mWl v 8 (mHead x k n (mLoad u S)))).2) by first | (exfalso; omega) | (unfold mAdd; rw [if_neg (by omega), if_neg (zne2 c14), if_neg (zne2 (by assumption))]; unfold mAdd2; rw [if_neg hwhy, show mAddV k v n m1 (mHead x k n (mLoad u S)) = (mWl v 8 (mHead x k n (mLoad u S))) by unfold mAddV; (first | (exfalso; omega) | (repeat (first | rw [if_pos (by first | assumption | omega)] | rw [if_neg (by first | assumption | exact zne (by assumption) | omega)])))])]; exact ⟨rfl, rfl, hV91, (fun r h => by rw [hk91 r (by omega), hk89 r (by omega), hk63 r (by omega), hk13 r (by omega)])⟩)
                            · refine lv_iconst (v := iI (4)) hx hb d_Model_add_168 rfl ?_
                              refine lv_goto (tgt := 174) hx hb d_Model_add_169 (by decide) ?_
                              refine mw_callV (i := 40) (As := [.long (lI v), .int (iI 4)]) (rest := []) ⟨hx, hb, hml, hown, hts⟩ hK hM hS rfl hV63.1 rfl (c_Model_writeLow l D g lo L κ63 (mHead x k n (mLoad u S)) hV63 v 4 (by omega) (by omega) (by omega)) (cwV 2 hts (gV m_776 m_778 m_41 m_58 m_779) rfl rfl rfl (by decide +kernel) ⟨Nat.le_of_ble_eq_true rfl, Nat.le_of_ble_eq_true rfl⟩) rfl hl.1 rfl (Nat.le_of_ble_eq_true rfl) d_Model_add_174 ⟨Nat.le_of_ble_eq_true rfl, Nat.le_of_ble_eq_true rfl⟩ (fun v92 L92 κ92 H locs hp92 hM hS => ?_)
                              obtain ⟨rfl, rfl, hV92, hk92⟩ := hp92
                              have r93 := (mWl_k (v := v) (n := 4) (S := mHead x k n (mLoad u S)) (by omega)).2
                              refine lv_goto (tgt := 268) hx hb d_Model_add_177 (by decide) ?_
                              have hkp : mKp (mLoad u S) (mWl v 4 (mHead x k n (mLoad u S))) := by refine mKp_t (mHead_k (x := x) (k := k) (n := n) (S := mLoad u S) (by omega)).1 ?_; first | exact mKp_r | exact (mWl_k (by omega)).1 | exact mWr_k | exact mKp_t hkw mWr_k | exact mKp_t (mWl_k (by omega)).1 mWr_k
                              have hf3 := hkp.2 3 (by decide)
                              refine lv_aload_n hx hb d_Model_add_268 rfl (lv_at hl 1 rfl) ?_
                              refine lv_iload_n hx hb d_Model_add_269 rfl (lv_at hl 2 rfl) ?_
                              refine lv_iload_n hx hb d_Model_add_270 rfl (lv_at hl 3 rfl) ?_
                              refine mw_callV (i := 40) (As := [.int (iI u), .int (iI x)]) (rest := []) ⟨hx, hb, hml, hown, hts⟩ hK hM hS rfl hV92.1 rfl (c_Model_insert l D g lo L κ92 (mWl v 4 (mHead x k n (mLoad u S))) hV92 u x (mSlot_iff.mp hyu) (by rw [hkp.2 3 (by decide)]; omega) (mTb_kt hT (mKt_p hkp)) (mEn_kp hE hkp) (by omega)) (cwV 2 hts (gV m_781 m_783 m_42 m_58 m_784) rfl rfl rfl (by decide +kernel) ⟨Nat.le_of_ble_eq_true rfl, Nat.le_of_ble_eq_true rfl⟩) rfl hl.1 rfl (Nat.le_of_ble_eq_true rfl) d_Model_add_271 ⟨Nat.le_of_ble_eq_true rfl, Nat.le_of_ble_eq_true rfl⟩ (fun v94 L94 κ94 H locs hp94 hM hS => ?_)
                              obtain ⟨rfl, rfl, hV94, hk94⟩ := hp94
                              exact mw_iret hx hb hr hM hS hlocks d_Model_add_274 (by rw [show mAdd u x k v n m1 S = ((mIns u x (mWl v 4 (mHead x k n (mLoad u S)))).1, (mIns u x (mWl v 4 (mHead x k n (mLoad u S)))).2) by first | (exfalso; omega) | (unfold mAdd; rw [if_neg (by omega), if_neg (zne2 c14), if_neg (zne2 (by assumption))]; unfold mAdd2; rw [if_neg hwhy, show mAddV k v n m1 (mHead x k n (mLoad u S)) = (mWl v 4 (mHead x k n (mLoad u S))) by unfold mAddV; (first | (exfalso; omega) | (repeat (first | rw [if_pos (by first | assumption | omega)] | rw [if_neg (by first | assumption | exact zne (by assumption) | omega)])))])]; exact ⟨rfl, rfl, hV94, (fun r h => by rw [hk94 r (by omega), hk92 r (by omega), hk63 r (by omega), hk13 r (by omega)])⟩)
                      · exact absurd (by decide) c62
                    · refine lv_aload_n hx hb d_Model_add_107 rfl (lv_at hl 0 rfl) ?_
                      refine mw_get (ci := 4) (i := 40) (v := .ref (L 49)) (C := R_Model) (T := T_Model) (N := 23) hx hb hts in_Model hown hK hM hV13.1 rfl rfl 13 (by decide) (hts _ m_558) rfl d_Model_add_108 ?_
                      refine lv_iload_n hx hb d_Model_add_111 rfl (lv_at hl 2 rfl) ?_
                      refine mw_iald (n := 1000) (f := (mLoad u S).a 8) (a := x) (i := 49) hx hb hK hM 1 (hV13.2.1 8 (by decide)) rfl rfl (by omega) (by decide) d_Model_add_112 ?_
                      have r95 : -1000000 ≤ (mLoad u S).a 8 (x : Int).toNat ∧ (mLoad u S).a 8 (x : Int).toNat ≤ 1000000 := hV13.2.2.1 8 _
                      refine lv_bipush (v := iI (16)) hx hb d_Model_add_113 (by decide) ?_
                      refine ia_icmp_ne (a := (mLoad u S).a 8 (x : Int).toNat) (b := 16) (tgt := 123) hx hb d_Model_add_115 (by decide) (by omega) (by omega) (fun c96 => ?_) (fun c96 => ?_)
                      · refine lv_iconst (v := iI (0)) hx hb d_Model_add_123 rfl ?_
                        refine lv_istore (lv' := [(8, .int (iI 0)), (0, .ref (L 40)), (1, .int (iI u)), (2, .int (iI x)), (3, .int (iI k)), (4, .long (lI v)), (6, .int (iI n)), (7, .int (iI m1))]) hx hb d_Model_add_124 hl (by decide) rfl (fun ls hl => ?_)
                        refine lv_iload hx hb d_Model_add_126 (lv_at hl 0 rfl) ?_
                        refine ia_if_ge (a := 0) (tgt := 139) hx hb d_Model_add_128 (by decide) (by omega) (fun c97 => ?_) (fun c97 => ?_)
                        · have hwhy : ¬ mAddWhy x k v n m1 (mLoad u S) < 0 := by first | (exfalso; omega) | (unfold mAddWhy; rw [if_neg (zne2 (by assumption)), if_neg (by rintro (z | z); exact absurd z (zne2 (by assumption)); omega), if_neg (by omega)]; decide)
                          have hkb := (decide_eq_true_iff (p := k = 2 ∨ k = 10 ∨ k = 3 ∨ k = 4 ∨ k = 8 ∨ k = 16 ∨ k = 18)).mp (mCan_k (x := x) (k := k) (v := v) (n := n) (m := m1) (S := mLoad u S) (by assumption))
                          have hv8 : k = 8 → v = 0 ∨ v = 1 := by intro z; subst z; exact mCan_8 (x := x) (n := n) (m := m1) (S := mLoad u S) (by assumption)
                          have hbx1 : mBox x (mLoad u S) = true := by assumption
                          refine lv_aload_n hx hb d_Model_add_139 rfl (lv_at hl 1 rfl) ?_
                          refine lv_iload_n hx hb d_Model_add_140 rfl (lv_at hl 3 rfl) ?_
                          refine lv_iload_n hx hb d_Model_add_141 rfl (lv_at hl 4 rfl) ?_
                          refine lv_iload hx hb d_Model_add_142 (lv_at hl 6 rfl) ?_
                          refine mw_callV (i := 40) (As := [.int (iI x), .int (iI k), .int (iI n)]) (rest := []) ⟨hx, hb, hml, hown, hts⟩ hK hM hS rfl hV13.1 rfl (c_Model_writeHead l D g lo L κ13 (mLoad u S) hV13 x k n (by omega) (by omega) (by omega) hT) (cwV 3 hts (gV m_768 m_770 m_39 m_58 m_771) rfl rfl rfl (by decide +kernel) ⟨Nat.le_of_ble_eq_true rfl, Nat.le_of_ble_eq_true rfl⟩) rfl hl.1 rfl (Nat.le_of_ble_eq_true rfl) d_Model_add_144 ⟨Nat.le_of_ble_eq_true rfl, Nat.le_of_ble_eq_true rfl⟩ (fun v98 L98 κ98 H locs hp98 hM hS => ?_)
                          obtain ⟨rfl, rfl, hV98, hk98⟩ := hp98
                          have r99 := (mHead_k (x := x) (k := k) (n := n) (S := mLoad u S) (by omega)).2
                          refine lv_iload_n hx hb d_Model_add_147 rfl (lv_at hl 4 rfl) ?_
                          refine lv_bipush (v := iI (16)) hx hb d_Model_add_148 (by decide) ?_
                          refine ia_icmp_eq (a := k) (b := 16) (tgt := 159) hx hb d_Model_add_150 (by decide) (by omega) (by omega) (fun c100 => ?_) (fun c100 => ?_)
                          · refine lv_aload_n hx hb d_Model_add_159 rfl (lv_at hl 1 rfl) ?_
                            refine lv_lload hx hb d_Model_add_160 (lv_at hl 5 rfl) ?_
                            refine lv_iload_n hx hb d_Model_add_162 rfl (lv_at hl 4 rfl) ?_
                            refine lv_bipush (v := iI (16)) hx hb d_Model_add_163 (by decide) ?_
                            refine ia_icmp_ne (a := k) (b := 16) (tgt := 172) hx hb d_Model_add_165 (by decide) (by omega) (by omega) (fun c101 => ?_) (fun c101 => ?_)
                            · refine lv_bipush (v := iI (8)) hx hb d_Model_add_172 (by decide) ?_
                              refine mw_callV (i := 40) (As := [.long (lI v), .int (iI 8)]) (rest := []) ⟨hx, hb, hml, hown, hts⟩ hK hM hS rfl hV98.1 rfl (c_Model_writeLow l D g lo L κ98 (mHead x k n (mLoad u S)) hV98 v 8 (by omega) (by omega) (by omega)) (cwV 2 hts (gV m_776 m_778 m_41 m_58 m_779) rfl rfl rfl (by decide +kernel) ⟨Nat.le_of_ble_eq_true rfl, Nat.le_of_ble_eq_true rfl⟩) rfl hl.1 rfl (Nat.le_of_ble_eq_true rfl) d_Model_add_174 ⟨Nat.le_of_ble_eq_true rfl, Nat.le_of_ble_eq_true rfl⟩ (fun v102 L102 κ102 H locs hp102 hM hS => ?_)
                              obtain ⟨rfl, rfl, hV102, hk102⟩ := hp102
                              have r103 := (mWl_k (v := v) (n := 8) (S := mHead x k n (mLoad u S)) (by omega)).2
                              refine lv_goto (tgt := 268) hx hb d_Model_add_177 (by decide) ?_
                              have hkp : mKp (mLoad u S) (mWl v 8 (mHead x k n (mLoad u S))) := by refine mKp_t (mHead_k (x := x) (k := k) (n := n) (S := mLoad u S) (by omega)).1 ?_; first | exact mKp_r | exact (mWl_k (by omega)).1 | exact mWr_k | exact mKp_t hkw mWr_k | exact mKp_t (mWl_k (by omega)).1 mWr_k
                              have hf3 := hkp.2 3 (by decide)
                              refine lv_aload_n hx hb d_Model_add_268 rfl (lv_at hl 1 rfl) ?_
                              refine lv_iload_n hx hb d_Model_add_269 rfl (lv_at hl 2 rfl) ?_
                              refine lv_iload_n hx hb d_Model_add_270 rfl (lv_at hl 3 rfl) ?_
                              refine mw_callV (i := 40) (As := [.int (iI u), .int (iI x)]) (rest := []) ⟨hx, hb, hml, hown, hts⟩ hK hM hS rfl hV102.1 rfl (c_Model_insert l D g lo L κ102 (mWl v 8 (mHead x k n (mLoad u S))) hV102 u x (mSlot_iff.mp hyu) (by rw [hkp.2 3 (by decide)]; omega) (mTb_kt hT (mKt_p hkp)) (mEn_kp hE hkp) (by omega)) (cwV 2 hts (gV m_781 m_783 m_42 m_58 m_784) rfl rfl rfl (by decide +kernel) ⟨Nat.le_of_ble_eq_true rfl, Nat.le_of_ble_eq_true rfl⟩) rfl hl.1 rfl (Nat.le_of_ble_eq_true rfl) d_Model_add_271 ⟨Nat.le_of_ble_eq_true rfl, Nat.le_of_ble_eq_true rfl⟩ (fun v104 L104 κ104 H locs hp104 hM hS => ?_)
                              obtain ⟨rfl, rfl, hV104, hk104⟩ := hp104
                              exact mw_iret hx hb hr hM hS hlocks d_Model_add_274 (by rw [show mAdd u x k v n m1 S = ((mIns u x (mWl v 8 (mHead x k n (mLoad u S)))).1, (mIns u x (mWl v 8 (mHead x k n (mLoad u S)))).2) by first | (exfalso; omega) | (unfold mAdd; rw [if_neg (by omega), if_neg (zne2 c14), if_neg (zne2 (by assumption))]; unfold mAdd2; rw [if_neg hwhy, show mAddV k v n m1 (mHead x k n (mLoad u S)) = (mWl v 8 (mHead x k n (mLoad u S))) by unfold mAddV; (first | (exfalso; omega) | (repeat (first | rw [if_pos (by first | assumption | omega)] | rw [if_neg (by first | assumption | exact zne (by assumption) | omega)])))])]; exact ⟨rfl, rfl, hV104, (fun r h => by rw [hk104 r (by omega), hk102 r (by omega), hk98 r (by omega), hk13 r (by omega)])⟩)
                            · refine lv_iconst (v := iI (4)) hx hb d_Model_add_168 rfl ?_
                              refine lv_goto (tgt := 174) hx hb d_Model_add_169 (by decide) ?_
                              refine mw_callV (i := 40) (As := [.long (lI v), .int (iI 4)]) (rest := []) ⟨hx, hb, hml, hown, hts⟩ hK hM hS rfl hV98.1 rfl (c_Model_writeLow l D g lo L κ98 (mHead x k n (mLoad u S)) hV98 v 4 (by omega) (by omega) (by omega)) (cwV 2 hts (gV m_776 m_778 m_41 m_58 m_779) rfl rfl rfl (by decide +kernel) ⟨Nat.le_of_ble_eq_true rfl, Nat.le_of_ble_eq_true rfl⟩) rfl hl.1 rfl (Nat.le_of_ble_eq_true rfl) d_Model_add_174 ⟨Nat.le_of_ble_eq_true rfl, Nat.le_of_ble_eq_true rfl⟩ (fun v105 L105 κ105 H locs hp105 hM hS => ?_)
                              obtain ⟨rfl, rfl, hV105, hk105⟩ := hp105
                              have r106 := (mWl_k (v := v) (n := 4) (S := mHead x k n (mLoad u S)) (by omega)).2
                              refine lv_goto (tgt := 268) hx hb d_Model_add_177 (by decide) ?_
                              have hkp : mKp (mLoad u S) (mWl v 4 (mHead x k n (mLoad u S))) := by refine mKp_t (mHead_k (x := x) (k := k) (n := n) (S := mLoad u S) (by omega)).1 ?_; first | exact mKp_r | exact (mWl_k (by omega)).1 | exact mWr_k | exact mKp_t hkw mWr_k | exact mKp_t (mWl_k (by omega)).1 mWr_k
                              have hf3 := hkp.2 3 (by decide)
                              refine lv_aload_n hx hb d_Model_add_268 rfl (lv_at hl 1 rfl) ?_
                              refine lv_iload_n hx hb d_Model_add_269 rfl (lv_at hl 2 rfl) ?_
                              refine lv_iload_n hx hb d_Model_add_270 rfl (lv_at hl 3 rfl) ?_
                              refine mw_callV (i := 40) (As := [.int (iI u), .int (iI x)]) (rest := []) ⟨hx, hb, hml, hown, hts⟩ hK hM hS rfl hV105.1 rfl (c_Model_insert l D g lo L κ105 (mWl v 4 (mHead x k n (mLoad u S))) hV105 u x (mSlot_iff.mp hyu) (by rw [hkp.2 3 (by decide)]; omega) (mTb_kt hT (mKt_p hkp)) (mEn_kp hE hkp) (by omega)) (cwV 2 hts (gV m_781 m_783 m_42 m_58 m_784) rfl rfl rfl (by decide +kernel) ⟨Nat.le_of_ble_eq_true rfl, Nat.le_of_ble_eq_true rfl⟩) rfl hl.1 rfl (Nat.le_of_ble_eq_true rfl) d_Model_add_271 ⟨Nat.le_of_ble_eq_true rfl, Nat.le_of_ble_eq_true rfl⟩ (fun v107 L107 κ107 H locs hp107 hM hS => ?_)
                              obtain ⟨rfl, rfl, hV107, hk107⟩ := hp107
                              exact mw_iret hx hb hr hM hS hlocks d_Model_add_274 (by rw [show mAdd u x k v n m1 S = ((mIns u x (mWl v 4 (mHead x k n (mLoad u S)))).1, (mIns u x (mWl v 4 (mHead x k n (mLoad u S)))).2) by first | (exfalso; omega) | (unfold mAdd; rw [if_neg (by omega), if_neg (zne2 c14), if_neg (zne2 (by assumption))]; unfold mAdd2; rw [if_neg hwhy, show mAddV k v n m1 (mHead x k n (mLoad u S)) = (mWl v 4 (mHead x k n (mLoad u S))) by unfold mAddV; (first | (exfalso; omega) | (repeat (first | rw [if_pos (by first | assumption | omega)] | rw [if_neg (by first | assumption | exact zne (by assumption) | omega)])))])]; exact ⟨rfl, rfl, hV107, (fun r h => by rw [hk107 r (by omega), hk105 r (by omega), hk98 r (by omega), hk13 r (by omega)])⟩)
                          · refine lv_iload_n hx hb d_Model_add_153 rfl (lv_at hl 4 rfl) ?_
                            refine lv_bipush (v := iI (18)) hx hb d_Model_add_154 (by decide) ?_
                            refine ia_icmp_ne (a := k) (b := 18) (tgt := 180) hx hb d_Model_add_156 (by decide) (by omega) (by omega) (fun c108 => ?_) (fun c108 => ?_)
                            · refine lv_iload_n hx hb d_Model_add_180 rfl (lv_at hl 4 rfl) ?_
                              refine lv_bipush (v := iI (8)) hx hb d_Model_add_181 (by decide) ?_
                              refine ia_icmp_ne (a := k) (b := 8) (tgt := 196) hx hb d_Model_add_183 (by decide) (by omega) (by omega) (fun c109 => ?_) (fun c109 => ?_)
                              · refine lv_iload_n hx hb d_Model_add_196 rfl (lv_at hl 4 rfl) ?_
                                refine lv_iconst (v := iI (2)) hx hb d_Model_add_197 rfl ?_
                                refine ia_icmp_ne (a := k) (b := 2) (tgt := 249) hx hb d_Model_add_198 (by decide) (by omega) (by omega) (fun c110 => ?_) (fun c110 => ?_)
                                · refine lv_iload_n hx hb d_Model_add_249 rfl (lv_at hl 4 rfl) ?_
                                  refine lv_bipush (v := iI (10)) hx hb d_Model_add_250 (by decide) ?_
                                  refine ia_icmp_eq (a := k) (b := 10) (tgt := 268) hx hb d_Model_add_252 (by decide) (by omega) (by omega) (fun c111 => ?_) (fun c111 => ?_)
                                  · have hkp : mKp (mLoad u S) (mHead x k n (mLoad u S)) := by refine mKp_t (mHead_k (x := x) (k := k) (n := n) (S := mLoad u S) (by omega)).1 ?_; first | exact mKp_r | exact (mWl_k (by omega)).1 | exact mWr_k | exact mKp_t hkw mWr_k | exact mKp_t (mWl_k (by omega)).1 mWr_k
                                    have hf3 := hkp.2 3 (by decide)
                                    refine lv_aload_n hx hb d_Model_add_268 rfl (lv_at hl 1 rfl) ?_
                                    refine lv_iload_n hx hb d_Model_add_269 rfl (lv_at hl 2 rfl) ?_
                                    refine lv_iload_n hx hb d_Model_add_270 rfl (lv_at hl 3 rfl) ?_
                                    refine mw_callV (i := 40) (As := [.int (iI u), .int (iI x)]) (rest := []) ⟨hx, hb, hml, hown, hts⟩ hK hM hS rfl hV98.1 rfl (c_Model_insert l D g lo L κ98 (mHead x k n (mLoad u S)) hV98 u x (mSlot_iff.mp hyu) (by rw [hkp.2 3 (by decide)]; omega) (mTb_kt hT (mKt_p hkp)) (mEn_kp hE hkp) (by omega)) (cwV 2 hts (gV m_781 m_783 m_42 m_58 m_784) rfl rfl rfl (by decide +kernel) ⟨Nat.le_of_ble_eq_true rfl, Nat.le_of_ble_eq_true rfl⟩) rfl hl.1 rfl (Nat.le_of_ble_eq_true rfl) d_Model_add_271 ⟨Nat.le_of_ble_eq_true rfl, Nat.le_of_ble_eq_true rfl⟩ (fun v112 L112 κ112 H locs hp112 hM hS => ?_)
                                    obtain ⟨rfl, rfl, hV112, hk112⟩ := hp112
                                    exact mw_iret hx hb hr hM hS hlocks d_Model_add_274 (by rw [show mAdd u x k v n m1 S = ((mIns u x (mHead x k n (mLoad u S))).1, (mIns u x (mHead x k n (mLoad u S))).2) by first | (exfalso; omega) | (unfold mAdd; rw [if_neg (by omega), if_neg (zne2 c14), if_neg (zne2 (by assumption))]; unfold mAdd2; rw [if_neg hwhy, show mAddV k v n m1 (mHead x k n (mLoad u S)) = (mHead x k n (mLoad u S)) by unfold mAddV; (first | (exfalso; omega) | (repeat (first | rw [if_pos (by first | assumption | omega)] | rw [if_neg (by first | assumption | exact zne (by assumption) | omega)])))])]; exact ⟨rfl, rfl, hV112, (fun r h => by rw [hk112 r (by omega), hk98 r (by omega), hk13 r (by omega)])⟩)
                                  · refine lv_aload_n hx hb d_Model_add_255 rfl (lv_at hl 1 rfl) ?_
                                    refine lv_ldc2 (v := 5) hx hb hown (hts _ m_646) d_Model_add_256 ?_
                                    refine W.eq (g2 := F0 m 259 ls (.long (lI 5) :: .ref (L 40) :: [])) (by rfl) ?_
                                    refine lv_iconst (v := iI (4)) hx hb d_Model_add_259 rfl ?_
                                    refine mw_callV (i := 40) (As := [.long (lI 5), .int (iI 4)]) (rest := []) ⟨hx, hb, hml, hown, hts⟩ hK hM hS rfl hV98.1 rfl (c_Model_writeLow l D g lo L κ98 (mHead x k n (mLoad u S)) hV98 5 4 (by omega) (by omega) (by omega)) (cwV 2 hts (gV m_776 m_778 m_41 m_58 m_779) rfl rfl rfl (by decide +kernel) ⟨Nat.le_of_ble_eq_true rfl, Nat.le_of_ble_eq_true rfl⟩) rfl hl.1 rfl (Nat.le_of_ble_eq_true rfl) d_Model_add_260 ⟨Nat.le_of_ble_eq_true rfl, Nat.le_of_ble_eq_true rfl⟩ (fun v113 L113 κ113 H locs hp113 hM hS => ?_)
                                    obtain ⟨rfl, rfl, hV113, hk113⟩ := hp113
                                    have r114 := (mWl_k (v := 5) (n := 4) (S := mHead x k n (mLoad u S)) (by omega)).2
                                    refine lv_aload_n hx hb d_Model_add_263 rfl (lv_at hl 1 rfl) ?_
                                    refine lv_iconst (v := iI (0)) hx hb d_Model_add_264 rfl ?_
                                    refine mw_callV (i := 40) (As := [.int (iI 0)]) (rest := []) ⟨hx, hb, hml, hown, hts⟩ hK hM hS rfl hV113.1 rfl (c_Model_write l D g lo L κ113 (mWl 5 4 (mHead x k n (mLoad u S))) hV113 0 (by omega) (by omega)) (cwV 1 hts (gV m_772 m_774 m_40 m_58 m_775) rfl rfl rfl (by decide +kernel) ⟨Nat.le_of_ble_eq_true rfl, Nat.le_of_ble_eq_true rfl⟩) rfl hl.1 rfl (Nat.le_of_ble_eq_true rfl) d_Model_add_265 ⟨Nat.le_of_ble_eq_true rfl, Nat.le_of_ble_eq_true rfl⟩ (fun v115 L115 κ115 H locs hp115 hM hS => ?_)
                                    obtain ⟨rfl, rfl, hV115, hk115⟩ := hp115
                                    have r116 := mWr_p (b := 0) (S := mWl 5 4 (mHead x k n (mLoad u S)))
                                    have hkp : mKp (mLoad u S) (mWr 0 (mWl 5 4 (mHead x k n (mLoad u S)))) := by refine mKp_t (mHead_k (x := x) (k := k) (n := n) (S := mLoad u S) (by omega)).1 ?_; first | exact mKp_r | exact (mWl_k (by omega)).1 | exact mWr_k | exact mKp_t hkw mWr_k | exact mKp_t (mWl_k (by omega)).1 mWr_k
                                    have hf3 := hkp.2 3 (by decide)
                                    refine lv_aload_n hx hb d_Model_add_268 rfl (lv_at hl 1 rfl) ?_
                                    refine lv_iload_n hx hb d_Model_add_269 rfl (lv_at hl 2 rfl) ?_
                                    refine lv_iload_n hx hb d_Model_add_270 rfl (lv_at hl 3 rfl) ?_
                                    refine mw_callV (i := 40) (As := [.int (iI u), .int (iI x)]) (rest := []) ⟨hx, hb, hml, hown, hts⟩ hK hM hS rfl hV115.1 rfl (c_Model_insert l D g lo L κ115 (mWr 0 (mWl 5 4 (mHead x k n (mLoad u S)))) hV115 u x (mSlot_iff.mp hyu) (by rw [hkp.2 3 (by decide)]; omega) (mTb_kt hT (mKt_p hkp)) (mEn_kp hE hkp) (by omega)) (cwV 2 hts (gV m_781 m_783 m_42 m_58 m_784) rfl rfl rfl (by decide +kernel) ⟨Nat.le_of_ble_eq_true rfl, Nat.le_of_ble_eq_true rfl⟩) rfl hl.1 rfl (Nat.le_of_ble_eq_true rfl) d_Model_add_271 ⟨Nat.le_of_ble_eq_true rfl, Nat.le_of_ble_eq_true rfl⟩ (fun v117 L117 κ117 H locs hp117 hM hS => ?_)
                                    obtain ⟨rfl, rfl, hV117, hk117⟩ := hp117
                                    exact mw_iret hx hb hr hM hS hlocks d_Model_add_274 (by rw [show mAdd u x k v n m1 S = ((mIns u x (mWr 0 (mWl 5 4 (mHead x k n (mLoad u S))))).1, (mIns u x (mWr 0 (mWl 5 4 (mHead x k n (mLoad u S))))).2) by first | (exfalso; omega) | (unfold mAdd; rw [if_neg (by omega), if_neg (zne2 c14), if_neg (zne2 (by assumption))]; unfold mAdd2; rw [if_neg hwhy, show mAddV k v n m1 (mHead x k n (mLoad u S)) = (mWr 0 (mWl 5 4 (mHead x k n (mLoad u S)))) by unfold mAddV; (first | (exfalso; omega) | (repeat (first | rw [if_pos (by first | assumption | omega)] | rw [if_neg (by first | assumption | exact zne (by assumption) | omega)])))])]; exact ⟨rfl, rfl, hV117, (fun r h => by rw [hk117 r (by omega), hk115 r (by omega), hk113 r (by omega), hk98 r (by omega), hk13 r (by omega)])⟩)
                                · refine lv_aload_n hx hb d_Model_add_201 rfl (lv_at hl 1 rfl) ?_
                                  refine lv_iload hx hb d_Model_add_202 (lv_at hl 7 rfl) ?_
                                  refine ia_i2l hx hb (by omega) d_Model_add_204 ?_
                                  refine lv_lconst (v := lI (1)) hx hb d_Model_add_205 (by decide) ?_
                                  refine ia_ladd hx hb d_Model_add_206 ?_
                                  refine lv_iconst (v := iI (4)) hx hb d_Model_add_207 rfl ?_
                                  refine mw_callV (i := 40) (As := [.long (lI (m1 + 1)), .int (iI 4)]) (rest := []) ⟨hx, hb, hml, hown, hts⟩ hK hM hS rfl hV98.1 rfl (c_Model_writeLow l D g lo L κ98 (mHead x k n (mLoad u S)) hV98 (m1 + 1) 4 (by omega) (by omega) (by omega)) (cwV 2 hts (gV m_776 m_778 m_41 m_58 m_779) rfl rfl rfl (by decide +kernel) ⟨Nat.le_of_ble_eq_true rfl, Nat.le_of_ble_eq_true rfl⟩) rfl hl.1 rfl (Nat.le_of_ble_eq_true rfl) d_Model_add_208 ⟨Nat.le_of_ble_eq_true rfl, Nat.le_of_ble_eq_true rfl⟩ (fun v118 L118 κ118 H locs hp118 hM hS => ?_)
                                  obtain ⟨rfl, rfl, hV118, hk118⟩ := hp118
                                  have r119 := (mWl_k (v := m1 + 1) (n := 4) (S := mHead x k n (mLoad u S)) (by omega)).2
                                  refine lv_iconst (v := iI (0)) hx hb d_Model_add_211 rfl ?_
                                  refine lv_istore (lv' := [(9, .int (iI 0)), (8, .int (iI 0)), (0, .ref (L 40)), (1, .int (iI u)), (2, .int (iI x)), (3, .int (iI k)), (4, .long (lI v)), (6, .int (iI n)), (7, .int (iI m1))]) hx hb d_Model_add_212 hl (by decide) rfl (fun ls hl => ?_)
                                  exact loop214 _ 0 (mWl (m1 + 1) 4 (mHead x k n (mLoad u S))) κ118 (Nat.lt_succ_self _) hV118 (fun r h => by rw [hk118 r (by omega), hk98 r (by omega), hk13 r (by omega)]) (by omega) ⟨c14, by omega, by omega⟩ hbx1 hwhy (mWl_k (by omega)).1 (by omega) rfl _ _ ls hM hS (lv_sub hl [0, 2, 3, 4, 5, 6, 7, 8] rfl)
                              · have hv81 := hv8 (by omega)
                                refine lv_aload_n hx hb d_Model_add_186 rfl (lv_at hl 1 rfl) ?_
                                refine lv_lload hx hb d_Model_add_187 (lv_at hl 5 rfl) ?_
                                refine ia_l2i hx hb d_Model_add_189 ?_
                                refine mw_callV (i := 40) (As := [.int (iI v)]) (rest := []) ⟨hx, hb, hml, hown, hts⟩ hK hM hS rfl hV98.1 rfl (c_Model_write l D g lo L κ98 (mHead x k n (mLoad u S)) hV98 v (by omega) (by omega)) (cwV 1 hts (gV m_772 m_774 m_40 m_58 m_775) rfl rfl rfl (by decide +kernel) ⟨Nat.le_of_ble_eq_true rfl, Nat.le_of_ble_eq_true rfl⟩) rfl hl.1 rfl (Nat.le_of_ble_eq_true rfl) d_Model_add_190 ⟨Nat.le_of_ble_eq_true rfl, Nat.le_of_ble_eq_true rfl⟩ (fun v120 L120 κ120 H locs hp120 hM hS => ?_)
                                obtain ⟨rfl, rfl, hV120, hk120⟩ := hp120
                                have r121 := mWr_p (b := v) (S := mHead x k n (mLoad u S))
                                refine lv_goto (tgt := 268) hx hb d_Model_add_193 (by decide) ?_
                                have hkp : mKp (mLoad u S) (mWr v (mHead x k n (mLoad u S))) := by refine mKp_t (mHead_k (x := x) (k := k) (n := n) (S := mLoad u S) (by omega)).1 ?_; first | exact mKp_r | exact (mWl_k (by omega)).1 | exact mWr_k | exact mKp_t hkw mWr_k | exact mKp_t (mWl_k (by omega)).1 mWr_k
                                have hf3 := hkp.2 3 (by decide)
                                refine lv_aload_n hx hb d_Model_add_268 rfl (lv_at hl 1 rfl) ?_
                                refine lv_iload_n hx hb d_Model_add_269 rfl (lv_at hl 2 rfl) ?_
                                refine lv_iload_n hx hb d_Model_add_270 rfl (lv_at hl 3 rfl) ?_
                                refine mw_callV (i := 40) (As := [.int (iI u), .int (iI x)]) (rest := []) ⟨hx, hb, hml, hown, hts⟩ hK hM hS rfl hV120.1 rfl (c_Model_insert l D g lo L κ120 (mWr v (mHead x k n (mLoad u S))) hV120 u x (mSlot_iff.mp hyu) (by rw [hkp.2 3 (by decide)]; omega) (mTb_kt hT (mKt_p hkp)) (mEn_kp hE hkp) (by omega)) (cwV 2 hts (gV m_781 m_783 m_42 m_58 m_784) rfl rfl rfl (by decide +kernel) ⟨Nat.le_of_ble_eq_true rfl, Nat.le_of_ble_eq_true rfl⟩) rfl hl.1 rfl (Nat.le_of_ble_eq_true rfl) d_Model_add_271 ⟨Nat.le_of_ble_eq_true rfl, Nat.le_of_ble_eq_true rfl⟩ (fun v122 L122 κ122 H locs hp122 hM hS => ?_)
                                obtain ⟨rfl, rfl, hV122, hk122⟩ := hp122
                                exact mw_iret hx hb hr hM hS hlocks d_Model_add_274 (by rw [show mAdd u x k v n m1 S = ((mIns u x (mWr v (mHead x k n (mLoad u S)))).1, (mIns u x (mWr v (mHead x k n (mLoad u S)))).2) by first | (exfalso; omega) | (unfold mAdd; rw [if_neg (by omega), if_neg (zne2 c14), if_neg (zne2 (by assumption))]; unfold mAdd2; rw [if_neg hwhy, show mAddV k v n m1 (mHead x k n (mLoad u S)) = (mWr v (mHead x k n (mLoad u S))) by unfold mAddV; (first | (exfalso; omega) | (repeat (first | rw [if_pos (by first | assumption | omega)] | rw [if_neg (by first | assumption | exact zne (by assumption) | omega)])))])]; exact ⟨rfl, rfl, hV122, (fun r h => by rw [hk122 r (by omega), hk120 r (by omega), hk98 r (by omega), hk13 r (by omega)])⟩)
                            · refine lv_aload_n hx hb d_Model_add_159 rfl (lv_at hl 1 rfl) ?_
                              refine lv_lload hx hb d_Model_add_160 (lv_at hl 5 rfl) ?_
                              refine lv_iload_n hx hb d_Model_add_162 rfl (lv_at hl 4 rfl) ?_
                              refine lv_bipush (v := iI (16)) hx hb d_Model_add_163 (by decide) ?_
                              refine ia_icmp_ne (a := k) (b := 16) (tgt := 172) hx hb d_Model_add_165 (by decide) (by omega) (by omega) (fun c123 => ?_) (fun c123 => ?_)
                              · refine lv_bipush (v := iI (8)) hx hb d_Model_add_172 (by decide) ?_
                                refine mw_callV (i := 40) (As := [.long (lI v), .int (iI 8)]) (rest := []) ⟨hx, hb, hml, hown, hts⟩ hK hM hS rfl hV98.1 rfl (c_Model_writeLow l D g lo L κ98 (mHead x k n (mLoad u S)) hV98 v 8 (by omega) (by omega) (by omega)) (cwV 2 hts (gV m_776 m_778 m_41 m_58 m_779) rfl rfl rfl (by decide +kernel) ⟨Nat.le_of_ble_eq_true rfl, Nat.le_of_ble_eq_true rfl⟩) rfl hl.1 rfl (Nat.le_of_ble_eq_true rfl) d_Model_add_174 ⟨Nat.le_of_ble_eq_true rfl, Nat.le_of_ble_eq_true rfl⟩ (fun v124 L124 κ124 H locs hp124 hM hS => ?_)
                                obtain ⟨rfl, rfl, hV124, hk124⟩ := hp124
                                have r125 := (mWl_k (v := v) (n := 8) (S := mHead x k n (mLoad u S)) (by omega)).2
                                refine lv_goto (tgt := 268) hx hb d_Model_add_177 (by decide) ?_
                                have hkp : mKp (mLoad u S) (mWl v 8 (mHead x k n (mLoad u S))) := by refine mKp_t (mHead_k (x := x) (k := k) (n := n) (S := mLoad u S) (by omega)).1 ?_; first | exact mKp_r | exact (mWl_k (by omega)).1 | exact mWr_k | exact mKp_t hkw mWr_k | exact mKp_t (mWl_k (by omega)).1 mWr_k
                                have hf3 := hkp.2 3 (by decide)
                                refine lv_aload_n hx hb d_Model_add_268 rfl (lv_at hl 1 rfl) ?_
                                refine lv_iload_n hx hb d_Model_add_269 rfl (lv_at hl 2 rfl) ?_
                                refine lv_iload_n hx hb d_Model_add_270 rfl (lv_at hl 3 rfl) ?_
                                refine mw_callV (i := 40) (As := [.int (iI u), .int (iI x)]) (rest := []) ⟨hx, hb, hml, hown, hts⟩ hK hM hS rfl hV124.1 rfl (c_Model_insert l D g lo L κ124 (mWl v 8 (mHead x k n (mLoad u S))) hV124 u x (mSlot_iff.mp hyu) (by rw [hkp.2 3 (by decide)]; omega) (mTb_kt hT (mKt_p hkp)) (mEn_kp hE hkp) (by omega)) (cwV 2 hts (gV m_781 m_783 m_42 m_58 m_784) rfl rfl rfl (by decide +kernel) ⟨Nat.le_of_ble_eq_true rfl, Nat.le_of_ble_eq_true rfl⟩) rfl hl.1 rfl (Nat.le_of_ble_eq_true rfl) d_Model_add_271 ⟨Nat.le_of_ble_eq_true rfl, Nat.le_of_ble_eq_true rfl⟩ (fun v126 L126 κ126 H locs hp126 hM hS => ?_)
                                obtain ⟨rfl, rfl, hV126, hk126⟩ := hp126
                                exact mw_iret hx hb hr hM hS hlocks d_Model_add_274 (by rw [show mAdd u x k v n m1 S = ((mIns u x (mWl v 8 (mHead x k n (mLoad u S)))).1, (mIns u x (mWl v 8 (mHead x k n (mLoad u S)))).2) by first | (exfalso; omega) | (unfold mAdd; rw [if_neg (by omega), if_neg (zne2 c14), if_neg (zne2 (by assumption))]; unfold mAdd2; rw [if_neg hwhy, show mAddV k v n m1 (mHead x k n (mLoad u S)) = (mWl v 8 (mHead x k n (mLoad u S))) by unfold mAddV; (first | (exfalso; omega) | (repeat (first | rw [if_pos (by first | assumption | omega)] | rw [if_neg (by first | assumption | exact zne (by assumption) | omega)])))])]; exact ⟨rfl, rfl, hV126, (fun r h => by rw [hk126 r (by omega), hk124 r (by omega), hk98 r (by omega), hk13 r (by omega)])⟩)
                              · refine lv_iconst (v := iI (4)) hx hb d_Model_add_168 rfl ?_
                                refine lv_goto (tgt := 174) hx hb d_Model_add_169 (by decide) ?_
                                refine mw_callV (i := 40) (As := [.long (lI v), .int (iI 4)]) (rest := []) ⟨hx, hb, hml, hown, hts⟩ hK hM hS rfl hV98.1 rfl (c_Model_writeLow l D g lo L κ98 (mHead x k n (mLoad u S)) hV98 v 4 (by omega) (by omega) (by omega)) (cwV 2 hts (gV m_776 m_778 m_41 m_58 m_779) rfl rfl rfl (by decide +kernel) ⟨Nat.le_of_ble_eq_true rfl, Nat.le_of_ble_eq_true rfl⟩) rfl hl.1 rfl (Nat.le_of_ble_eq_true rfl) d_Model_add_174 ⟨Nat.le_of_ble_eq_true rfl, Nat.le_of_ble_eq_true rfl⟩ (fun v127 L127 κ127 H locs hp127 hM hS => ?_)
                                obtain ⟨rfl, rfl, hV127, hk127⟩ := hp127
                                have r128 := (mWl_k (v := v) (n := 4) (S := mHead x k n (mLoad u S)) (by omega)).2
                                refine lv_goto (tgt := 268) hx hb d_Model_add_177 (by decide) ?_
                                have hkp : mKp (mLoad u S) (mWl v 4 (mHead x k n (mLoad u S))) := by refine mKp_t (mHead_k (x := x) (k := k) (n := n) (S := mLoad u S) (by omega)).1 ?_; first | exact mKp_r | exact (mWl_k (by omega)).1 | exact mWr_k | exact mKp_t hkw mWr_k | exact mKp_t (mWl_k (by omega)).1 mWr_k
                                have hf3 := hkp.2 3 (by decide)
                                refine lv_aload_n hx hb d_Model_add_268 rfl (lv_at hl 1 rfl) ?_
                                refine lv_iload_n hx hb d_Model_add_269 rfl (lv_at hl 2 rfl) ?_
                                refine lv_iload_n hx hb d_Model_add_270 rfl (lv_at hl 3 rfl) ?_
                                refine mw_callV (i := 40) (As := [.int (iI u), .int (iI x)]) (rest := []) ⟨hx, hb, hml, hown, hts⟩ hK hM hS rfl hV127.1 rfl (c_Model_insert l D g lo L κ127 (mWl v 4 (mHead x k n (mLoad u S))) hV127 u x (mSlot_iff.mp hyu) (by rw [hkp.2 3 (by decide)]; omega) (mTb_kt hT (mKt_p hkp)) (mEn_kp hE hkp) (by omega)) (cwV 2 hts (gV m_781 m_783 m_42 m_58 m_784) rfl rfl rfl (by decide +kernel) ⟨Nat.le_of_ble_eq_true rfl, Nat.le_of_ble_eq_true rfl⟩) rfl hl.1 rfl (Nat.le_of_ble_eq_true rfl) d_Model_add_271 ⟨Nat.le_of_ble_eq_true rfl, Nat.le_of_ble_eq_true rfl⟩ (fun v129 L129 κ129 H locs hp129 hM hS => ?_)
                                obtain ⟨rfl, rfl, hV129, hk129⟩ := hp129
                                exact mw_iret hx hb hr hM hS hlocks d_Model_add_274 (by rw [show mAdd u x k v n m1 S = ((mIns u x (mWl v 4 (mHead x k n (mLoad u S)))).1, (mIns u x (mWl v 4 (mHead x k n (mLoad u S)))).2) by first | (exfalso; omega) | (unfold mAdd; rw [if_neg (by omega), if_neg (zne2 c14), if_neg (zne2 (by assumption))]; unfold mAdd2; rw [if_neg hwhy, show mAddV k v n m1 (mHead x k n (mLoad u S)) = (mWl v 4 (mHead x k n (mLoad u S))) by unfold mAddV; (first | (exfalso; omega) | (repeat (first | rw [if_pos (by first | assumption | omega)] | rw [if_neg (by first | assumption | exact zne (by assumption) | omega)])))])]; exact ⟨rfl, rfl, hV129, (fun r h => by rw [hk129 r (by omega), hk127 r (by omega), hk98 r (by omega), hk13 r (by omega)])⟩)
                        · exact absurd (by decide) c97
                      · refine lv_bipush (v := iI (-4)) hx hb d_Model_add_118 (by decide) ?_
                        refine lv_goto (tgt := 124) hx hb d_Model_add_120 (by decide) ?_
                        refine lv_istore (lv' := [(8, .int (iI (-4))), (0, .ref (L 40)), (1, .int (iI u)), (2, .int (iI x)), (3, .int (iI k)), (4, .long (lI v)), (6, .int (iI n)), (7, .int (iI m1))]) hx hb d_Model_add_124 hl (by decide) rfl (fun ls hl => ?_)
                        refine lv_iload hx hb d_Model_add_126 (lv_at hl 0 rfl) ?_
                        refine ia_if_ge (a := -4) (tgt := 139) hx hb d_Model_add_128 (by decide) (by omega) (fun c130 => ?_) (fun c130 => ?_)
                        · exact absurd c130 (by decide)
                        · refine lv_aload_n hx hb d_Model_add_131 rfl (lv_at hl 1 rfl) ?_
                          refine lv_iconst (v := iI (0)) hx hb d_Model_add_132 rfl ?_
                          refine mw_put (ci := 4) (i := 40) (v := .int (iI 0)) (C := R_Model) (T := T_Model) (N := 23) hx hb hts in_Model ty_Model ty_Model_ok nm_Model hown hK hM hS hV13.1 rfl rfl 2 (by decide) (hts _ m_547) rfl (ty_Model_ok 2 (by decide)) rfl rfl (Nat.le_of_ble_eq_true rfl) d_Model_add_133 (fun κ131 H locs e131 hk131 hM hS => ?_)
                          have e131 : κ131 40 = some (.inr (4, [.int (iI ((mLoad u S).f 8)), .ref (L 41), .int (iI 0), .int (iI ((mLoad u S).f 1)), .ref (L 42), .ref (L 43), .ref (L 44), .int (iI ((mLoad u S).f 2)), .int (iI ((mLoad u S).f 3)), .ref (L 45), .ref (L 46), .ref (L 47), .ref (L 48), .ref (L 49), .int (iI ((mLoad u S).f 4)), .int (iI ((mLoad u S).f 5)), .int (iI ((mLoad u S).f 6)), .ref (L 50), .ref (L 51), .ref (L 52), .ref (L 53), .ref (L 54), .int (iI ((mLoad u S).f 7))])) := e131
                          have hV131 : mds g L κ131 ((mLoad u S).pf 0 0) := mds_pf hV13 e131 hk131 (by first | omega | (split <;> omega))
                          refine lv_iload hx hb d_Model_add_136 (lv_at hl 0 rfl) ?_
                          exact mw_iret hx hb hr hM hS hlocks d_Model_add_138 (by rw [show mAdd u x k v n m1 S = (-4, (mLoad u S).pf 0 0) by first | (exfalso; omega) | (unfold mAdd; rw [if_neg (by omega), if_neg (zne2 c14), if_neg (zne2 (by assumption))]; unfold mAdd2; rw [show mAddWhy x k v n m1 (mLoad u S) = -4 by unfold mAddWhy; rw [if_neg (zne2 (by assumption)), if_neg (by rintro (z | z); exact absurd z (zne2 (by assumption)); omega), if_pos (by omega)], if_pos (by decide)])]; exact ⟨rfl, rfl, hV131, (fun r h => by rw [hk131 r (by omega), hk13 r (by omega)])⟩)
                · refine lv_bipush (v := iI (-3)) hx hb d_Model_add_92 (by decide) ?_
                  refine lv_goto (tgt := 124) hx hb d_Model_add_94 (by decide) ?_
                  refine lv_istore (lv' := [(8, .int (iI (-3))), (0, .ref (L 40)), (1, .int (iI u)), (2, .int (iI x)), (3, .int (iI k)), (4, .long (lI v)), (6, .int (iI n)), (7, .int (iI m1))]) hx hb d_Model_add_124 hl (by decide) rfl (fun ls hl => ?_)
                  refine lv_iload hx hb d_Model_add_126 (lv_at hl 0 rfl) ?_
                  refine ia_if_ge (a := -3) (tgt := 139) hx hb d_Model_add_128 (by decide) (by omega) (fun c132 => ?_) (fun c132 => ?_)
                  · exact absurd c132 (by decide)
                  · refine lv_aload_n hx hb d_Model_add_131 rfl (lv_at hl 1 rfl) ?_
                    refine lv_iconst (v := iI (0)) hx hb d_Model_add_132 rfl ?_
                    refine mw_put (ci := 4) (i := 40) (v := .int (iI 0)) (C := R_Model) (T := T_Model) (N := 23) hx hb hts in_Model ty_Model ty_Model_ok nm_Model hown hK hM hS hV13.1 rfl rfl 2 (by decide) (hts _ m_547) rfl (ty_Model_ok 2 (by decide)) rfl rfl (Nat.le_of_ble_eq_true rfl) d_Model_add_133 (fun κ133 H locs e133 hk133 hM hS => ?_)
                    have e133 : κ133 40 = some (.inr (4, [.int (iI ((mLoad u S).f 8)), .ref (L 41), .int (iI 0), .int (iI ((mLoad u S).f 1)), .ref (L 42), .ref (L 43), .ref (L 44), .int (iI ((mLoad u S).f 2)), .int (iI ((mLoad u S).f 3)), .ref (L 45), .ref (L 46), .ref (L 47), .ref (L 48), .ref (L 49), .int (iI ((mLoad u S).f 4)), .int (iI ((mLoad u S).f 5)), .int (iI ((mLoad u S).f 6)), .ref (L 50), .ref (L 51), .ref (L 52), .ref (L 53), .ref (L 54), .int (iI ((mLoad u S).f 7))])) := e133
                    have hV133 : mds g L κ133 ((mLoad u S).pf 0 0) := mds_pf hV13 e133 hk133 (by first | omega | (split <;> omega))
                    refine lv_iload hx hb d_Model_add_136 (lv_at hl 0 rfl) ?_
                    exact mw_iret hx hb hr hM hS hlocks d_Model_add_138 (by rw [show mAdd u x k v n m1 S = (-3, (mLoad u S).pf 0 0) by first | (exfalso; omega) | (unfold mAdd; rw [if_neg (by omega), if_neg (zne2 c14), if_neg (zne2 (by assumption))]; unfold mAdd2; rw [show mAddWhy x k v n m1 (mLoad u S) = -3 by unfold mAddWhy; rw [if_neg (zne2 (by assumption)), if_pos (by first | exact Or.inl (by assumption) | exact Or.inr (by omega))], if_pos (by decide)])]; exact ⟨rfl, rfl, hV133, (fun r h => by rw [hk133 r (by omega), hk13 r (by omega)])⟩)
            · refine lv_bipush (v := iI (-2)) hx hb d_Model_add_60 (by decide) ?_
              refine lv_goto (tgt := 124) hx hb d_Model_add_62 (by decide) ?_
              refine lv_istore (lv' := [(8, .int (iI (-2))), (0, .ref (L 40)), (1, .int (iI u)), (2, .int (iI x)), (3, .int (iI k)), (4, .long (lI v)), (6, .int (iI n)), (7, .int (iI m1))]) hx hb d_Model_add_124 hl (by decide) rfl (fun ls hl => ?_)
              refine lv_iload hx hb d_Model_add_126 (lv_at hl 0 rfl) ?_
              refine ia_if_ge (a := -2) (tgt := 139) hx hb d_Model_add_128 (by decide) (by omega) (fun c134 => ?_) (fun c134 => ?_)
              · exact absurd c134 (by decide)
              · refine lv_aload_n hx hb d_Model_add_131 rfl (lv_at hl 1 rfl) ?_
                refine lv_iconst (v := iI (0)) hx hb d_Model_add_132 rfl ?_
                refine mw_put (ci := 4) (i := 40) (v := .int (iI 0)) (C := R_Model) (T := T_Model) (N := 23) hx hb hts in_Model ty_Model ty_Model_ok nm_Model hown hK hM hS hV13.1 rfl rfl 2 (by decide) (hts _ m_547) rfl (ty_Model_ok 2 (by decide)) rfl rfl (Nat.le_of_ble_eq_true rfl) d_Model_add_133 (fun κ135 H locs e135 hk135 hM hS => ?_)
                have e135 : κ135 40 = some (.inr (4, [.int (iI ((mLoad u S).f 8)), .ref (L 41), .int (iI 0), .int (iI ((mLoad u S).f 1)), .ref (L 42), .ref (L 43), .ref (L 44), .int (iI ((mLoad u S).f 2)), .int (iI ((mLoad u S).f 3)), .ref (L 45), .ref (L 46), .ref (L 47), .ref (L 48), .ref (L 49), .int (iI ((mLoad u S).f 4)), .int (iI ((mLoad u S).f 5)), .int (iI ((mLoad u S).f 6)), .ref (L 50), .ref (L 51), .ref (L 52), .ref (L 53), .ref (L 54), .int (iI ((mLoad u S).f 7))])) := e135
                have hV135 : mds g L κ135 ((mLoad u S).pf 0 0) := mds_pf hV13 e135 hk135 (by first | omega | (split <;> omega))
                refine lv_iload hx hb d_Model_add_136 (lv_at hl 0 rfl) ?_
                exact mw_iret hx hb hr hM hS hlocks d_Model_add_138 (by rw [show mAdd u x k v n m1 S = (-2, (mLoad u S).pf 0 0) by first | (exfalso; omega) | (unfold mAdd; rw [if_neg (by omega), if_neg (zne2 c14), if_neg (zne2 (by assumption))]; unfold mAdd2; rw [show mAddWhy x k v n m1 (mLoad u S) = -2 by unfold mAddWhy; rw [if_pos (by assumption)], if_pos (by decide)])]; exact ⟨rfl, rfl, hV135, (fun r h => by rw [hk135 r (by omega), hk13 r (by omega)])⟩)
          · refine lv_iconst (v := iI (-1)) hx hb d_Model_add_43 rfl ?_
            exact mw_iret hx hb hr hM hS hlocks d_Model_add_44 (by rw [show mAdd u x k v n m1 S = (-1, mLoad u S) by first | (exfalso; omega) | (unfold mAdd; rw [if_neg (by omega), if_neg (zne2 c14), if_pos (by assumption)])]; exact ⟨rfl, rfl, hV13, (fun r h => by rw [hk13 r (by omega)])⟩)
set_option maxHeartbeats 4000000 in
set_option maxRecDepth 100000 in
theorem c_Model_set (l : Launch) (D : va_G) (g : Nat → ClassId) (lo : Nat) (L : Nat → Nat) (κ : Nat → Option va_E) (S : MS) (hV : mds g L κ S) (u x v : Int) (hu : -2147483648 ≤ u ∧ u < 2147483648) (hx : -2147483648 ≤ x ∧ x < 2147483648) (hv : -9223372036854775808 ≤ v ∧ v < 9223372036854775808) (hL : mLdOK u S) (hz : mSzs S) (hEn : mSlot u = true → mEn (mLoad u S)) : Met l y_Model_set w_Model_set ({ frames := 8, cells := 0, slots := 0, locals := 198 }) (mwP D vwCl (tyL g) lo L κ [.ref (L 40), .int (iI u), .int (iI x), .long (lI v)]) (mwQ D vwCl lo (mdQ g L κ (some (.int (iI (bI (mSet u x v S).1)))) (mSet u x v S).2)) 0 0 (fun q => lo ≤ q) := by
  refine Met.ofW (cc := b_Model_set) (maxL := 8) (ret := (Option.some Jvm.ClassFile.FieldType.boolean)) (by decide) rfl ?_
  intro p e s m args below meth c s₁ B hml hpre
  obtain ⟨hargs, hM, hK⟩ := hpre
  have hx := B.exec
  have hb := B.bytes
  have hr := B.returns
  have hts : ∀ w ∈ wA, w.before args s = true := fun w h => atoms_spec (ws := w_Model_set) B.pre w (List.mem_cons_of_mem _ h)
  have hown : s.vm.findClass R_Model = some m.cls := findClass_of_methodNamed B.named
  have hlocks := B.notSynchronized
  have hS : va_S (fun q => lo ≤ q) s.heap s.heap [] := va_S.rf
  have loop83 : ∀ (N : Nat) (i : Int) (n0 : Int) (S1 : MS) (κ1 : Nat → Option va_E), (n0 - i).toNat < N → (mds g L κ1 S1) → (∀ r, (r < 40 ∨ 54 < r) → κ1 r = κ r) → (0 ≤ i ∧ i ≤ n0 ∧ n0 ≤ 8) → ((mIsNode u x S).1 = true ∧ (mKind x (mLoad u S) = 16 ∨ mKind x (mLoad u S) = 18 ∨ mKind x (mLoad u S) = 8) ∧ mCan 0 (mKind x (mLoad u S)) v 0 0 (mLoad u S) = true ∧ n0 = mWid (mKind x (mLoad u S)) ∧ S1.f 2 = (mLoad u S).f 2) → (mKt (mLoad u S) S1) → (mPlN (mVal x (mLoad u S)) v (n0 - 0).toNat 0 (mLoad u S) = mPlN (mVal x (mLoad u S)) v (n0 - i).toNat i S1) → ∀ (H : Heap) (locs : List Loc) (ls : Array Slot), mw D vwCl lo L κ1 H → va_S (fun q => lo ≤ q) s.heap H locs → lv_has ls 8 [(7, .int (iI i)), (6, .int (iI n0)), (5, .int (iI (mKind x (mLoad u S)))), (0, .ref (L 40)), (1, .int (iI u)), (2, .int (iI x)), (3, .long (lI v))] → W p l e (headSpec w_Model_set ({ frames := 8, cells := 0, slots := 0, locals := 198 })).room s m args below meth c H locs 0 0 (MQ below (mwQ D vwCl lo (mdQ g L κ (some (.int (iI (bI (mSet u x v S).1)))) (mSet u x v S).2)) args s 0 0 (fun q => lo ≤ q)) (F0 m 83 ls []) := by
    intro N
    induction N with
    | zero => intro i n0 S1 κ1 hms; exact absurd hms (Nat.not_lt_zero _)
    | succ N ih =>
      intro i n0 S1 κ1 hms hV1 hf1 hi hg hkt hres H locs ls hM hS hl
      obtain ⟨hyu, hyb, hyc⟩ := mNode_t hg.1
      have hT := mTb_kt (hL hyu).2 hkt
      have hTf : S1.f 3 = (mLoad u S).f 3 := hkt.2 3 (by decide) (by decide) (by decide)
      have hE := hEn hyu
      have hE1 := hE.1
      have hs1 := mSlot_iff.mp hyu
      have hfw := hg.2.2.2.2
      refine lv_iload hx hb d_Model_set_83 (lv_at hl 0 rfl) ?_
      refine lv_iload hx hb d_Model_set_85 (lv_at hl 1 rfl) ?_
      refine ia_icmp_ge (a := i) (b := n0) (tgt := 121) hx hb d_Model_set_87 (by decide) (by omega) (by omega) (fun c1 => ?_) (fun c1 => ?_)
      · refine lv_aload_n hx hb d_Model_set_121 rfl (lv_at hl 3 rfl) ?_
        refine lv_iload_n hx hb d_Model_set_122 rfl (lv_at hl 4 rfl) ?_
        refine mw_callV (i := 40) (As := [.int (iI u)]) (rest := []) ⟨hx, hb, hml, hown, hts⟩ hK hM hS rfl hV1.1 rfl (c_Model_store l D g lo L κ1 S1 hV1 u (by omega) (by omega)) (cwV 1 hts (gV m_686 m_688 m_27 m_58 m_689) rfl rfl rfl (by decide +kernel) ⟨Nat.le_of_ble_eq_true rfl, Nat.le_of_ble_eq_true rfl⟩) rfl hl.1 rfl (Nat.le_of_ble_eq_true rfl) d_Model_set_123 ⟨Nat.le_of_ble_eq_true rfl, Nat.le_of_ble_eq_true rfl⟩ (fun v2 L2 κ2 H locs hp2 hM hS => ?_)
        obtain ⟨rfl, rfl, hV2, hk2⟩ := hp2
        refine lv_iconst (v := iI (1)) hx hb d_Model_set_126 rfl ?_
        exact mw_zret (v := true) hx hb hr hM hS hlocks d_Model_set_127 (by rw [show mSet u x v S = (true, mStore u S1) by first | (exfalso; omega) | (unfold mSet; rw [if_neg (zne2 hg.1), if_neg (by rintro (z | z); exact z hg.2.1; exact absurd z (zne2 hg.2.2.1)), ← hg.2.2.2.1, hres, mPlN_e (by omega)])]; exact ⟨rfl, rfl, hV2, (fun r h => by rw [hk2 r (by omega), hf1 r (by omega)])⟩)
      · refine lv_aload_n hx hb d_Model_set_90 rfl (lv_at hl 3 rfl) ?_
        refine mw_get (ci := 4) (i := 40) (v := .ref (L 44)) (C := R_Model) (T := T_Model) (N := 23) hx hb hts in_Model hown hK hM hV1.1 rfl rfl 6 (by decide) (hts _ m_551) rfl d_Model_set_91 ?_
        refine lv_aload_n hx hb d_Model_set_94 rfl (lv_at hl 3 rfl) ?_
        refine lv_iload_n hx hb d_Model_set_95 rfl (lv_at hl 5 rfl) ?_
        refine mw_rdV (i := 40) (As := [.int (iI x)]) (rest := [.ref (L 44)]) ⟨hx, hb, hml, hown, hts⟩ hK hM hS rfl hV1.1 rfl (c_Model_valueAt l D g lo L κ1 S1 hV1 x (by omega) hT) (cwV 1 hts (gV m_722 m_724 m_32 m_58 m_725) rfl rfl rfl (by decide +kernel) ⟨Nat.le_of_ble_eq_true rfl, Nat.le_of_ble_eq_true rfl⟩) rfl hl.1 rfl (Nat.le_of_ble_eq_true rfl) d_Model_set_96 ⟨Nat.le_of_ble_eq_true rfl, Nat.le_of_ble_eq_true rfl⟩ (fun H locs hM hS => ?_)
        have r3 := mVal_r hT (x := x) (by omega)
        refine lv_iload hx hb d_Model_set_99 (lv_at hl 0 rfl) ?_
        refine ia_add hx hb d_Model_set_101 ?_
        refine lv_lload_n hx hb d_Model_set_102 rfl (lv_at hl 6 rfl) ?_
        refine lv_bipush (v := iI (8)) hx hb d_Model_set_103 (by decide) ?_
        refine lv_iload hx hb d_Model_set_105 (lv_at hl 0 rfl) ?_
        refine ia_mul hx hb d_Model_set_107 ?_
        refine ia_lshr hx hb (by omega) (by omega) d_Model_set_108 ?_
        refine lv_ldc2 (v := 255) hx hb hown (hts _ m_780) d_Model_set_109 ?_
        refine W.eq (g2 := F0 m 112 ls (.long (lI 255) :: .long (lI (v / 2 ^ (8 * i).toNat)) :: .int (iI ((mVal x S1) + i)) :: .ref (L 44) :: [])) (by rfl) ?_
        refine ia_land255 hx hb d_Model_set_112 ?_
        refine ia_l2i hx hb d_Model_set_113 ?_
        refine mw_iast (n := 4400) (f := S1.a 3) (a := (mVal x S1) + i) (v := (v / 2 ^ (8 * i).toNat) % 256) (i := 44) hx hb hK hM hS 1 (hV1.2.1 3 (by decide)) rfl rfl (by omega) (by decide) d_Model_set_114 (fun κ4 H locs e4 hk4 hM hS => ?_)
        have hV4 : mds g L κ4 (S1.st 3 (((mVal x S1) + i : Int).toNat) ((v / 2 ^ (8 * i).toNat) % 256)) := mds_st (k := 3) hV1 (by decide) e4 hk4 (show (0 : Int) ≤ (v / 2 ^ (8 * i).toNat) % 256 ∧ (v / 2 ^ (8 * i).toNat) % 256 ≤ 255 by first | omega | (split <;> omega))
        refine lv_iinc (v := iI (i + 1)) (lv' := [(7, .int (iI (i + 1))), (6, .int (iI n0)), (5, .int (iI (mKind x (mLoad u S)))), (0, .ref (L 40)), (1, .int (iI u)), (2, .int (iI x)), (3, .long (lI v))]) hx hb d_Model_set_115 hl (k := 0) rfl (iI_inc _ _) (by decide) rfl (fun ls hl => ?_)
        refine lv_goto (tgt := 83) hx hb d_Model_set_118 (by decide) ?_
        exact ih (i + 1) n0 (S1.st 3 (((mVal x S1) + i : Int).toNat) ((v / 2 ^ (8 * i).toNat) % 256)) κ4 (by omega) hV4 (fun r h => by rw [hk4 r (by omega), hf1 r (by omega)]) (by omega) hg (mKt_t hkt st3) (by rw [hres, mPlN_s (by omega), mVal_kt hkt x]) _ _ ls hM hS (lv_sub hl [0, 1, 2, 3, 4, 5, 6] rfl)
  obtain ⟨ls, hls, hl⟩ := mw_entry (m := m) [.ref (L 40), .int (iI u), .int (iI x), .long (lI v)] (n := 8) (Nat.le_of_ble_eq_true rfl) hargs
  refine W.eq hls ?_
  have hl : lv_has ls 8 [(0, .ref (L 40)), (1, .int (iI u)), (2, .int (iI x)), (3, .long (lI v))] := hl
  refine lv_aload_n hx hb d_Model_set_0 rfl (lv_at hl 0 rfl) ?_
  refine lv_iload_n hx hb d_Model_set_1 rfl (lv_at hl 1 rfl) ?_
  refine lv_iload_n hx hb d_Model_set_2 rfl (lv_at hl 2 rfl) ?_
  refine mw_callV (i := 40) (As := [.int (iI u), .int (iI x)]) (rest := []) ⟨hx, hb, hml, hown, hts⟩ hK hM hS rfl hV.1 rfl (c_Model_isNode l D g lo L κ S hV u x (by omega) (by omega) hL hz) (cwV 2 hts (gV m_710 m_712 m_29 m_58 m_713) rfl rfl rfl (by decide +kernel) ⟨Nat.le_of_ble_eq_true rfl, Nat.le_of_ble_eq_true rfl⟩) rfl hl.1 rfl (Nat.le_of_ble_eq_true rfl) d_Model_set_3 ⟨Nat.le_of_ble_eq_true rfl, Nat.le_of_ble_eq_true rfl⟩ (fun v5 L5 κ5 H locs hp5 hM hS => ?_)
  obtain ⟨rfl, rfl, hV5, hk5⟩ := hp5
  refine ia_ifz_ne (x := (mIsNode u x S).1) (tgt := 11) hx hb d_Model_set_6 (by decide) (fun c6 => ?_) (fun c6 => ?_)
  · obtain ⟨hy7a, hy7b, hy7c⟩ := mNode_t c6
    rw [hy7b] at hV5
    have hT := (hL hy7a).2
    have hT1 := hT.1
    have hTx := hT.2 x.toNat (by omega)
    refine lv_aload_n hx hb d_Model_set_11 rfl (lv_at hl 0 rfl) ?_
    refine lv_iload_n hx hb d_Model_set_12 rfl (lv_at hl 2 rfl) ?_
    refine mw_rdV (i := 40) (As := [.int (iI x)]) (rest := []) ⟨hx, hb, hml, hown, hts⟩ hK hM hS rfl hV5.1 rfl (c_Model_kindOf l D g lo L κ5 (mLoad u S) hV5 x (by omega) hT) (cwV 1 hts (gV m_714 m_716 m_30 m_58 m_717) rfl rfl rfl (by decide +kernel) ⟨Nat.le_of_ble_eq_true rfl, Nat.le_of_ble_eq_true rfl⟩) rfl hl.1 rfl (Nat.le_of_ble_eq_true rfl) d_Model_set_13 ⟨Nat.le_of_ble_eq_true rfl, Nat.le_of_ble_eq_true rfl⟩ (fun H locs hM hS => ?_)
    have r8 := mKind_r hV5 x
    refine lv_istore (lv' := [(5, .int (iI (mKind x (mLoad u S)))), (0, .ref (L 40)), (1, .int (iI u)), (2, .int (iI x)), (3, .long (lI v))]) hx hb d_Model_set_16 hl (by decide) rfl (fun ls hl => ?_)
    refine lv_iload hx hb d_Model_set_18 (lv_at hl 0 rfl) ?_
    refine lv_bipush (v := iI (16)) hx hb d_Model_set_20 (by decide) ?_
    refine ia_icmp_eq (a := mKind x (mLoad u S)) (b := 16) (tgt := 39) hx hb d_Model_set_22 (by decide) (by omega) (by omega) (fun c9 => ?_) (fun c9 => ?_)
    · refine lv_aload_n hx hb d_Model_set_39 rfl (lv_at hl 1 rfl) ?_
      refine lv_iconst (v := iI (0)) hx hb d_Model_set_40 rfl ?_
      refine lv_iload hx hb d_Model_set_41 (lv_at hl 0 rfl) ?_
      refine lv_lload_n hx hb d_Model_set_43 rfl (lv_at hl 4 rfl) ?_
      refine lv_iconst (v := iI (0)) hx hb d_Model_set_44 rfl ?_
      refine lv_iconst (v := iI (0)) hx hb d_Model_set_45 rfl ?_
      refine mw_rdV (i := 40) (As := [.int (iI 0), .int (iI (mKind x (mLoad u S))), .long (lI v), .int (iI 0), .int (iI 0)]) (rest := []) ⟨hx, hb, hml, hown, hts⟩ hK hM hS rfl hV5.1 rfl (c_Model_canBe l D g lo L κ5 (mLoad u S) hV5 0 (mKind x (mLoad u S)) v 0 0 (by omega) (by omega) (by omega) (by omega) (by omega) hT) (cwV 5 hts (gV m_758 m_760 m_37 m_58 m_761) rfl rfl rfl (by decide +kernel) ⟨Nat.le_of_ble_eq_true rfl, Nat.le_of_ble_eq_true rfl⟩) rfl hl.1 rfl (Nat.le_of_ble_eq_true rfl) d_Model_set_46 ⟨Nat.le_of_ble_eq_true rfl, Nat.le_of_ble_eq_true rfl⟩ (fun H locs hM hS => ?_)
      refine ia_ifz_ne (x := mCan 0 (mKind x (mLoad u S)) v 0 0 (mLoad u S)) (tgt := 54) hx hb d_Model_set_49 (by decide) (fun c10 => ?_) (fun c10 => ?_)
      · refine lv_iload hx hb d_Model_set_54 (lv_at hl 0 rfl) ?_
        refine lv_bipush (v := iI (16)) hx hb d_Model_set_56 (by decide) ?_
        refine ia_icmp_ne (a := mKind x (mLoad u S)) (b := 16) (tgt := 65) hx hb d_Model_set_58 (by decide) (by omega) (by omega) (fun c11 => ?_) (fun c11 => ?_)
        · refine lv_iload hx hb d_Model_set_65 (lv_at hl 0 rfl) ?_
          refine lv_bipush (v := iI (18)) hx hb d_Model_set_67 (by decide) ?_
          refine ia_icmp_ne (a := mKind x (mLoad u S)) (b := 18) (tgt := 77) hx hb d_Model_set_69 (by decide) (by omega) (by omega) (fun c12 => ?_) (fun c12 => ?_)
          · refine lv_iconst (v := iI (1)) hx hb d_Model_set_77 rfl ?_
            refine lv_istore (lv' := [(6, .int (iI 1)), (5, .int (iI (mKind x (mLoad u S)))), (0, .ref (L 40)), (1, .int (iI u)), (2, .int (iI x)), (3, .long (lI v))]) hx hb d_Model_set_78 hl (by decide) rfl (fun ls hl => ?_)
            refine lv_iconst (v := iI (0)) hx hb d_Model_set_80 rfl ?_
            refine lv_istore (lv' := [(7, .int (iI 0)), (6, .int (iI 1)), (5, .int (iI (mKind x (mLoad u S)))), (0, .ref (L 40)), (1, .int (iI u)), (2, .int (iI x)), (3, .long (lI v))]) hx hb d_Model_set_81 hl (by decide) rfl (fun ls hl => ?_)
            exact loop83 _ 0 1 (mLoad u S) κ5 (Nat.lt_succ_self _) hV5 (fun r h => by rw [hk5 r (by omega)]) (by omega) ⟨c6, by omega, by assumption, by unfold mWid; first | (exfalso; omega) | (symm; (first | (exfalso; omega) | (repeat (first | rw [if_pos (by first | assumption | omega)] | rw [if_neg (by first | assumption | exact zne (by assumption) | omega)])))), rfl⟩ mKt_r rfl _ _ ls hM hS (lv_sub hl [0, 1, 2, 3, 4, 5, 6] rfl)
          · refine lv_bipush (v := iI (8)) hx hb d_Model_set_72 (by decide) ?_
            refine lv_goto (tgt := 78) hx hb d_Model_set_74 (by decide) ?_
            refine lv_istore (lv' := [(6, .int (iI 8)), (5, .int (iI (mKind x (mLoad u S)))), (0, .ref (L 40)), (1, .int (iI u)), (2, .int (iI x)), (3, .long (lI v))]) hx hb d_Model_set_78 hl (by decide) rfl (fun ls hl => ?_)
            refine lv_iconst (v := iI (0)) hx hb d_Model_set_80 rfl ?_
            refine lv_istore (lv' := [(7, .int (iI 0)), (6, .int (iI 8)), (5, .int (iI (mKind x (mLoad u S)))), (0, .ref (L 40)), (1, .int (iI u)), (2, .int (iI x)), (3, .long (lI v))]) hx hb d_Model_set_81 hl (by decide) rfl (fun ls hl => ?_)
            exact loop83 _ 0 8 (mLoad u S) κ5 (Nat.lt_succ_self _) hV5 (fun r h => by rw [hk5 r (by omega)]) (by omega) ⟨c6, by omega, by assumption, by unfold mWid; first | (exfalso; omega) | (symm; (first | (exfalso; omega) | (repeat (first | rw [if_pos (by first | assumption | omega)] | rw [if_neg (by first | assumption | exact zne (by assumption) | omega)])))), rfl⟩ mKt_r rfl _ _ ls hM hS (lv_sub hl [0, 1, 2, 3, 4, 5, 6] rfl)
        · refine lv_iconst (v := iI (4)) hx hb d_Model_set_61 rfl ?_
          refine lv_goto (tgt := 78) hx hb d_Model_set_62 (by decide) ?_
          refine lv_istore (lv' := [(6, .int (iI 4)), (5, .int (iI (mKind x (mLoad u S)))), (0, .ref (L 40)), (1, .int (iI u)), (2, .int (iI x)), (3, .long (lI v))]) hx hb d_Model_set_78 hl (by decide) rfl (fun ls hl => ?_)
          refine lv_iconst (v := iI (0)) hx hb d_Model_set_80 rfl ?_
          refine lv_istore (lv' := [(7, .int (iI 0)), (6, .int (iI 4)), (5, .int (iI (mKind x (mLoad u S)))), (0, .ref (L 40)), (1, .int (iI u)), (2, .int (iI x)), (3, .long (lI v))]) hx hb d_Model_set_81 hl (by decide) rfl (fun ls hl => ?_)
          exact loop83 _ 0 4 (mLoad u S) κ5 (Nat.lt_succ_self _) hV5 (fun r h => by rw [hk5 r (by omega)]) (by omega) ⟨c6, by omega, by assumption, by unfold mWid; first | (exfalso; omega) | (symm; (first | (exfalso; omega) | (repeat (first | rw [if_pos (by first | assumption | omega)] | rw [if_neg (by first | assumption | exact zne (by assumption) | omega)])))), rfl⟩ mKt_r rfl _ _ ls hM hS (lv_sub hl [0, 1, 2, 3, 4, 5, 6] rfl)
      · refine lv_iconst (v := iI (0)) hx hb d_Model_set_52 rfl ?_
        exact mw_zret (v := false) hx hb hr hM hS hlocks d_Model_set_53 (by rw [show mSet u x v S = (false, mLoad u S) by first | (exfalso; omega) | (unfold mSet; rw [if_neg (zne2 c6), if_pos (by first | exact Or.inl (by omega) | exact Or.inr (by assumption))])]; exact ⟨rfl, rfl, hV5, (fun r h => by rw [hk5 r (by omega)])⟩)
    · refine lv_iload hx hb d_Model_set_25 (lv_at hl 0 rfl) ?_
      refine lv_bipush (v := iI (18)) hx hb d_Model_set_27 (by decide) ?_
      refine ia_icmp_eq (a := mKind x (mLoad u S)) (b := 18) (tgt := 39) hx hb d_Model_set_29 (by decide) (by omega) (by omega) (fun c13 => ?_) (fun c13 => ?_)
      · refine lv_aload_n hx hb d_Model_set_39 rfl (lv_at hl 1 rfl) ?_
        refine lv_iconst (v := iI (0)) hx hb d_Model_set_40 rfl ?_
        refine lv_iload hx hb d_Model_set_41 (lv_at hl 0 rfl) ?_
        refine lv_lload_n hx hb d_Model_set_43 rfl (lv_at hl 4 rfl) ?_
        refine lv_iconst (v := iI (0)) hx hb d_Model_set_44 rfl ?_
        refine lv_iconst (v := iI (0)) hx hb d_Model_set_45 rfl ?_
        refine mw_rdV (i := 40) (As := [.int (iI 0), .int (iI (mKind x (mLoad u S))), .long (lI v), .int (iI 0), .int (iI 0)]) (rest := []) ⟨hx, hb, hml, hown, hts⟩ hK hM hS rfl hV5.1 rfl (c_Model_canBe l D g lo L κ5 (mLoad u S) hV5 0 (mKind x (mLoad u S)) v 0 0 (by omega) (by omega) (by omega) (by omega) (by omega) hT) (cwV 5 hts (gV m_758 m_760 m_37 m_58 m_761) rfl rfl rfl (by decide +kernel) ⟨Nat.le_of_ble_eq_true rfl, Nat.le_of_ble_eq_true rfl⟩) rfl hl.1 rfl (Nat.le_of_ble_eq_true rfl) d_Model_set_46 ⟨Nat.le_of_ble_eq_true rfl, Nat.le_of_ble_eq_true rfl⟩ (fun H locs hM hS => ?_)
        refine ia_ifz_ne (x := mCan 0 (mKind x (mLoad u S)) v 0 0 (mLoad u S)) (tgt := 54) hx hb d_Model_set_49 (by decide) (fun c14 => ?_) (fun c14 => ?_)
        · refine lv_iload hx hb d_Model_set_54 (lv_at hl 0 rfl) ?_
          refine lv_bipush (v := iI (16)) hx hb d_Model_set_56 (by decide) ?_
          refine ia_icmp_ne (a := mKind x (mLoad u S)) (b := 16) (tgt := 65) hx hb d_Model_set_58 (by decide) (by omega) (by omega) (fun c15 => ?_) (fun c15 => ?_)
          · refine lv_iload hx hb d_Model_set_65 (lv_at hl 0 rfl) ?_
            refine lv_bipush (v := iI (18)) hx hb d_Model_set_67 (by decide) ?_
            refine ia_icmp_ne (a := mKind x (mLoad u S)) (b := 18) (tgt := 77) hx hb d_Model_set_69 (by decide) (by omega) (by omega) (fun c16 => ?_) (fun c16 => ?_)
            · refine lv_iconst (v := iI (1)) hx hb d_Model_set_77 rfl ?_
              refine lv_istore (lv' := [(6, .int (iI 1)), (5, .int (iI (mKind x (mLoad u S)))), (0, .ref (L 40)), (1, .int (iI u)), (2, .int (iI x)), (3, .long (lI v))]) hx hb d_Model_set_78 hl (by decide) rfl (fun ls hl => ?_)
              refine lv_iconst (v := iI (0)) hx hb d_Model_set_80 rfl ?_
              refine lv_istore (lv' := [(7, .int (iI 0)), (6, .int (iI 1)), (5, .int (iI (mKind x (mLoad u S)))), (0, .ref (L 40)), (1, .int (iI u)), (2, .int (iI x)), (3, .long (lI v))]) hx hb d_Model_set_81 hl (by decide) rfl (fun ls hl => ?_)
              exact loop83 _ 0 1 (mLoad u S) κ5 (Nat.lt_succ_self _) hV5 (fun r h => by rw [hk5 r (by omega)]) (by omega) ⟨c6, by omega, by assumption, by unfold mWid; first | (exfalso; omega) | (symm; (first | (exfalso; omega) | (repeat (first | rw [if_pos (by first | assumption | omega)] | rw [if_neg (by first | assumption | exact zne (by assumption) | omega)])))), rfl⟩ mKt_r rfl _ _ ls hM hS (lv_sub hl [0, 1, 2, 3, 4, 5, 6] rfl)
            · refine lv_bipush (v := iI (8)) hx hb d_Model_set_72 (by decide) ?_
              refine lv_goto (tgt := 78) hx hb d_Model_set_74 (by decide) ?_
              refine lv_istore (lv' := [(6, .int (iI 8)), (5, .int (iI (mKind x (mLoad u S)))), (0, .ref (L 40)), (1, .int (iI u)), (2, .int (iI x)), (3, .long (lI v))]) hx hb d_Model_set_78 hl (by decide) rfl (fun ls hl => ?_)
              refine lv_iconst (v := iI (0)) hx hb d_Model_set_80 rfl ?_
              refine lv_istore (lv' := [(7, .int (iI 0)), (6, .int (iI 8)), (5, .int (iI (mKind x (mLoad u S)))), (0, .ref (L 40)), (1, .int (iI u)), (2, .int (iI x)), (3, .long (lI v))]) hx hb d_Model_set_81 hl (by decide) rfl (fun ls hl => ?_)
              exact loop83 _ 0 8 (mLoad u S) κ5 (Nat.lt_succ_self _) hV5 (fun r h => by rw [hk5 r (by omega)]) (by omega) ⟨c6, by omega, by assumption, by unfold mWid; first | (exfalso; omega) | (symm; (first | (exfalso; omega) | (repeat (first | rw [if_pos (by first | assumption | omega)] | rw [if_neg (by first | assumption | exact zne (by assumption) | omega)])))), rfl⟩ mKt_r rfl _ _ ls hM hS (lv_sub hl [0, 1, 2, 3, 4, 5, 6] rfl)
          · refine lv_iconst (v := iI (4)) hx hb d_Model_set_61 rfl ?_
            refine lv_goto (tgt := 78) hx hb d_Model_set_62 (by decide) ?_
            refine lv_istore (lv' := [(6, .int (iI 4)), (5, .int (iI (mKind x (mLoad u S)))), (0, .ref (L 40)), (1, .int (iI u)), (2, .int (iI x)), (3, .long (lI v))]) hx hb d_Model_set_78 hl (by decide) rfl (fun ls hl => ?_)
            refine lv_iconst (v := iI (0)) hx hb d_Model_set_80 rfl ?_
            refine lv_istore (lv' := [(7, .int (iI 0)), (6, .int (iI 4)), (5, .int (iI (mKind x (mLoad u S)))), (0, .ref (L 40)), (1, .int (iI u)), (2, .int (iI x)), (3, .long (lI v))]) hx hb d_Model_set_81 hl (by decide) rfl (fun ls hl => ?_)
            exact loop83 _ 0 4 (mLoad u S) κ5 (Nat.lt_succ_self _) hV5 (fun r h => by rw [hk5 r (by omega)]) (by omega) ⟨c6, by omega, by assumption, by unfold mWid; first | (exfalso; omega) | (symm; (first | (exfalso; omega) | (repeat (first | rw [if_pos (by first | assumption | omega)] | rw [if_neg (by first | assumption | exact zne (by assumption) | omega)])))), rfl⟩ mKt_r rfl _ _ ls hM hS (lv_sub hl [0, 1, 2, 3, 4, 5, 6] rfl)
        · refine lv_iconst (v := iI (0)) hx hb d_Model_set_52 rfl ?_
          exact mw_zret (v := false) hx hb hr hM hS hlocks d_Model_set_53 (by rw [show mSet u x v S = (false, mLoad u S) by first | (exfalso; omega) | (unfold mSet; rw [if_neg (zne2 c6), if_pos (by first | exact Or.inl (by omega) | exact Or.inr (by assumption))])]; exact ⟨rfl, rfl, hV5, (fun r h => by rw [hk5 r (by omega)])⟩)
      · refine lv_iload hx hb d_Model_set_32 (lv_at hl 0 rfl) ?_
        refine lv_bipush (v := iI (8)) hx hb d_Model_set_34 (by decide) ?_
        refine ia_icmp_ne (a := mKind x (mLoad u S)) (b := 8) (tgt := 52) hx hb d_Model_set_36 (by decide) (by omega) (by omega) (fun c17 => ?_) (fun c17 => ?_)
        · refine lv_iconst (v := iI (0)) hx hb d_Model_set_52 rfl ?_
          exact mw_zret (v := false) hx hb hr hM hS hlocks d_Model_set_53 (by rw [show mSet u x v S = (false, mLoad u S) by first | (exfalso; omega) | (unfold mSet; rw [if_neg (zne2 c6), if_pos (by first | exact Or.inl (by omega) | exact Or.inr (by assumption))])]; exact ⟨rfl, rfl, hV5, (fun r h => by rw [hk5 r (by omega)])⟩)
        · refine lv_aload_n hx hb d_Model_set_39 rfl (lv_at hl 1 rfl) ?_
          refine lv_iconst (v := iI (0)) hx hb d_Model_set_40 rfl ?_
          refine lv_iload hx hb d_Model_set_41 (lv_at hl 0 rfl) ?_
          refine lv_lload_n hx hb d_Model_set_43 rfl (lv_at hl 4 rfl) ?_
          refine lv_iconst (v := iI (0)) hx hb d_Model_set_44 rfl ?_
          refine lv_iconst (v := iI (0)) hx hb d_Model_set_45 rfl ?_
          refine mw_rdV (i := 40) (As := [.int (iI 0), .int (iI (mKind x (mLoad u S))), .long (lI v), .int (iI 0), .int (iI 0)]) (rest := []) ⟨hx, hb, hml, hown, hts⟩ hK hM hS rfl hV5.1 rfl (c_Model_canBe l D g lo L κ5 (mLoad u S) hV5 0 (mKind x (mLoad u S)) v 0 0 (by omega) (by omega) (by omega) (by omega) (by omega) hT) (cwV 5 hts (gV m_758 m_760 m_37 m_58 m_761) rfl rfl rfl (by decide +kernel) ⟨Nat.le_of_ble_eq_true rfl, Nat.le_of_ble_eq_true rfl⟩) rfl hl.1 rfl (Nat.le_of_ble_eq_true rfl) d_Model_set_46 ⟨Nat.le_of_ble_eq_true rfl, Nat.le_of_ble_eq_true rfl⟩ (fun H locs hM hS => ?_)
          refine ia_ifz_ne (x := mCan 0 (mKind x (mLoad u S)) v 0 0 (mLoad u S)) (tgt := 54) hx hb d_Model_set_49 (by decide) (fun c18 => ?_) (fun c18 => ?_)
          · refine lv_iload hx hb d_Model_set_54 (lv_at hl 0 rfl) ?_
            refine lv_bipush (v := iI (16)) hx hb d_Model_set_56 (by decide) ?_
            refine ia_icmp_ne (a := mKind x (mLoad u S)) (b := 16) (tgt := 65) hx hb d_Model_set_58 (by decide) (by omega) (by omega) (fun c19 => ?_) (fun c19 => ?_)
            · refine lv_iload hx hb d_Model_set_65 (lv_at hl 0 rfl) ?_
              refine lv_bipush (v := iI (18)) hx hb d_Model_set_67 (by decide) ?_
              refine ia_icmp_ne (a := mKind x (mLoad u S)) (b := 18) (tgt := 77) hx hb d_Model_set_69 (by decide) (by omega) (by omega) (fun c20 => ?_) (fun c20 => ?_)
              · refine lv_iconst (v := iI (1)) hx hb d_Model_set_77 rfl ?_
                refine lv_istore (lv' := [(6, .int (iI 1)), (5, .int (iI (mKind x (mLoad u S)))), (0, .ref (L 40)), (1, .int (iI u)), (2, .int (iI x)), (3, .long (lI v))]) hx hb d_Model_set_78 hl (by decide) rfl (fun ls hl => ?_)
                refine lv_iconst (v := iI (0)) hx hb d_Model_set_80 rfl ?_
                refine lv_istore (lv' := [(7, .int (iI 0)), (6, .int (iI 1)), (5, .int (iI (mKind x (mLoad u S)))), (0, .ref (L 40)), (1, .int (iI u)), (2, .int (iI x)), (3, .long (lI v))]) hx hb d_Model_set_81 hl (by decide) rfl (fun ls hl => ?_)
                exact loop83 _ 0 1 (mLoad u S) κ5 (Nat.lt_succ_self _) hV5 (fun r h => by rw [hk5 r (by omega)]) (by omega) ⟨c6, by omega, by assumption, by unfold mWid; first | (exfalso; omega) | (symm; (first | (exfalso; omega) | (repeat (first | rw [if_pos (by first | assumption | omega)] | rw [if_neg (by first | assumption | exact zne (by assumption) | omega)])))), rfl⟩ mKt_r rfl _ _ ls hM hS (lv_sub hl [0, 1, 2, 3, 4, 5, 6] rfl)
              · refine lv_bipush (v := iI (8)) hx hb d_Model_set_72 (by decide) ?_
                refine lv_goto (tgt := 78) hx hb d_Model_set_74 (by decide) ?_
                refine lv_istore (lv' := [(6, .int (iI 8)), (5, .int (iI (mKind x (mLoad u S)))), (0, .ref (L 40)), (1, .int (iI u)), (2, .int (iI x)), (3, .long (lI v))]) hx hb d_Model_set_78 hl (by decide) rfl (fun ls hl => ?_)
                refine lv_iconst (v := iI (0)) hx hb d_Model_set_80 rfl ?_
                refine lv_istore (lv' := [(7, .int (iI 0)), (6, .int (iI 8)), (5, .int (iI (mKind x (mLoad u S)))), (0, .ref (L 40)), (1, .int (iI u)), (2, .int (iI x)), (3, .long (lI v))]) hx hb d_Model_set_81 hl (by decide) rfl (fun ls hl => ?_)
                exact loop83 _ 0 8 (mLoad u S) κ5 (Nat.lt_succ_self _) hV5 (fun r h => by rw [hk5 r (by omega)]) (by omega) ⟨c6, by omega, by assumption, by unfold mWid; first | (exfalso; omega) | (symm; (first | (exfalso; omega) | (repeat (first | rw [if_pos (by first | assumption | omega)] | rw [if_neg (by first | assumption | exact zne (by assumption) | omega)])))), rfl⟩ mKt_r rfl _ _ ls hM hS (lv_sub hl [0, 1, 2, 3, 4, 5, 6] rfl)
            · refine lv_iconst (v := iI (4)) hx hb d_Model_set_61 rfl ?_
              refine lv_goto (tgt := 78) hx hb d_Model_set_62 (by decide) ?_
              refine lv_istore (lv' := [(6, .int (iI 4)), (5, .int (iI (mKind x (mLoad u S)))), (0, .ref (L 40)), (1, .int (iI u)), (2, .int (iI x)), (3, .long (lI v))]) hx hb d_Model_set_78 hl (by decide) rfl (fun ls hl => ?_)
              refine lv_iconst (v := iI (0)) hx hb d_Model_set_80 rfl ?_
              refine lv_istore (lv' := [(7, .int (iI 0)), (6, .int (iI 4)), (5, .int (iI (mKind x (mLoad u S)))), (0, .ref (L 40)), (1, .int (iI u)), (2, .int (iI x)), (3, .long (lI v))]) hx hb d_Model_set_81 hl (by decide) rfl (fun ls hl => ?_)
              exact loop83 _ 0 4 (mLoad u S) κ5 (Nat.lt_succ_self _) hV5 (fun r h => by rw [hk5 r (by omega)]) (by omega) ⟨c6, by omega, by assumption, by unfold mWid; first | (exfalso; omega) | (symm; (first | (exfalso; omega) | (repeat (first | rw [if_pos (by first | assumption | omega)] | rw [if_neg (by first | assumption | exact zne (by assumption) | omega)])))), rfl⟩ mKt_r rfl _ _ ls hM hS (lv_sub hl [0, 1, 2, 3, 4, 5, 6] rfl)
          · refine lv_iconst (v := iI (0)) hx hb d_Model_set_52 rfl ?_
            exact mw_zret (v := false) hx hb hr hM hS hlocks d_Model_set_53 (by rw [show mSet u x v S = (false, mLoad u S) by first | (exfalso; omega) | (unfold mSet; rw [if_neg (zne2 c6), if_pos (by first | exact Or.inl (by omega) | exact Or.inr (by assumption))])]; exact ⟨rfl, rfl, hV5, (fun r h => by rw [hk5 r (by omega)])⟩)
  · refine lv_iconst (v := iI (0)) hx hb d_Model_set_9 rfl ?_
    exact mw_zret (v := false) hx hb hr hM hS hlocks d_Model_set_10 (by rw [show mSet u x v S = (false, (mIsNode u x S).2) by first | (exfalso; omega) | (unfold mSet; rw [if_pos (by assumption)])]; exact ⟨rfl, rfl, hV5, (fun r h => by rw [hk5 r (by omega)])⟩)
