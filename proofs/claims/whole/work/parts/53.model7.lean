set_option maxHeartbeats 4000000 in
set_option maxRecDepth 100000 in
theorem c_Model_graft (l : Launch) (D : va_G) (g : Nat → ClassId) (lo : Nat) (L : Nat → Nat) (κ : Nat → Option va_E) (S : MS) (hV : mds g L κ S) (u x t y n : Int) (hu : -2147483648 ≤ u ∧ u < 2147483648) (hx : -2147483648 ≤ x ∧ x < 2147483648) (ht : -2147483648 ≤ t ∧ t < 2147483648) (hy : -2147483648 ≤ y ∧ y < 2147483648) (hn : -2147483648 ≤ n ∧ n < 2147483648) (hL : mLdOK u S) (hz : mSzs S) (ht0 : 0 ≤ S.f 0 ∧ S.f 0 ≤ 2000) (hz2 : mSzs (mLoad u S)) (hL2 : mSlot u = true → mLdOK t (mLoad u S)) (hz3 : mSlot u = true → mSlot t = true → mSzs (mLoad t (mLoad u S))) (hL3 : mSlot u = true → mSlot t = true → mLdOK u (mLoad t (mLoad u S))) (hq : mSlot u = true → mSlot t = true → (mLoad u (mLoad t (mLoad u S))).f 3 = (mLoad u S).f 3) (hEnB : mSlot u = true → mSlot t = true → mEn (mLoad t (mLoad u S))) (hEn : mSlot u = true → mSlot t = true → mEn (mLoad u (mLoad t (mLoad u S)))) : Met l y_Model_graft w_Model_graft ({ frames := 8, cells := 0, slots := 0, locals := 198 }) (mwP D vwCl (tyL g) lo L κ [.ref (L 40), .int (iI u), .int (iI x), .int (iI t), .int (iI y), .int (iI n)]) (mwQ D vwCl lo (mdQ g L κ (some (.int (iI (mGraft u x t y n S).1))) (mGraft u x t y n S).2)) 0 0 (fun q => lo ≤ q) := by
  refine Met.ofW (cc := b_Model_graft) (maxL := 12) (ret := (Option.some Jvm.ClassFile.FieldType.int)) (by decide) rfl ?_
  intro p e s m args below meth c s₁ B hml hpre
  obtain ⟨hargs, hM, hK⟩ := hpre
  have hx := B.exec
  have hb := B.bytes
  have hr := B.returns
  have hts : ∀ w ∈ wA, w.before args s = true := fun w h => atoms_spec (ws := w_Model_graft) B.pre w (List.mem_cons_of_mem _ h)
  have hown : s.vm.findClass R_Model = some m.cls := findClass_of_methodNamed B.named
  have hlocks := B.notSynchronized
  have hS : va_S (fun q => lo ≤ q) s.heap s.heap [] := va_S.rf
  have loop183 : ∀ (N : Nat) (i : Int) (S1 : MS) (κ1 : Nat → Option va_E), ((mLoad t (mLoad u S)).a 7 y.toNat - mVal y (mLoad t (mLoad u S)) - i).toNat < N → (mds g L κ1 S1) → (∀ r, (r < 40 ∨ 54 < r) → κ1 r = κ r) → (0 ≤ i ∧ i ≤ (mLoad t (mLoad u S)).a 7 y.toNat - mVal y (mLoad t (mLoad u S)) ∧ S1.f 7 = (mHead x (mKind y (mLoad t (mLoad u S))) n (mLoad u (mLoad t (mLoad u S)))).f 7 + i) → ((mIsNode u x S).1 = true ∧ (mIsNode t y (mLoad u S)).1 = true ∧ (0 ≤ n ∧ n ≤ S.f 0)) → (mBox x (mLoad u S) = true) → (¬ mGrWhy x n (mGrDeep y (mLoad t (mLoad u S))) (mLoad u (mLoad t (mLoad u S))) < 0) → (mKp (mHead x (mKind y (mLoad t (mLoad u S))) n (mLoad u (mLoad t (mLoad u S)))) S1) → (1 ≤ (mHead x (mKind y (mLoad t (mLoad u S))) n (mLoad u (mLoad t (mLoad u S)))).f 7 ∧ (mHead x (mKind y (mLoad t (mLoad u S))) n (mLoad u (mLoad t (mLoad u S)))).f 7 ≤ n + 10) → (0 ≤ mVal y (mLoad t (mLoad u S)) ∧ mVal y (mLoad t (mLoad u S)) + ((mLoad t (mLoad u S)).a 7 y.toNat - mVal y (mLoad t (mLoad u S))) ≤ 2000) → (mWcN 2 (2000 * t + mVal y (mLoad t (mLoad u S))) ((mLoad t (mLoad u S)).a 7 y.toNat - mVal y (mLoad t (mLoad u S)) - 0).toNat 0 (mHead x (mKind y (mLoad t (mLoad u S))) n (mLoad u (mLoad t (mLoad u S)))) = mWcN 2 (2000 * t + mVal y (mLoad t (mLoad u S))) ((mLoad t (mLoad u S)).a 7 y.toNat - mVal y (mLoad t (mLoad u S)) - i).toNat i S1) → ∀ (H : Heap) (locs : List Loc) (ls : Array Slot), mw D vwCl lo L κ1 H → va_S (fun q => lo ≤ q) s.heap H locs → lv_has ls 12 [(11, .int (iI i)), (9, .int (iI ((mLoad t (mLoad u S)).a 7 y.toNat - mVal y (mLoad t (mLoad u S))))), (8, .int (iI (mVal y (mLoad t (mLoad u S))))), (0, .ref (L 40)), (1, .int (iI u)), (2, .int (iI x)), (3, .int (iI t))] → W p l e (headSpec w_Model_graft ({ frames := 8, cells := 0, slots := 0, locals := 198 })).room s m args below meth c H locs 0 0 (MQ below (mwQ D vwCl lo (mdQ g L κ (some (.int (iI (mGraft u x t y n S).1))) (mGraft u x t y n S).2)) args s 0 0 (fun q => lo ≤ q)) (F0 m 183 ls []) := by
    intro N
    induction N with
    | zero => intro i S1 κ1 hms; exact absurd hms (Nat.not_lt_zero _)
    | succ N ih =>
      intro i S1 κ1 hms hV1 hf1 hi hg hbx1 hwhy hkw hpx hfr hres H locs ls hM hS hl
      obtain ⟨hyu, hyb, hyc⟩ := mNode_t hg.1
      obtain ⟨hyt, hyb2, hyc2⟩ := mNode_t hg.2.1
      have hts1 := mSlot_iff.mp hyt
      have hT := (hL3 hyu hyt hyu).2
      have hT1 := hT.1
      have hn3 := hq hyu hyt
      have hTx := hT.2 x.toNat (by omega)
      have hE := hEn hyu hyt
      have hE1 := hE.1
      refine lv_iload hx hb d_Model_graft_183 (lv_at hl 0 rfl) ?_
      refine lv_iload hx hb d_Model_graft_185 (lv_at hl 1 rfl) ?_
      refine ia_icmp_ge (a := i) (b := (mLoad t (mLoad u S)).a 7 y.toNat - mVal y (mLoad t (mLoad u S))) (tgt := 216) hx hb d_Model_graft_187 (by decide) (by omega) (by omega) (fun c1 => ?_) (fun c1 => ?_)
      · have hkp : mKp (mLoad u (mLoad t (mLoad u S))) (S1) := mKp_t (mHead_k (x := x) (k := mKind y (mLoad t (mLoad u S))) (n := n) (S := mLoad u (mLoad t (mLoad u S))) (by omega)).1 hkw
        have hf3 := hkp.2 3 (by decide)
        refine lv_aload_n hx hb d_Model_graft_216 rfl (lv_at hl 3 rfl) ?_
        refine lv_iload_n hx hb d_Model_graft_217 rfl (lv_at hl 4 rfl) ?_
        refine lv_iload_n hx hb d_Model_graft_218 rfl (lv_at hl 5 rfl) ?_
        refine mw_callV (i := 40) (As := [.int (iI u), .int (iI x)]) (rest := []) ⟨hx, hb, hml, hown, hts⟩ hK hM hS rfl hV1.1 rfl (c_Model_insert l D g lo L κ1 S1 hV1 u x (mSlot_iff.mp hyu) (by rw [hkp.2 3 (by decide)]; omega) (mTb_kt hT (mKt_p hkp)) (mEn_kp hE hkp) (by omega)) (cwV 2 hts (gV m_781 m_783 m_42 m_58 m_784) rfl rfl rfl (by decide +kernel) ⟨Nat.le_of_ble_eq_true rfl, Nat.le_of_ble_eq_true rfl⟩) rfl hl.1 rfl (Nat.le_of_ble_eq_true rfl) d_Model_graft_219 ⟨Nat.le_of_ble_eq_true rfl, Nat.le_of_ble_eq_true rfl⟩ (fun v2 L2 κ2 H locs hp2 hM hS => ?_)
        obtain ⟨rfl, rfl, hV2, hk2⟩ := hp2
        exact mw_iret hx hb hr hM hS hlocks d_Model_graft_222 (by rw [show mGraft u x t y n S = ((mIns u x S1).1, (mIns u x S1).2) by first | (exfalso; omega) | (unfold mGraft; rw [if_neg (by omega), if_neg (zne2 hg.1), if_neg (zne2 (by assumption)), if_neg (zne2 hg.2.1)]; unfold mGr2; rw [if_neg hwhy]; unfold mWc; rw [hres, mWcN_e (by omega)])]; exact ⟨rfl, rfl, hV2, (fun r h => by rw [hk2 r (by omega), hf1 r (by omega)])⟩)
      · refine lv_aload_n hx hb d_Model_graft_190 rfl (lv_at hl 3 rfl) ?_
        refine lv_aload_n hx hb d_Model_graft_191 rfl (lv_at hl 3 rfl) ?_
        refine mw_get (ci := 4) (i := 40) (v := .ref (L 43)) (C := R_Model) (T := T_Model) (N := 23) hx hb hts in_Model hown hK hM hV1.1 rfl rfl 5 (by decide) (hts _ m_550) rfl d_Model_graft_192 ?_
        refine lv_sipush (v := iI (2000)) hx hb d_Model_graft_195 (by decide) ?_
        refine lv_iload_n hx hb d_Model_graft_198 rfl (lv_at hl 6 rfl) ?_
        refine ia_mul hx hb d_Model_graft_199 ?_
        refine lv_iload hx hb d_Model_graft_200 (lv_at hl 2 rfl) ?_
        refine ia_add hx hb d_Model_graft_202 ?_
        refine lv_iload hx hb d_Model_graft_203 (lv_at hl 0 rfl) ?_
        refine ia_add hx hb d_Model_graft_205 ?_
        refine mw_iald (n := 16000) (f := S1.a 2) (a := ((2000 * t) + (mVal y (mLoad t (mLoad u S)))) + i) (i := 43) hx hb hK hM 1 (hV1.2.1 2 (by decide)) rfl rfl (by omega) (by decide) d_Model_graft_206 ?_
        have r3 : 0 ≤ S1.a 2 (((2000 * t) + (mVal y (mLoad t (mLoad u S)))) + i : Int).toNat ∧ S1.a 2 (((2000 * t) + (mVal y (mLoad t (mLoad u S)))) + i : Int).toNat ≤ 255 := hV1.2.2.1 2 _
        refine mw_callV (i := 40) (As := [.int (iI (S1.a 2 (((2000 * t) + (mVal y (mLoad t (mLoad u S)))) + i : Int).toNat))]) (rest := []) ⟨hx, hb, hml, hown, hts⟩ hK hM hS rfl hV1.1 rfl (c_Model_write l D g lo L κ1 S1 hV1 (S1.a 2 (((2000 * t) + (mVal y (mLoad t (mLoad u S)))) + i : Int).toNat) (by omega) (by omega)) (cwV 1 hts (gV m_772 m_774 m_40 m_58 m_775) rfl rfl rfl (by decide +kernel) ⟨Nat.le_of_ble_eq_true rfl, Nat.le_of_ble_eq_true rfl⟩) rfl hl.1 rfl (Nat.le_of_ble_eq_true rfl) d_Model_graft_207 ⟨Nat.le_of_ble_eq_true rfl, Nat.le_of_ble_eq_true rfl⟩ (fun v4 L4 κ4 H locs hp4 hM hS => ?_)
        obtain ⟨rfl, rfl, hV4, hk4⟩ := hp4
        have r5 := mWr_p (b := S1.a 2 (((2000 * t) + (mVal y (mLoad t (mLoad u S)))) + i : Int).toNat) (S := S1)
        refine lv_iinc (v := iI (i + 1)) (lv' := [(11, .int (iI (i + 1))), (9, .int (iI ((mLoad t (mLoad u S)).a 7 y.toNat - mVal y (mLoad t (mLoad u S))))), (8, .int (iI (mVal y (mLoad t (mLoad u S))))), (0, .ref (L 40)), (1, .int (iI u)), (2, .int (iI x)), (3, .int (iI t))]) hx hb d_Model_graft_210 hl (k := 0) rfl (iI_inc _ _) (by decide) rfl (fun ls hl => ?_)
        refine lv_goto (tgt := 183) hx hb d_Model_graft_213 (by decide) ?_
        exact ih (i + 1) (mWr (S1.a 2 (((2000 * t) + (mVal y (mLoad t (mLoad u S)))) + i : Int).toNat) S1) κ4 (by omega) hV4 (fun r h => by rw [hk4 r (by omega), hf1 r (by omega)]) (by omega) hg hbx1 hwhy (mKp_t hkw mWr_k) hpx hfr (by rw [hres, mWcN_s (by omega)]) _ _ ls hM hS (lv_sub hl [0, 1, 2, 3, 4, 5, 6] rfl)
  obtain ⟨ls, hls, hl⟩ := mw_entry (m := m) [.ref (L 40), .int (iI u), .int (iI x), .int (iI t), .int (iI y), .int (iI n)] (n := 12) (Nat.le_of_ble_eq_true rfl) hargs
  refine W.eq hls ?_
  have hl : lv_has ls 12 [(0, .ref (L 40)), (1, .int (iI u)), (2, .int (iI x)), (3, .int (iI t)), (4, .int (iI y)), (5, .int (iI n))] := hl
  refine lv_iload hx hb d_Model_graft_0 (lv_at hl 5 rfl) ?_
  refine ia_if_lt (a := n) (tgt := 41) hx hb d_Model_graft_2 (by decide) (by omega) (fun c6 => ?_) (fun c6 => ?_)
  · refine lv_iconst (v := iI (-1)) hx hb d_Model_graft_41 rfl ?_
    exact mw_iret hx hb hr hM hS hlocks d_Model_graft_42 (by rw [show mGraft u x t y n S = (-1, S) by first | (exfalso; omega) | (unfold mGraft; rw [if_pos (by omega)])]; exact ⟨rfl, rfl, hV, (fun r h => rfl)⟩)
  · refine lv_iload hx hb d_Model_graft_5 (lv_at hl 5 rfl) ?_
    refine lv_aload_n hx hb d_Model_graft_7 rfl (lv_at hl 0 rfl) ?_
    refine mw_get (ci := 4) (i := 40) (v := .int (iI (S.f 0))) (C := R_Model) (T := T_Model) (N := 23) hx hb hts in_Model hown hK hM hV.1 rfl rfl 2 (by decide) (hts _ m_547) rfl d_Model_graft_8 ?_
    have r7 : -1000000 ≤ S.f 0 ∧ S.f 0 ≤ 1000000 := hV.2.2.2 0
    refine ia_icmp_gt (a := n) (b := S.f 0) (tgt := 41) hx hb d_Model_graft_11 (by decide) (by omega) (by omega) (fun c8 => ?_) (fun c8 => ?_)
    · refine lv_iconst (v := iI (-1)) hx hb d_Model_graft_41 rfl ?_
      exact mw_iret hx hb hr hM hS hlocks d_Model_graft_42 (by rw [show mGraft u x t y n S = (-1, S) by first | (exfalso; omega) | (unfold mGraft; rw [if_pos (by omega)])]; exact ⟨rfl, rfl, hV, (fun r h => rfl)⟩)
    · refine lv_aload_n hx hb d_Model_graft_14 rfl (lv_at hl 0 rfl) ?_
      refine lv_iload_n hx hb d_Model_graft_15 rfl (lv_at hl 1 rfl) ?_
      refine lv_iload_n hx hb d_Model_graft_16 rfl (lv_at hl 2 rfl) ?_
      refine mw_callV (i := 40) (As := [.int (iI u), .int (iI x)]) (rest := []) ⟨hx, hb, hml, hown, hts⟩ hK hM hS rfl hV.1 rfl (c_Model_isNode l D g lo L κ S hV u x (by omega) (by omega) hL hz) (cwV 2 hts (gV m_710 m_712 m_29 m_58 m_713) rfl rfl rfl (by decide +kernel) ⟨Nat.le_of_ble_eq_true rfl, Nat.le_of_ble_eq_true rfl⟩) rfl hl.1 rfl (Nat.le_of_ble_eq_true rfl) d_Model_graft_17 ⟨Nat.le_of_ble_eq_true rfl, Nat.le_of_ble_eq_true rfl⟩ (fun v9 L9 κ9 H locs hp9 hM hS => ?_)
      obtain ⟨rfl, rfl, hV9, hk9⟩ := hp9
      refine ia_ifz_eq (x := (mIsNode u x S).1) (tgt := 41) hx hb d_Model_graft_20 (by decide) (fun c10 => ?_) (fun c10 => ?_)
      · refine lv_iconst (v := iI (-1)) hx hb d_Model_graft_41 rfl ?_
        exact mw_iret hx hb hr hM hS hlocks d_Model_graft_42 (by rw [show mGraft u x t y n S = (-1, (mIsNode u x S).2) by first | (exfalso; omega) | (unfold mGraft; rw [if_neg (by omega), if_pos (by assumption)])]; exact ⟨rfl, rfl, hV9, (fun r h => by rw [hk9 r (by omega)])⟩)
      · obtain ⟨hy11a, hy11b, hy11c⟩ := mNode_t c10
        rw [hy11b] at hV9
        have hT := (hL hy11a).2
        have hT1 := hT.1
        have hTx := hT.2 x.toNat (by omega)
        refine lv_aload_n hx hb d_Model_graft_23 rfl (lv_at hl 0 rfl) ?_
        refine lv_iload_n hx hb d_Model_graft_24 rfl (lv_at hl 2 rfl) ?_
        refine mw_rdV (i := 40) (As := [.int (iI x)]) (rest := []) ⟨hx, hb, hml, hown, hts⟩ hK hM hS rfl hV9.1 rfl (c_Model_isBox l D g lo L κ9 (mLoad u S) hV9 x (by omega) hT) (cwV 1 hts (gV m_726 m_728 m_33 m_58 m_729) rfl rfl rfl (by decide +kernel) ⟨Nat.le_of_ble_eq_true rfl, Nat.le_of_ble_eq_true rfl⟩) rfl hl.1 rfl (Nat.le_of_ble_eq_true rfl) d_Model_graft_25 ⟨Nat.le_of_ble_eq_true rfl, Nat.le_of_ble_eq_true rfl⟩ (fun H locs hM hS => ?_)
        refine ia_ifz_eq (x := mBox x (mLoad u S)) (tgt := 41) hx hb d_Model_graft_28 (by decide) (fun c12 => ?_) (fun c12 => ?_)
        · refine lv_iconst (v := iI (-1)) hx hb d_Model_graft_41 rfl ?_
          exact mw_iret hx hb hr hM hS hlocks d_Model_graft_42 (by rw [show mGraft u x t y n S = (-1, mLoad u S) by first | (exfalso; omega) | (unfold mGraft; rw [if_neg (by omega), if_neg (zne2 c10), if_pos (by assumption)])]; exact ⟨rfl, rfl, hV9, (fun r h => by rw [hk9 r (by omega)])⟩)
        · refine lv_aload_n hx hb d_Model_graft_31 rfl (lv_at hl 0 rfl) ?_
          refine lv_iload_n hx hb d_Model_graft_32 rfl (lv_at hl 3 rfl) ?_
          refine lv_iload hx hb d_Model_graft_33 (lv_at hl 4 rfl) ?_
          refine mw_callV (i := 40) (As := [.int (iI t), .int (iI y)]) (rest := []) ⟨hx, hb, hml, hown, hts⟩ hK hM hS rfl hV9.1 rfl (c_Model_isNode l D g lo L κ9 (mLoad u S) hV9 t y (by omega) (by omega) (hL2 (mNode_t (by assumption : (mIsNode u x S).1 = true)).1) hz2) (cwV 2 hts (gV m_710 m_712 m_29 m_58 m_713) rfl rfl rfl (by decide +kernel) ⟨Nat.le_of_ble_eq_true rfl, Nat.le_of_ble_eq_true rfl⟩) rfl hl.1 rfl (Nat.le_of_ble_eq_true rfl) d_Model_graft_35 ⟨Nat.le_of_ble_eq_true rfl, Nat.le_of_ble_eq_true rfl⟩ (fun v13 L13 κ13 H locs hp13 hM hS => ?_)
          obtain ⟨rfl, rfl, hV13, hk13⟩ := hp13
          refine ia_ifz_ne (x := (mIsNode t y (mLoad u S)).1) (tgt := 43) hx hb d_Model_graft_38 (by decide) (fun c14 => ?_) (fun c14 => ?_)
          · obtain ⟨hyt, hyb2, hyc2⟩ := mNode_t c14
            rw [hyb2] at hV13
            have hyu := (mNode_t c10).1
            have hT := (hL2 hyu hyt).2
            have hT1 := hT.1
            have hTy := hT.2 y.toNat (by omega)
            have hEB := hEnB hyu hyt
            have hEB1 := hEB.1
            have hEBy := hEB.2 y.toNat (by omega)
            have hvE : mVal y (mLoad t (mLoad u S)) ≤ (mLoad t (mLoad u S)).a 7 y.toNat := by unfold mVal; have z := hEBy.2.2.1; by_cases h0 : y = 0; rw [if_pos h0]; rw [if_pos (by omega)] at z; exact z; rw [if_neg h0]; rw [if_neg (by omega)] at z; exact z
            refine lv_aload_n hx hb d_Model_graft_43 rfl (lv_at hl 0 rfl) ?_
            refine lv_iload hx hb d_Model_graft_44 (lv_at hl 4 rfl) ?_
            refine mw_rdV (i := 40) (As := [.int (iI y)]) (rest := []) ⟨hx, hb, hml, hown, hts⟩ hK hM hS rfl hV13.1 rfl (c_Model_kindOf l D g lo L κ13 (mLoad t (mLoad u S)) hV13 y (by omega) hT) (cwV 1 hts (gV m_714 m_716 m_30 m_58 m_717) rfl rfl rfl (by decide +kernel) ⟨Nat.le_of_ble_eq_true rfl, Nat.le_of_ble_eq_true rfl⟩) rfl hl.1 rfl (Nat.le_of_ble_eq_true rfl) d_Model_graft_46 ⟨Nat.le_of_ble_eq_true rfl, Nat.le_of_ble_eq_true rfl⟩ (fun H locs hM hS => ?_)
            have r15 := mKind_r hV13 y
            refine lv_istore (lv' := [(6, .int (iI (mKind y (mLoad t (mLoad u S))))), (0, .ref (L 40)), (1, .int (iI u)), (2, .int (iI x)), (3, .int (iI t)), (4, .int (iI y)), (5, .int (iI n))]) hx hb d_Model_graft_49 hl (by decide) rfl (fun ls hl => ?_)
            refine lv_aload_n hx hb d_Model_graft_51 rfl (lv_at hl 1 rfl) ?_
            refine lv_iload hx hb d_Model_graft_52 (lv_at hl 5 rfl) ?_
            refine mw_rdV (i := 40) (As := [.int (iI y)]) (rest := []) ⟨hx, hb, hml, hown, hts⟩ hK hM hS rfl hV13.1 rfl (c_Model_isBox l D g lo L κ13 (mLoad t (mLoad u S)) hV13 y (by omega) hT) (cwV 1 hts (gV m_726 m_728 m_33 m_58 m_729) rfl rfl rfl (by decide +kernel) ⟨Nat.le_of_ble_eq_true rfl, Nat.le_of_ble_eq_true rfl⟩) rfl hl.1 rfl (Nat.le_of_ble_eq_true rfl) d_Model_graft_54 ⟨Nat.le_of_ble_eq_true rfl, Nat.le_of_ble_eq_true rfl⟩ (fun H locs hM hS => ?_)
            refine ia_ifz_eq (x := mBox y (mLoad t (mLoad u S))) (tgt := 69) hx hb d_Model_graft_57 (by decide) (fun c16 => ?_) (fun c16 => ?_)
            · refine lv_iconst (v := iI (0)) hx hb d_Model_graft_69 rfl ?_
              refine lv_istore (lv' := [(7, .int (iI 0)), (6, .int (iI (mKind y (mLoad t (mLoad u S))))), (0, .ref (L 40)), (1, .int (iI u)), (2, .int (iI x)), (3, .int (iI t)), (4, .int (iI y)), (5, .int (iI n))]) hx hb d_Model_graft_70 hl (by decide) rfl (fun ls hl => ?_)
              refine lv_aload_n hx hb d_Model_graft_72 rfl (lv_at hl 2 rfl) ?_
              refine lv_iload hx hb d_Model_graft_73 (lv_at hl 6 rfl) ?_
              refine mw_rdV (i := 40) (As := [.int (iI y)]) (rest := []) ⟨hx, hb, hml, hown, hts⟩ hK hM hS rfl hV13.1 rfl (c_Model_valueAt l D g lo L κ13 (mLoad t (mLoad u S)) hV13 y (by omega) hT) (cwV 1 hts (gV m_722 m_724 m_32 m_58 m_725) rfl rfl rfl (by decide +kernel) ⟨Nat.le_of_ble_eq_true rfl, Nat.le_of_ble_eq_true rfl⟩) rfl hl.1 rfl (Nat.le_of_ble_eq_true rfl) d_Model_graft_75 ⟨Nat.le_of_ble_eq_true rfl, Nat.le_of_ble_eq_true rfl⟩ (fun H locs hM hS => ?_)
              have r17 := mVal_r hT (x := y) (by omega)
              refine lv_istore (lv' := [(8, .int (iI (mVal y (mLoad t (mLoad u S))))), (7, .int (iI 0)), (6, .int (iI (mKind y (mLoad t (mLoad u S))))), (0, .ref (L 40)), (1, .int (iI u)), (2, .int (iI x)), (3, .int (iI t)), (4, .int (iI y)), (5, .int (iI n))]) hx hb d_Model_graft_78 hl (by decide) rfl (fun ls hl => ?_)
              refine lv_aload_n hx hb d_Model_graft_80 rfl (lv_at hl 3 rfl) ?_
              refine mw_get (ci := 4) (i := 40) (v := .ref (L 48)) (C := R_Model) (T := T_Model) (N := 23) hx hb hts in_Model hown hK hM hV13.1 rfl rfl 12 (by decide) (hts _ m_557) rfl d_Model_graft_81 ?_
              refine lv_iload hx hb d_Model_graft_84 (lv_at hl 7 rfl) ?_
              refine mw_iald (n := 1000) (f := (mLoad t (mLoad u S)).a 7) (a := y) (i := 48) hx hb hK hM 1 (hV13.2.1 7 (by decide)) rfl rfl (by omega) (by decide) d_Model_graft_86 ?_
              have r18 : -1000000 ≤ (mLoad t (mLoad u S)).a 7 (y : Int).toNat ∧ (mLoad t (mLoad u S)).a 7 (y : Int).toNat ≤ 1000000 := hV13.2.2.1 7 _
              refine lv_iload hx hb d_Model_graft_87 (lv_at hl 0 rfl) ?_
              refine ia_sub hx hb d_Model_graft_89 ?_
              refine lv_istore (lv' := [(9, .int (iI (((mLoad t (mLoad u S)).a 7 (y : Int).toNat) - (mVal y (mLoad t (mLoad u S)))))), (8, .int (iI (mVal y (mLoad t (mLoad u S))))), (7, .int (iI 0)), (6, .int (iI (mKind y (mLoad t (mLoad u S))))), (0, .ref (L 40)), (1, .int (iI u)), (2, .int (iI x)), (3, .int (iI t)), (4, .int (iI y)), (5, .int (iI n))]) hx hb d_Model_graft_90 hl (by decide) rfl (fun ls hl => ?_)
              refine lv_aload_n hx hb d_Model_graft_92 rfl (lv_at hl 4 rfl) ?_
              refine lv_iload_n hx hb d_Model_graft_93 rfl (lv_at hl 5 rfl) ?_
              refine mw_callV (i := 40) (As := [.int (iI u)]) (rest := []) ⟨hx, hb, hml, hown, hts⟩ hK hM hS rfl hV13.1 rfl (c_Model_load l D g lo L κ13 (mLoad t (mLoad u S)) hV13 u (mSlot_iff.mp hyu) (hL3 hyu hyt) (hz3 hyu hyt)) (cwV 1 hts (gV m_698 m_700 m_28 m_58 m_701) rfl rfl rfl (by decide +kernel) ⟨Nat.le_of_ble_eq_true rfl, Nat.le_of_ble_eq_true rfl⟩) rfl hl.1 rfl (Nat.le_of_ble_eq_true rfl) d_Model_graft_94 ⟨Nat.le_of_ble_eq_true rfl, Nat.le_of_ble_eq_true rfl⟩ (fun v19 L19 κ19 H locs hp19 hM hS => ?_)
              obtain ⟨rfl, rfl, hV19, hk19⟩ := hp19
              have hT := (hL3 hyu hyt hyu).2
              have hT1 := hT.1
              have hn3 := hq hyu hyt
              have hTx := hT.2 x.toNat (by omega)
              have hE := hEn hyu hyt
              have hE1 := hE.1
              refine lv_aload_n hx hb d_Model_graft_97 rfl (lv_at hl 4 rfl) ?_
              refine lv_iload_n hx hb d_Model_graft_98 rfl (lv_at hl 6 rfl) ?_
              refine mw_rdV (i := 40) (As := [.int (iI x)]) (rest := []) ⟨hx, hb, hml, hown, hts⟩ hK hM hS rfl hV19.1 rfl (c_Model_kindOf l D g lo L κ19 (mLoad u (mLoad t (mLoad u S))) hV19 x (by omega) hT) (cwV 1 hts (gV m_714 m_716 m_30 m_58 m_717) rfl rfl rfl (by decide +kernel) ⟨Nat.le_of_ble_eq_true rfl, Nat.le_of_ble_eq_true rfl⟩) rfl hl.1 rfl (Nat.le_of_ble_eq_true rfl) d_Model_graft_99 ⟨Nat.le_of_ble_eq_true rfl, Nat.le_of_ble_eq_true rfl⟩ (fun H locs hM hS => ?_)
              have r20 := mKind_r hV19 x
              refine lv_iconst (v := iI (4)) hx hb d_Model_graft_102 rfl ?_
              refine ia_icmp_ne (a := mKind x (mLoad u (mLoad t (mLoad u S)))) (b := 4) (tgt := 116) hx hb d_Model_graft_103 (by decide) (by omega) (by omega) (fun c21 => ?_) (fun c21 => ?_)
              · refine lv_aload_n hx hb d_Model_graft_116 rfl (lv_at hl 4 rfl) ?_
                refine lv_iload_n hx hb d_Model_graft_117 rfl (lv_at hl 6 rfl) ?_
                refine lv_iload hx hb d_Model_graft_118 (lv_at hl 9 rfl) ?_
                refine mw_rdV (i := 40) (As := [.int (iI x), .int (iI n)]) (rest := []) ⟨hx, hb, hml, hown, hts⟩ hK hM hS rfl hV19.1 rfl (c_Model_isNameFree l D g lo L κ19 (mLoad u (mLoad t (mLoad u S))) hV19 x n (by omega) (by omega) hT) (cwV 2 hts (gV m_764 m_766 m_38 m_58 m_767) rfl rfl rfl (by decide +kernel) ⟨Nat.le_of_ble_eq_true rfl, Nat.le_of_ble_eq_true rfl⟩) rfl hl.1 rfl (Nat.le_of_ble_eq_true rfl) d_Model_graft_120 ⟨Nat.le_of_ble_eq_true rfl, Nat.le_of_ble_eq_true rfl⟩ (fun H locs hM hS => ?_)
                refine ia_ifz_ne (x := mFree x n (mLoad u (mLoad t (mLoad u S)))) (tgt := 131) hx hb d_Model_graft_123 (by decide) (fun c22 => ?_) (fun c22 => ?_)
                · refine lv_iload hx hb d_Model_graft_131 (lv_at hl 2 rfl) ?_
                  refine ia_if_le (a := 0) (tgt := 155) hx hb d_Model_graft_133 (by decide) (by omega) (fun c23 => ?_) (fun c23 => ?_)
                  · refine lv_iconst (v := iI (0)) hx hb d_Model_graft_155 rfl ?_
                    refine lv_istore (lv' := [(10, .int (iI 0)), (9, .int (iI (((mLoad t (mLoad u S)).a 7 (y : Int).toNat) - (mVal y (mLoad t (mLoad u S)))))), (8, .int (iI (mVal y (mLoad t (mLoad u S))))), (7, .int (iI 0)), (6, .int (iI (mKind y (mLoad t (mLoad u S))))), (0, .ref (L 40)), (1, .int (iI u)), (2, .int (iI x)), (3, .int (iI t)), (4, .int (iI y)), (5, .int (iI n))]) hx hb d_Model_graft_156 hl (by decide) rfl (fun ls hl => ?_)
                    refine lv_iload hx hb d_Model_graft_158 (lv_at hl 0 rfl) ?_
                    refine ia_if_ge (a := 0) (tgt := 171) hx hb d_Model_graft_160 (by decide) (by omega) (fun c24 => ?_) (fun c24 => ?_)
                    · have hdp : mGrDeep y (mLoad t (mLoad u S)) = 0 := by unfold mGrDeep; rw [if_neg (zne (by assumption))]
                      have hwhy : ¬ mGrWhy x n (mGrDeep y (mLoad t (mLoad u S))) (mLoad u (mLoad t (mLoad u S))) < 0 := by rw [hdp]; unfold mGrWhy; rw [if_neg (by omega), if_neg (zne2 (by assumption)), if_neg (by omega)]; decide
                      have hbx1 : mBox x (mLoad u S) = true := by assumption
                      refine lv_aload_n hx hb d_Model_graft_171 rfl (lv_at hl 5 rfl) ?_
                      refine lv_iload_n hx hb d_Model_graft_172 rfl (lv_at hl 7 rfl) ?_
                      refine lv_iload hx hb d_Model_graft_173 (lv_at hl 4 rfl) ?_
                      refine lv_iload hx hb d_Model_graft_175 (lv_at hl 10 rfl) ?_
                      refine mw_callV (i := 40) (As := [.int (iI x), .int (iI (mKind y (mLoad t (mLoad u S)))), .int (iI n)]) (rest := []) ⟨hx, hb, hml, hown, hts⟩ hK hM hS rfl hV19.1 rfl (c_Model_writeHead l D g lo L κ19 (mLoad u (mLoad t (mLoad u S))) hV19 x (mKind y (mLoad t (mLoad u S))) n (by omega) (by omega) (by omega) hT) (cwV 3 hts (gV m_768 m_770 m_39 m_58 m_771) rfl rfl rfl (by decide +kernel) ⟨Nat.le_of_ble_eq_true rfl, Nat.le_of_ble_eq_true rfl⟩) rfl hl.1 rfl (Nat.le_of_ble_eq_true rfl) d_Model_graft_177 ⟨Nat.le_of_ble_eq_true rfl, Nat.le_of_ble_eq_true rfl⟩ (fun v25 L25 κ25 H locs hp25 hM hS => ?_)
                      obtain ⟨rfl, rfl, hV25, hk25⟩ := hp25
                      have r26 := (mHead_k (x := x) (k := mKind y (mLoad t (mLoad u S))) (n := n) (S := mLoad u (mLoad t (mLoad u S))) (by omega)).2
                      refine lv_iconst (v := iI (0)) hx hb d_Model_graft_180 rfl ?_
                      refine lv_istore (lv' := [(11, .int (iI 0)), (10, .int (iI 0)), (9, .int (iI (((mLoad t (mLoad u S)).a 7 (y : Int).toNat) - (mVal y (mLoad t (mLoad u S)))))), (8, .int (iI (mVal y (mLoad t (mLoad u S))))), (7, .int (iI 0)), (6, .int (iI (mKind y (mLoad t (mLoad u S))))), (0, .ref (L 40)), (1, .int (iI u)), (2, .int (iI x)), (3, .int (iI t)), (4, .int (iI y)), (5, .int (iI n))]) hx hb d_Model_graft_181 hl (by decide) rfl (fun ls hl => ?_)
                      exact loop183 _ 0 (mHead x (mKind y (mLoad t (mLoad u S))) n (mLoad u (mLoad t (mLoad u S)))) κ25 (Nat.lt_succ_self _) hV25 (fun r h => by rw [hk25 r (by omega), hk19 r (by omega), hk13 r (by omega), hk9 r (by omega)]) (by omega) ⟨c10, c14, by omega⟩ hbx1 hwhy mKp_r (by omega) (by omega) rfl _ _ ls hM hS (lv_sub hl [0, 2, 3, 6, 7, 8, 9] rfl)
                    · exact absurd (by decide) c24
                  · exact absurd (by decide) c23
                · refine lv_bipush (v := iI (-3)) hx hb d_Model_graft_126 (by decide) ?_
                  refine lv_goto (tgt := 156) hx hb d_Model_graft_128 (by decide) ?_
                  refine lv_istore (lv' := [(10, .int (iI (-3))), (9, .int (iI (((mLoad t (mLoad u S)).a 7 (y : Int).toNat) - (mVal y (mLoad t (mLoad u S)))))), (8, .int (iI (mVal y (mLoad t (mLoad u S))))), (7, .int (iI 0)), (6, .int (iI (mKind y (mLoad t (mLoad u S))))), (0, .ref (L 40)), (1, .int (iI u)), (2, .int (iI x)), (3, .int (iI t)), (4, .int (iI y)), (5, .int (iI n))]) hx hb d_Model_graft_156 hl (by decide) rfl (fun ls hl => ?_)
                  refine lv_iload hx hb d_Model_graft_158 (lv_at hl 0 rfl) ?_
                  refine ia_if_ge (a := -3) (tgt := 171) hx hb d_Model_graft_160 (by decide) (by omega) (fun c27 => ?_) (fun c27 => ?_)
                  · exact absurd c27 (by decide)
                  · refine lv_aload_n hx hb d_Model_graft_163 rfl (lv_at hl 5 rfl) ?_
                    refine lv_iconst (v := iI (0)) hx hb d_Model_graft_164 rfl ?_
                    refine mw_put (ci := 4) (i := 40) (v := .int (iI 0)) (C := R_Model) (T := T_Model) (N := 23) hx hb hts in_Model ty_Model ty_Model_ok nm_Model hown hK hM hS hV19.1 rfl rfl 2 (by decide) (hts _ m_547) rfl (ty_Model_ok 2 (by decide)) rfl rfl (Nat.le_of_ble_eq_true rfl) d_Model_graft_165 (fun κ28 H locs e28 hk28 hM hS => ?_)
                    have e28 : κ28 40 = some (.inr (4, [.int (iI ((mLoad u (mLoad t (mLoad u S))).f 8)), .ref (L 41), .int (iI 0), .int (iI ((mLoad u (mLoad t (mLoad u S))).f 1)), .ref (L 42), .ref (L 43), .ref (L 44), .int (iI ((mLoad u (mLoad t (mLoad u S))).f 2)), .int (iI ((mLoad u (mLoad t (mLoad u S))).f 3)), .ref (L 45), .ref (L 46), .ref (L 47), .ref (L 48), .ref (L 49), .int (iI ((mLoad u (mLoad t (mLoad u S))).f 4)), .int (iI ((mLoad u (mLoad t (mLoad u S))).f 5)), .int (iI ((mLoad u (mLoad t (mLoad u S))).f 6)), .ref (L 50), .ref (L 51), .ref (L 52), .ref (L 53), .ref (L 54), .int (iI ((mLoad u (mLoad t (mLoad u S))).f 7))])) := e28
                    have hV28 : mds g L κ28 ((mLoad u (mLoad t (mLoad u S))).pf 0 0) := mds_pf hV19 e28 hk28 (by first | omega | (split <;> omega))
                    refine lv_iload hx hb d_Model_graft_168 (lv_at hl 0 rfl) ?_
                    exact mw_iret hx hb hr hM hS hlocks d_Model_graft_170 (by rw [show mGraft u x t y n S = (-3, (mLoad u (mLoad t (mLoad u S))).pf 0 0) by first | (exfalso; omega) | (unfold mGraft; rw [if_neg (by omega), if_neg (zne2 c10), if_neg (zne2 (by assumption)), if_neg (zne2 c14)]; unfold mGr2; rw [(show mGrDeep y (mLoad t (mLoad u S)) = 0 by unfold mGrDeep; rw [if_neg (zne (by assumption))]), show mGrWhy x n (0) (mLoad u (mLoad t (mLoad u S))) = -3 by unfold mGrWhy; rw [if_neg (by omega), if_pos (by assumption)], if_pos (by decide)])]; exact ⟨rfl, rfl, hV28, (fun r h => by rw [hk28 r (by omega), hk19 r (by omega), hk13 r (by omega), hk9 r (by omega)])⟩)
              · refine lv_iload hx hb d_Model_graft_106 (lv_at hl 9 rfl) ?_
                refine ia_if_le (a := n) (tgt := 116) hx hb d_Model_graft_108 (by decide) (by omega) (fun c29 => ?_) (fun c29 => ?_)
                · refine lv_aload_n hx hb d_Model_graft_116 rfl (lv_at hl 4 rfl) ?_
                  refine lv_iload_n hx hb d_Model_graft_117 rfl (lv_at hl 6 rfl) ?_
                  refine lv_iload hx hb d_Model_graft_118 (lv_at hl 9 rfl) ?_
                  refine mw_rdV (i := 40) (As := [.int (iI x), .int (iI n)]) (rest := []) ⟨hx, hb, hml, hown, hts⟩ hK hM hS rfl hV19.1 rfl (c_Model_isNameFree l D g lo L κ19 (mLoad u (mLoad t (mLoad u S))) hV19 x n (by omega) (by omega) hT) (cwV 2 hts (gV m_764 m_766 m_38 m_58 m_767) rfl rfl rfl (by decide +kernel) ⟨Nat.le_of_ble_eq_true rfl, Nat.le_of_ble_eq_true rfl⟩) rfl hl.1 rfl (Nat.le_of_ble_eq_true rfl) d_Model_graft_120 ⟨Nat.le_of_ble_eq_true rfl, Nat.le_of_ble_eq_true rfl⟩ (fun H locs hM hS => ?_)
                  refine ia_ifz_ne (x := mFree x n (mLoad u (mLoad t (mLoad u S)))) (tgt := 131) hx hb d_Model_graft_123 (by decide) (fun c30 => ?_) (fun c30 => ?_)
                  · refine lv_iload hx hb d_Model_graft_131 (lv_at hl 2 rfl) ?_
                    refine ia_if_le (a := 0) (tgt := 155) hx hb d_Model_graft_133 (by decide) (by omega) (fun c31 => ?_) (fun c31 => ?_)
                    · refine lv_iconst (v := iI (0)) hx hb d_Model_graft_155 rfl ?_
                      refine lv_istore (lv' := [(10, .int (iI 0)), (9, .int (iI (((mLoad t (mLoad u S)).a 7 (y : Int).toNat) - (mVal y (mLoad t (mLoad u S)))))), (8, .int (iI (mVal y (mLoad t (mLoad u S))))), (7, .int (iI 0)), (6, .int (iI (mKind y (mLoad t (mLoad u S))))), (0, .ref (L 40)), (1, .int (iI u)), (2, .int (iI x)), (3, .int (iI t)), (4, .int (iI y)), (5, .int (iI n))]) hx hb d_Model_graft_156 hl (by decide) rfl (fun ls hl => ?_)
                      refine lv_iload hx hb d_Model_graft_158 (lv_at hl 0 rfl) ?_
                      refine ia_if_ge (a := 0) (tgt := 171) hx hb d_Model_graft_160 (by decide) (by omega) (fun c32 => ?_) (fun c32 => ?_)
                      · have hdp : mGrDeep y (mLoad t (mLoad u S)) = 0 := by unfold mGrDeep; rw [if_neg (zne (by assumption))]
                        have hwhy : ¬ mGrWhy x n (mGrDeep y (mLoad t (mLoad u S))) (mLoad u (mLoad t (mLoad u S))) < 0 := by rw [hdp]; unfold mGrWhy; rw [if_neg (by omega), if_neg (zne2 (by assumption)), if_neg (by omega)]; decide
                        have hbx1 : mBox x (mLoad u S) = true := by assumption
                        refine lv_aload_n hx hb d_Model_graft_171 rfl (lv_at hl 5 rfl) ?_
                        refine lv_iload_n hx hb d_Model_graft_172 rfl (lv_at hl 7 rfl) ?_
                        refine lv_iload hx hb d_Model_graft_173 (lv_at hl 4 rfl) ?_
                        refine lv_iload hx hb d_Model_graft_175 (lv_at hl 10 rfl) ?_
                        refine mw_callV (i := 40) (As := [.int (iI x), .int (iI (mKind y (mLoad t (mLoad u S)))), .int (iI n)]) (rest := []) ⟨hx, hb, hml, hown, hts⟩ hK hM hS rfl hV19.1 rfl (c_Model_writeHead l D g lo L κ19 (mLoad u (mLoad t (mLoad u S))) hV19 x (mKind y (mLoad t (mLoad u S))) n (by omega) (by omega) (by omega) hT) (cwV 3 hts (gV m_768 m_770 m_39 m_58 m_771) rfl rfl rfl (by decide +kernel) ⟨Nat.le_of_ble_eq_true rfl, Nat.le_of_ble_eq_true rfl⟩) rfl hl.1 rfl (Nat.le_of_ble_eq_true rfl) d_Model_graft_177 ⟨Nat.le_of_ble_eq_true rfl, Nat.le_of_ble_eq_true rfl⟩ (fun v33 L33 κ33 H locs hp33 hM hS => ?_)
                        obtain ⟨rfl, rfl, hV33, hk33⟩ := hp33
                        have r34 := (mHead_k (x := x) (k := mKind y (mLoad t (mLoad u S))) (n := n) (S := mLoad u (mLoad t (mLoad u S))) (by omega)).2
                        refine lv_iconst (v := iI (0)) hx hb d_Model_graft_180 rfl ?_
                        refine lv_istore (lv' := [(11, .int (iI 0)), (10, .int (iI 0)), (9, .int (iI (((mLoad t (mLoad u S)).a 7 (y : Int).toNat) - (mVal y (mLoad t (mLoad u S)))))), (8, .int (iI (mVal y (mLoad t (mLoad u S))))), (7, .int (iI 0)), (6, .int (iI (mKind y (mLoad t (mLoad u S))))), (0, .ref (L 40)), (1, .int (iI u)), (2, .int (iI x)), (3, .int (iI t)), (4, .int (iI y)), (5, .int (iI n))]) hx hb d_Model_graft_181 hl (by decide) rfl (fun ls hl => ?_)
                        exact loop183 _ 0 (mHead x (mKind y (mLoad t (mLoad u S))) n (mLoad u (mLoad t (mLoad u S)))) κ33 (Nat.lt_succ_self _) hV33 (fun r h => by rw [hk33 r (by omega), hk19 r (by omega), hk13 r (by omega), hk9 r (by omega)]) (by omega) ⟨c10, c14, by omega⟩ hbx1 hwhy mKp_r (by omega) (by omega) rfl _ _ ls hM hS (lv_sub hl [0, 2, 3, 6, 7, 8, 9] rfl)
                      · exact absurd (by decide) c32
                    · exact absurd (by decide) c31
                  · refine lv_bipush (v := iI (-3)) hx hb d_Model_graft_126 (by decide) ?_
                    refine lv_goto (tgt := 156) hx hb d_Model_graft_128 (by decide) ?_
                    refine lv_istore (lv' := [(10, .int (iI (-3))), (9, .int (iI (((mLoad t (mLoad u S)).a 7 (y : Int).toNat) - (mVal y (mLoad t (mLoad u S)))))), (8, .int (iI (mVal y (mLoad t (mLoad u S))))), (7, .int (iI 0)), (6, .int (iI (mKind y (mLoad t (mLoad u S))))), (0, .ref (L 40)), (1, .int (iI u)), (2, .int (iI x)), (3, .int (iI t)), (4, .int (iI y)), (5, .int (iI n))]) hx hb d_Model_graft_156 hl (by decide) rfl (fun ls hl => ?_)
                    refine lv_iload hx hb d_Model_graft_158 (lv_at hl 0 rfl) ?_
                    refine ia_if_ge (a := -3) (tgt := 171) hx hb d_Model_graft_160 (by decide) (by omega) (fun c35 => ?_) (fun c35 => ?_)
                    · exact absurd c35 (by decide)
                    · refine lv_aload_n hx hb d_Model_graft_163 rfl (lv_at hl 5 rfl) ?_
                      refine lv_iconst (v := iI (0)) hx hb d_Model_graft_164 rfl ?_
                      refine mw_put (ci := 4) (i := 40) (v := .int (iI 0)) (C := R_Model) (T := T_Model) (N := 23) hx hb hts in_Model ty_Model ty_Model_ok nm_Model hown hK hM hS hV19.1 rfl rfl 2 (by decide) (hts _ m_547) rfl (ty_Model_ok 2 (by decide)) rfl rfl (Nat.le_of_ble_eq_true rfl) d_Model_graft_165 (fun κ36 H locs e36 hk36 hM hS => ?_)
                      have e36 : κ36 40 = some (.inr (4, [.int (iI ((mLoad u (mLoad t (mLoad u S))).f 8)), .ref (L 41), .int (iI 0), .int (iI ((mLoad u (mLoad t (mLoad u S))).f 1)), .ref (L 42), .ref (L 43), .ref (L 44), .int (iI ((mLoad u (mLoad t (mLoad u S))).f 2)), .int (iI ((mLoad u (mLoad t (mLoad u S))).f 3)), .ref (L 45), .ref (L 46), .ref (L 47), .ref (L 48), .ref (L 49), .int (iI ((mLoad u (mLoad t (mLoad u S))).f 4)), .int (iI ((mLoad u (mLoad t (mLoad u S))).f 5)), .int (iI ((mLoad u (mLoad t (mLoad u S))).f 6)), .ref (L 50), .ref (L 51), .ref (L 52), .ref (L 53), .ref (L 54), .int (iI ((mLoad u (mLoad t (mLoad u S))).f 7))])) := e36
                      have hV36 : mds g L κ36 ((mLoad u (mLoad t (mLoad u S))).pf 0 0) := mds_pf hV19 e36 hk36 (by first | omega | (split <;> omega))
                      refine lv_iload hx hb d_Model_graft_168 (lv_at hl 0 rfl) ?_
                      exact mw_iret hx hb hr hM hS hlocks d_Model_graft_170 (by rw [show mGraft u x t y n S = (-3, (mLoad u (mLoad t (mLoad u S))).pf 0 0) by first | (exfalso; omega) | (unfold mGraft; rw [if_neg (by omega), if_neg (zne2 c10), if_neg (zne2 (by assumption)), if_neg (zne2 c14)]; unfold mGr2; rw [(show mGrDeep y (mLoad t (mLoad u S)) = 0 by unfold mGrDeep; rw [if_neg (zne (by assumption))]), show mGrWhy x n (0) (mLoad u (mLoad t (mLoad u S))) = -3 by unfold mGrWhy; rw [if_neg (by omega), if_pos (by assumption)], if_pos (by decide)])]; exact ⟨rfl, rfl, hV36, (fun r h => by rw [hk36 r (by omega), hk19 r (by omega), hk13 r (by omega), hk9 r (by omega)])⟩)
                · refine lv_bipush (v := iI (-2)) hx hb d_Model_graft_111 (by decide) ?_
                  refine lv_goto (tgt := 156) hx hb d_Model_graft_113 (by decide) ?_
                  refine lv_istore (lv' := [(10, .int (iI (-2))), (9, .int (iI (((mLoad t (mLoad u S)).a 7 (y : Int).toNat) - (mVal y (mLoad t (mLoad u S)))))), (8, .int (iI (mVal y (mLoad t (mLoad u S))))), (7, .int (iI 0)), (6, .int (iI (mKind y (mLoad t (mLoad u S))))), (0, .ref (L 40)), (1, .int (iI u)), (2, .int (iI x)), (3, .int (iI t)), (4, .int (iI y)), (5, .int (iI n))]) hx hb d_Model_graft_156 hl (by decide) rfl (fun ls hl => ?_)
                  refine lv_iload hx hb d_Model_graft_158 (lv_at hl 0 rfl) ?_
                  refine ia_if_ge (a := -2) (tgt := 171) hx hb d_Model_graft_160 (by decide) (by omega) (fun c37 => ?_) (fun c37 => ?_)
                  · exact absurd c37 (by decide)
                  · refine lv_aload_n hx hb d_Model_graft_163 rfl (lv_at hl 5 rfl) ?_
                    refine lv_iconst (v := iI (0)) hx hb d_Model_graft_164 rfl ?_
                    refine mw_put (ci := 4) (i := 40) (v := .int (iI 0)) (C := R_Model) (T := T_Model) (N := 23) hx hb hts in_Model ty_Model ty_Model_ok nm_Model hown hK hM hS hV19.1 rfl rfl 2 (by decide) (hts _ m_547) rfl (ty_Model_ok 2 (by decide)) rfl rfl (Nat.le_of_ble_eq_true rfl) d_Model_graft_165 (fun κ38 H locs e38 hk38 hM hS => ?_)
                    have e38 : κ38 40 = some (.inr (4, [.int (iI ((mLoad u (mLoad t (mLoad u S))).f 8)), .ref (L 41), .int (iI 0), .int (iI ((mLoad u (mLoad t (mLoad u S))).f 1)), .ref (L 42), .ref (L 43), .ref (L 44), .int (iI ((mLoad u (mLoad t (mLoad u S))).f 2)), .int (iI ((mLoad u (mLoad t (mLoad u S))).f 3)), .ref (L 45), .ref (L 46), .ref (L 47), .ref (L 48), .ref (L 49), .int (iI ((mLoad u (mLoad t (mLoad u S))).f 4)), .int (iI ((mLoad u (mLoad t (mLoad u S))).f 5)), .int (iI ((mLoad u (mLoad t (mLoad u S))).f 6)), .ref (L 50), .ref (L 51), .ref (L 52), .ref (L 53), .ref (L 54), .int (iI ((mLoad u (mLoad t (mLoad u S))).f 7))])) := e38
                    have hV38 : mds g L κ38 ((mLoad u (mLoad t (mLoad u S))).pf 0 0) := mds_pf hV19 e38 hk38 (by first | omega | (split <;> omega))
                    refine lv_iload hx hb d_Model_graft_168 (lv_at hl 0 rfl) ?_
                    exact mw_iret hx hb hr hM hS hlocks d_Model_graft_170 (by rw [show mGraft u x t y n S = (-2, (mLoad u (mLoad t (mLoad u S))).pf 0 0) by first | (exfalso; omega) | (unfold mGraft; rw [if_neg (by omega), if_neg (zne2 c10), if_neg (zne2 (by assumption)), if_neg (zne2 c14)]; unfold mGr2; rw [(show mGrDeep y (mLoad t (mLoad u S)) = 0 by unfold mGrDeep; rw [if_neg (zne (by assumption))]), show mGrWhy x n (0) (mLoad u (mLoad t (mLoad u S))) = -2 by unfold mGrWhy; rw [if_pos (by omega)], if_pos (by decide)])]; exact ⟨rfl, rfl, hV38, (fun r h => by rw [hk38 r (by omega), hk19 r (by omega), hk13 r (by omega), hk9 r (by omega)])⟩)
            · refine lv_aload_n hx hb d_Model_graft_60 rfl (lv_at hl 1 rfl) ?_
              refine lv_iload hx hb d_Model_graft_61 (lv_at hl 5 rfl) ?_
              refine mw_rdV (i := 40) (As := [.int (iI y)]) (rest := []) ⟨hx, hb, hml, hown, hts⟩ hK hM hS rfl hV13.1 rfl (c_Model_deepIn l D g lo L κ13 (mLoad t (mLoad u S)) hV13 y (by omega) hT) (cwV 1 hts (gV m_801 m_803 m_46 m_58 m_804) rfl rfl rfl (by decide +kernel) ⟨Nat.le_of_ble_eq_true rfl, Nat.le_of_ble_eq_true rfl⟩) rfl hl.1 rfl (Nat.le_of_ble_eq_true rfl) d_Model_graft_63 ⟨Nat.le_of_ble_eq_true rfl, Nat.le_of_ble_eq_true rfl⟩ (fun H locs hM hS => ?_)
              have r39 := mDp_r (x := y) (S := mLoad t (mLoad u S)) (hV13.2.2.1 8)
              refine lv_goto (tgt := 70) hx hb d_Model_graft_66 (by decide) ?_
              refine lv_istore (lv' := [(7, .int (iI (mDp y (mLoad t (mLoad u S))))), (6, .int (iI (mKind y (mLoad t (mLoad u S))))), (0, .ref (L 40)), (1, .int (iI u)), (2, .int (iI x)), (3, .int (iI t)), (4, .int (iI y)), (5, .int (iI n))]) hx hb d_Model_graft_70 hl (by decide) rfl (fun ls hl => ?_)
              refine lv_aload_n hx hb d_Model_graft_72 rfl (lv_at hl 2 rfl) ?_
              refine lv_iload hx hb d_Model_graft_73 (lv_at hl 6 rfl) ?_
              refine mw_rdV (i := 40) (As := [.int (iI y)]) (rest := []) ⟨hx, hb, hml, hown, hts⟩ hK hM hS rfl hV13.1 rfl (c_Model_valueAt l D g lo L κ13 (mLoad t (mLoad u S)) hV13 y (by omega) hT) (cwV 1 hts (gV m_722 m_724 m_32 m_58 m_725) rfl rfl rfl (by decide +kernel) ⟨Nat.le_of_ble_eq_true rfl, Nat.le_of_ble_eq_true rfl⟩) rfl hl.1 rfl (Nat.le_of_ble_eq_true rfl) d_Model_graft_75 ⟨Nat.le_of_ble_eq_true rfl, Nat.le_of_ble_eq_true rfl⟩ (fun H locs hM hS => ?_)
              have r40 := mVal_r hT (x := y) (by omega)
              refine lv_istore (lv' := [(8, .int (iI (mVal y (mLoad t (mLoad u S))))), (7, .int (iI (mDp y (mLoad t (mLoad u S))))), (6, .int (iI (mKind y (mLoad t (mLoad u S))))), (0, .ref (L 40)), (1, .int (iI u)), (2, .int (iI x)), (3, .int (iI t)), (4, .int (iI y)), (5, .int (iI n))]) hx hb d_Model_graft_78 hl (by decide) rfl (fun ls hl => ?_)
              refine lv_aload_n hx hb d_Model_graft_80 rfl (lv_at hl 3 rfl) ?_
              refine mw_get (ci := 4) (i := 40) (v := .ref (L 48)) (C := R_Model) (T := T_Model) (N := 23) hx hb hts in_Model hown hK hM hV13.1 rfl rfl 12 (by decide) (hts _ m_557) rfl d_Model_graft_81 ?_
              refine lv_iload hx hb d_Model_graft_84 (lv_at hl 7 rfl) ?_
              refine mw_iald (n := 1000) (f := (mLoad t (mLoad u S)).a 7) (a := y) (i := 48) hx hb hK hM 1 (hV13.2.1 7 (by decide)) rfl rfl (by omega) (by decide) d_Model_graft_86 ?_
              have r41 : -1000000 ≤ (mLoad t (mLoad u S)).a 7 (y : Int).toNat ∧ (mLoad t (mLoad u S)).a 7 (y : Int).toNat ≤ 1000000 := hV13.2.2.1 7 _
              refine lv_iload hx hb d_Model_graft_87 (lv_at hl 0 rfl) ?_
              refine ia_sub hx hb d_Model_graft_89 ?_
              refine lv_istore (lv' := [(9, .int (iI (((mLoad t (mLoad u S)).a 7 (y : Int).toNat) - (mVal y (mLoad t (mLoad u S)))))), (8, .int (iI (mVal y (mLoad t (mLoad u S))))), (7, .int (iI (mDp y (mLoad t (mLoad u S))))), (6, .int (iI (mKind y (mLoad t (mLoad u S))))), (0, .ref (L 40)), (1, .int (iI u)), (2, .int (iI x)), (3, .int (iI t)), (4, .int (iI y)), (5, .int (iI n))]) hx hb d_Model_graft_90 hl (by decide) rfl (fun ls hl => ?_)
              refine lv_aload_n hx hb d_Model_graft_92 rfl (lv_at hl 4 rfl) ?_
              refine lv_iload_n hx hb d_Model_graft_93 rfl (lv_at hl 5 rfl) ?_
              refine mw_callV (i := 40) (As := [.int (iI u)]) (rest := []) ⟨hx, hb, hml, hown, hts⟩ hK hM hS rfl hV13.1 rfl (c_Model_load l D g lo L κ13 (mLoad t (mLoad u S)) hV13 u (mSlot_iff.mp hyu) (hL3 hyu hyt) (hz3 hyu hyt)) (cwV 1 hts (gV m_698 m_700 m_28 m_58 m_701) rfl rfl rfl (by decide +kernel) ⟨Nat.le_of_ble_eq_true rfl, Nat.le_of_ble_eq_true rfl⟩) rfl hl.1 rfl (Nat.le_of_ble_eq_true rfl) d_Model_graft_94 ⟨Nat.le_of_ble_eq_true rfl, Nat.le_of_ble_eq_true rfl⟩ (fun v42 L42 κ42 H locs hp42 hM hS => ?_)
              obtain ⟨rfl, rfl, hV42, hk42⟩ := hp42
              have hT := (hL3 hyu hyt hyu).2
              have hT1 := hT.1
              have hn3 := hq hyu hyt
              have hTx := hT.2 x.toNat (by omega)
              have hE := hEn hyu hyt
              have hE1 := hE.1
              refine lv_aload_n hx hb d_Model_graft_97 rfl (lv_at hl 4 rfl) ?_
              refine lv_iload_n hx hb d_Model_graft_98 rfl (lv_at hl 6 rfl) ?_
              refine mw_rdV (i := 40) (As := [.int (iI x)]) (rest := []) ⟨hx, hb, hml, hown, hts⟩ hK hM hS rfl hV42.1 rfl (c_Model_kindOf l D g lo L κ42 (mLoad u (mLoad t (mLoad u S))) hV42 x (by omega) hT) (cwV 1 hts (gV m_714 m_716 m_30 m_58 m_717) rfl rfl rfl (by decide +kernel) ⟨Nat.le_of_ble_eq_true rfl, Nat.le_of_ble_eq_true rfl⟩) rfl hl.1 rfl (Nat.le_of_ble_eq_true rfl) d_Model_graft_99 ⟨Nat.le_of_ble_eq_true rfl, Nat.le_of_ble_eq_true rfl⟩ (fun H locs hM hS => ?_)
              have r43 := mKind_r hV42 x
              refine lv_iconst (v := iI (4)) hx hb d_Model_graft_102 rfl ?_
              refine ia_icmp_ne (a := mKind x (mLoad u (mLoad t (mLoad u S)))) (b := 4) (tgt := 116) hx hb d_Model_graft_103 (by decide) (by omega) (by omega) (fun c44 => ?_) (fun c44 => ?_)
              · refine lv_aload_n hx hb d_Model_graft_116 rfl (lv_at hl 4 rfl) ?_
                refine lv_iload_n hx hb d_Model_graft_117 rfl (lv_at hl 6 rfl) ?_
                refine lv_iload hx hb d_Model_graft_118 (lv_at hl 9 rfl) ?_
                refine mw_rdV (i := 40) (As := [.int (iI x), .int (iI n)]) (rest := []) ⟨hx, hb, hml, hown, hts⟩ hK hM hS rfl hV42.1 rfl (c_Model_isNameFree l D g lo L κ42 (mLoad u (mLoad t (mLoad u S))) hV42 x n (by omega) (by omega) hT) (cwV 2 hts (gV m_764 m_766 m_38 m_58 m_767) rfl rfl rfl (by decide +kernel) ⟨Nat.le_of_ble_eq_true rfl, Nat.le_of_ble_eq_true rfl⟩) rfl hl.1 rfl (Nat.le_of_ble_eq_true rfl) d_Model_graft_120 ⟨Nat.le_of_ble_eq_true rfl, Nat.le_of_ble_eq_true rfl⟩ (fun H locs hM hS => ?_)
                refine ia_ifz_ne (x := mFree x n (mLoad u (mLoad t (mLoad u S)))) (tgt := 131) hx hb d_Model_graft_123 (by decide) (fun c45 => ?_) (fun c45 => ?_)
                · refine lv_iload hx hb d_Model_graft_131 (lv_at hl 2 rfl) ?_
                  refine ia_if_le (a := mDp y (mLoad t (mLoad u S))) (tgt := 155) hx hb d_Model_graft_133 (by decide) (by omega) (fun c46 => ?_) (fun c46 => ?_)
                  · refine lv_iconst (v := iI (0)) hx hb d_Model_graft_155 rfl ?_
                    refine lv_istore (lv' := [(10, .int (iI 0)), (9, .int (iI (((mLoad t (mLoad u S)).a 7 (y : Int).toNat) - (mVal y (mLoad t (mLoad u S)))))), (8, .int (iI (mVal y (mLoad t (mLoad u S))))), (7, .int (iI (mDp y (mLoad t (mLoad u S))))), (6, .int (iI (mKind y (mLoad t (mLoad u S))))), (0, .ref (L 40)), (1, .int (iI u)), (2, .int (iI x)), (3, .int (iI t)), (4, .int (iI y)), (5, .int (iI n))]) hx hb d_Model_graft_156 hl (by decide) rfl (fun ls hl => ?_)
                    refine lv_iload hx hb d_Model_graft_158 (lv_at hl 0 rfl) ?_
                    refine ia_if_ge (a := 0) (tgt := 171) hx hb d_Model_graft_160 (by decide) (by omega) (fun c47 => ?_) (fun c47 => ?_)
                    · have hdp : mGrDeep y (mLoad t (mLoad u S)) = mDp y (mLoad t (mLoad u S)) := by unfold mGrDeep; rw [if_pos (by assumption)]
                      have hwhy : ¬ mGrWhy x n (mGrDeep y (mLoad t (mLoad u S))) (mLoad u (mLoad t (mLoad u S))) < 0 := by rw [hdp]; unfold mGrWhy; rw [if_neg (by omega), if_neg (zne2 (by assumption)), if_neg (by omega)]; decide
                      have hbx1 : mBox x (mLoad u S) = true := by assumption
                      refine lv_aload_n hx hb d_Model_graft_171 rfl (lv_at hl 5 rfl) ?_
                      refine lv_iload_n hx hb d_Model_graft_172 rfl (lv_at hl 7 rfl) ?_
                      refine lv_iload hx hb d_Model_graft_173 (lv_at hl 4 rfl) ?_
                      refine lv_iload hx hb d_Model_graft_175 (lv_at hl 10 rfl) ?_
                      refine mw_callV (i := 40) (As := [.int (iI x), .int (iI (mKind y (mLoad t (mLoad u S)))), .int (iI n)]) (rest := []) ⟨hx, hb, hml, hown, hts⟩ hK hM hS rfl hV42.1 rfl (c_Model_writeHead l D g lo L κ42 (mLoad u (mLoad t (mLoad u S))) hV42 x (mKind y (mLoad t (mLoad u S))) n (by omega) (by omega) (by omega) hT) (cwV 3 hts (gV m_768 m_770 m_39 m_58 m_771) rfl rfl rfl (by decide +kernel) ⟨Nat.le_of_ble_eq_true rfl, Nat.le_of_ble_eq_true rfl⟩) rfl hl.1 rfl (Nat.le_of_ble_eq_true rfl) d_Model_graft_177 ⟨Nat.le_of_ble_eq_true rfl, Nat.le_of_ble_eq_true rfl⟩ (fun v48 L48 κ48 H locs hp48 hM hS => ?_)
                      obtain ⟨rfl, rfl, hV48, hk48⟩ := hp48
                      have r49 := (mHead_k (x := x) (k := mKind y (mLoad t (mLoad u S))) (n := n) (S := mLoad u (mLoad t (mLoad u S))) (by omega)).2
                      refine lv_iconst (v := iI (0)) hx hb d_Model_graft_180 rfl ?_
                      refine lv_istore (lv' := [(11, .int (iI 0)), (10, .int (iI 0)), (9, .int (iI (((mLoad t (mLoad u S)).a 7 (y : Int).toNat) - (mVal y (mLoad t (mLoad u S)))))), (8, .int (iI (mVal y (mLoad t (mLoad u S))))), (7, .int (iI (mDp y (mLoad t (mLoad u S))))), (6, .int (iI (mKind y (mLoad t (mLoad u S))))), (0, .ref (L 40)), (1, .int (iI u)), (2, .int (iI x)), (3, .int (iI t)), (4, .int (iI y)), (5, .int (iI n))]) hx hb d_Model_graft_181 hl (by decide) rfl (fun ls hl => ?_)
                      exact loop183 _ 0 (mHead x (mKind y (mLoad t (mLoad u S))) n (mLoad u (mLoad t (mLoad u S)))) κ48 (Nat.lt_succ_self _) hV48 (fun r h => by rw [hk48 r (by omega), hk42 r (by omega), hk13 r (by omega), hk9 r (by omega)]) (by omega) ⟨c10, c14, by omega⟩ hbx1 hwhy mKp_r (by omega) (by omega) rfl _ _ ls hM hS (lv_sub hl [0, 2, 3, 6, 7, 8, 9] rfl)
                    · exact absurd (by decide) c47
                  · refine lv_aload_n hx hb d_Model_graft_136 rfl (lv_at hl 4 rfl) ?_
                    refine mw_get (ci := 4) (i := 40) (v := .ref (L 49)) (C := R_Model) (T := T_Model) (N := 23) hx hb hts in_Model hown hK hM hV42.1 rfl rfl 13 (by decide) (hts _ m_558) rfl d_Model_graft_137 ?_
                    refine lv_iload_n hx hb d_Model_graft_140 rfl (lv_at hl 6 rfl) ?_
                    refine mw_iald (n := 1000) (f := (mLoad u (mLoad t (mLoad u S))).a 8) (a := x) (i := 49) hx hb hK hM 1 (hV42.2.1 8 (by decide)) rfl rfl (by omega) (by decide) d_Model_graft_141 ?_
                    have r50 : -1000000 ≤ (mLoad u (mLoad t (mLoad u S))).a 8 (x : Int).toNat ∧ (mLoad u (mLoad t (mLoad u S))).a 8 (x : Int).toNat ≤ 1000000 := hV42.2.2.1 8 _
                    refine lv_iload hx hb d_Model_graft_142 (lv_at hl 2 rfl) ?_
                    refine ia_add hx hb d_Model_graft_144 ?_
                    refine lv_bipush (v := iI (16)) hx hb d_Model_graft_145 (by decide) ?_
                    refine ia_icmp_le (a := ((mLoad u (mLoad t (mLoad u S))).a 8 (x : Int).toNat) + (mDp y (mLoad t (mLoad u S)))) (b := 16) (tgt := 155) hx hb d_Model_graft_147 (by decide) (by omega) (by omega) (fun c51 => ?_) (fun c51 => ?_)
                    · refine lv_iconst (v := iI (0)) hx hb d_Model_graft_155 rfl ?_
                      refine lv_istore (lv' := [(10, .int (iI 0)), (9, .int (iI (((mLoad t (mLoad u S)).a 7 (y : Int).toNat) - (mVal y (mLoad t (mLoad u S)))))), (8, .int (iI (mVal y (mLoad t (mLoad u S))))), (7, .int (iI (mDp y (mLoad t (mLoad u S))))), (6, .int (iI (mKind y (mLoad t (mLoad u S))))), (0, .ref (L 40)), (1, .int (iI u)), (2, .int (iI x)), (3, .int (iI t)), (4, .int (iI y)), (5, .int (iI n))]) hx hb d_Model_graft_156 hl (by decide) rfl (fun ls hl => ?_)
                      refine lv_iload hx hb d_Model_graft_158 (lv_at hl 0 rfl) ?_
                      refine ia_if_ge (a := 0) (tgt := 171) hx hb d_Model_graft_160 (by decide) (by omega) (fun c52 => ?_) (fun c52 => ?_)
                      · have hdp : mGrDeep y (mLoad t (mLoad u S)) = mDp y (mLoad t (mLoad u S)) := by unfold mGrDeep; rw [if_pos (by assumption)]
                        have hwhy : ¬ mGrWhy x n (mGrDeep y (mLoad t (mLoad u S))) (mLoad u (mLoad t (mLoad u S))) < 0 := by rw [hdp]; unfold mGrWhy; rw [if_neg (by omega), if_neg (zne2 (by assumption)), if_neg (by omega)]; decide
                        have hbx1 : mBox x (mLoad u S) = true := by assumption
                        refine lv_aload_n hx hb d_Model_graft_171 rfl (lv_at hl 5 rfl) ?_
                        refine lv_iload_n hx hb d_Model_graft_172 rfl (lv_at hl 7 rfl) ?_
                        refine lv_iload hx hb d_Model_graft_173 (lv_at hl 4 rfl) ?_
                        refine lv_iload hx hb d_Model_graft_175 (lv_at hl 10 rfl) ?_
                        refine mw_callV (i := 40) (As := [.int (iI x), .int (iI (mKind y (mLoad t (mLoad u S)))), .int (iI n)]) (rest := []) ⟨hx, hb, hml, hown, hts⟩ hK hM hS rfl hV42.1 rfl (c_Model_writeHead l D g lo L κ42 (mLoad u (mLoad t (mLoad u S))) hV42 x (mKind y (mLoad t (mLoad u S))) n (by omega) (by omega) (by omega) hT) (cwV 3 hts (gV m_768 m_770 m_39 m_58 m_771) rfl rfl rfl (by decide +kernel) ⟨Nat.le_of_ble_eq_true rfl, Nat.le_of_ble_eq_true rfl⟩) rfl hl.1 rfl (Nat.le_of_ble_eq_true rfl) d_Model_graft_177 ⟨Nat.le_of_ble_eq_true rfl, Nat.le_of_ble_eq_true rfl⟩ (fun v53 L53 κ53 H locs hp53 hM hS => ?_)
                        obtain ⟨rfl, rfl, hV53, hk53⟩ := hp53
                        have r54 := (mHead_k (x := x) (k := mKind y (mLoad t (mLoad u S))) (n := n) (S := mLoad u (mLoad t (mLoad u S))) (by omega)).2
                        refine lv_iconst (v := iI (0)) hx hb d_Model_graft_180 rfl ?_
                        refine lv_istore (lv' := [(11, .int (iI 0)), (10, .int (iI 0)), (9, .int (iI (((mLoad t (mLoad u S)).a 7 (y : Int).toNat) - (mVal y (mLoad t (mLoad u S)))))), (8, .int (iI (mVal y (mLoad t (mLoad u S))))), (7, .int (iI (mDp y (mLoad t (mLoad u S))))), (6, .int (iI (mKind y (mLoad t (mLoad u S))))), (0, .ref (L 40)), (1, .int (iI u)), (2, .int (iI x)), (3, .int (iI t)), (4, .int (iI y)), (5, .int (iI n))]) hx hb d_Model_graft_181 hl (by decide) rfl (fun ls hl => ?_)
                        exact loop183 _ 0 (mHead x (mKind y (mLoad t (mLoad u S))) n (mLoad u (mLoad t (mLoad u S)))) κ53 (Nat.lt_succ_self _) hV53 (fun r h => by rw [hk53 r (by omega), hk42 r (by omega), hk13 r (by omega), hk9 r (by omega)]) (by omega) ⟨c10, c14, by omega⟩ hbx1 hwhy mKp_r (by omega) (by omega) rfl _ _ ls hM hS (lv_sub hl [0, 2, 3, 6, 7, 8, 9] rfl)
                      · exact absurd (by decide) c52
                    · refine lv_bipush (v := iI (-4)) hx hb d_Model_graft_150 (by decide) ?_
                      refine lv_goto (tgt := 156) hx hb d_Model_graft_152 (by decide) ?_
                      refine lv_istore (lv' := [(10, .int (iI (-4))), (9, .int (iI (((mLoad t (mLoad u S)).a 7 (y : Int).toNat) - (mVal y (mLoad t (mLoad u S)))))), (8, .int (iI (mVal y (mLoad t (mLoad u S))))), (7, .int (iI (mDp y (mLoad t (mLoad u S))))), (6, .int (iI (mKind y (mLoad t (mLoad u S))))), (0, .ref (L 40)), (1, .int (iI u)), (2, .int (iI x)), (3, .int (iI t)), (4, .int (iI y)), (5, .int (iI n))]) hx hb d_Model_graft_156 hl (by decide) rfl (fun ls hl => ?_)
                      refine lv_iload hx hb d_Model_graft_158 (lv_at hl 0 rfl) ?_
                      refine ia_if_ge (a := -4) (tgt := 171) hx hb d_Model_graft_160 (by decide) (by omega) (fun c55 => ?_) (fun c55 => ?_)
                      · exact absurd c55 (by decide)
                      · refine lv_aload_n hx hb d_Model_graft_163 rfl (lv_at hl 5 rfl) ?_
                        refine lv_iconst (v := iI (0)) hx hb d_Model_graft_164 rfl ?_
                        refine mw_put (ci := 4) (i := 40) (v := .int (iI 0)) (C := R_Model) (T := T_Model) (N := 23) hx hb hts in_Model ty_Model ty_Model_ok nm_Model hown hK hM hS hV42.1 rfl rfl 2 (by decide) (hts _ m_547) rfl (ty_Model_ok 2 (by decide)) rfl rfl (Nat.le_of_ble_eq_true rfl) d_Model_graft_165 (fun κ56 H locs e56 hk56 hM hS => ?_)
                        have e56 : κ56 40 = some (.inr (4, [.int (iI ((mLoad u (mLoad t (mLoad u S))).f 8)), .ref (L 41), .int (iI 0), .int (iI ((mLoad u (mLoad t (mLoad u S))).f 1)), .ref (L 42), .ref (L 43), .ref (L 44), .int (iI ((mLoad u (mLoad t (mLoad u S))).f 2)), .int (iI ((mLoad u (mLoad t (mLoad u S))).f 3)), .ref (L 45), .ref (L 46), .ref (L 47), .ref (L 48), .ref (L 49), .int (iI ((mLoad u (mLoad t (mLoad u S))).f 4)), .int (iI ((mLoad u (mLoad t (mLoad u S))).f 5)), .int (iI ((mLoad u (mLoad t (mLoad u S))).f 6)), .ref (L 50), .ref (L 51), .ref (L 52), .ref (L 53), .ref (L 54), .int (iI ((mLoad u (mLoad t (mLoad u S))).f 7))])) := e56
                        have hV56 : mds g L κ56 ((mLoad u (mLoad t (mLoad u S))).pf 0 0) := mds_pf hV42 e56 hk56 (by first | omega | (split <;> omega))
                        refine lv_iload hx hb d_Model_graft_168 (lv_at hl 0 rfl) ?_
                        exact mw_iret hx hb hr hM hS hlocks d_Model_graft_170 (by rw [show mGraft u x t y n S = (-4, (mLoad u (mLoad t (mLoad u S))).pf 0 0) by first | (exfalso; omega) | (unfold mGraft; rw [if_neg (by omega), if_neg (zne2 c10), if_neg (zne2 (by assumption)), if_neg (zne2 c14)]; unfold mGr2; rw [(show mGrDeep y (mLoad t (mLoad u S)) = mDp y (mLoad t (mLoad u S)) by unfold mGrDeep; rw [if_pos (by assumption)]), show mGrWhy x n (mDp y (mLoad t (mLoad u S))) (mLoad u (mLoad t (mLoad u S))) = -4 by unfold mGrWhy; rw [if_neg (by omega), if_neg (zne2 (by assumption)), if_pos (by omega)], if_pos (by decide)])]; exact ⟨rfl, rfl, hV56, (fun r h => by rw [hk56 r (by omega), hk42 r (by omega), hk13 r (by omega), hk9 r (by omega)])⟩)
                · refine lv_bipush (v := iI (-3)) hx hb d_Model_graft_126 (by decide) ?_
                  refine lv_goto (tgt := 156) hx hb d_Model_graft_128 (by decide) ?_
                  refine lv_istore (lv' := [(10, .int (iI (-3))), (9, .int (iI (((mLoad t (mLoad u S)).a 7 (y : Int).toNat) - (mVal y (mLoad t (mLoad u S)))))), (8, .int (iI (mVal y (mLoad t (mLoad u S))))), (7, .int (iI (mDp y (mLoad t (mLoad u S))))), (6, .int (iI (mKind y (mLoad t (mLoad u S))))), (0, .ref (L 40)), (1, .int (iI u)), (2, .int (iI x)), (3, .int (iI t)), (4, .int (iI y)), (5, .int (iI n))]) hx hb d_Model_graft_156 hl (by decide) rfl (fun ls hl => ?_)
                  refine lv_iload hx hb d_Model_graft_158 (lv_at hl 0 rfl) ?_
                  refine ia_if_ge (a := -3) (tgt := 171) hx hb d_Model_graft_160 (by decide) (by omega) (fun c57 => ?_) (fun c57 => ?_)
                  · exact absurd c57 (by decide)
                  · refine lv_aload_n hx hb d_Model_graft_163 rfl (lv_at hl 5 rfl) ?_
                    refine lv_iconst (v := iI (0)) hx hb d_Model_graft_164 rfl ?_
                    refine mw_put (ci := 4) (i := 40) (v := .int (iI 0)) (C := R_Model) (T := T_Model) (N := 23) hx hb hts in_Model ty_Model ty_Model_ok nm_Model hown hK hM hS hV42.1 rfl rfl 2 (by decide) (hts _ m_547) rfl (ty_Model_ok 2 (by decide)) rfl rfl (Nat.le_of_ble_eq_true rfl) d_Model_graft_165 (fun κ58 H locs e58 hk58 hM hS => ?_)
                    have e58 : κ58 40 = some (.inr (4, [.int (iI ((mLoad u (mLoad t (mLoad u S))).f 8)), .ref (L 41), .int (iI 0), .int (iI ((mLoad u (mLoad t (mLoad u S))).f 1)), .ref (L 42), .ref (L 43), .ref (L 44), .int (iI ((mLoad u (mLoad t (mLoad u S))).f 2)), .int (iI ((mLoad u (mLoad t (mLoad u S))).f 3)), .ref (L 45), .ref (L 46), .ref (L 47), .ref (L 48), .ref (L 49), .int (iI ((mLoad u (mLoad t (mLoad u S))).f 4)), .int (iI ((mLoad u (mLoad t (mLoad u S))).f 5)), .int (iI ((mLoad u (mLoad t (mLoad u S))).f 6)), .ref (L 50), .ref (L 51), .ref (L 52), .ref (L 53), .ref (L 54), .int (iI ((mLoad u (mLoad t (mLoad u S))).f 7))])) := e58
                    have hV58 : mds g L κ58 ((mLoad u (mLoad t (mLoad u S))).pf 0 0) := mds_pf hV42 e58 hk58 (by first | omega | (split <;> omega))
                    refine lv_iload hx hb d_Model_graft_168 (lv_at hl 0 rfl) ?_
                    exact mw_iret hx hb hr hM hS hlocks d_Model_graft_170 (by rw [show mGraft u x t y n S = (-3, (mLoad u (mLoad t (mLoad u S))).pf 0 0) by first | (exfalso; omega) | (unfold mGraft; rw [if_neg (by omega), if_neg (zne2 c10), if_neg (zne2 (by assumption)), if_neg (zne2 c14)]; unfold mGr2; rw [(show mGrDeep y (mLoad t (mLoad u S)) = mDp y (mLoad t (mLoad u S)) by unfold mGrDeep; rw [if_pos (by assumption)]), show mGrWhy x n (mDp y (mLoad t (mLoad u S))) (mLoad u (mLoad t (mLoad u S))) = -3 by unfold mGrWhy; rw [if_neg (by omega), if_pos (by assumption)], if_pos (by decide)])]; exact ⟨rfl, rfl, hV58, (fun r h => by rw [hk58 r (by omega), hk42 r (by omega), hk13 r (by omega), hk9 r (by omega)])⟩)
              · refine lv_iload hx hb d_Model_graft_106 (lv_at hl 9 rfl) ?_
                refine ia_if_le (a := n) (tgt := 116) hx hb d_Model_graft_108 (by decide) (by omega) (fun c59 => ?_) (fun c59 => ?_)
                · refine lv_aload_n hx hb d_Model_graft_116 rfl (lv_at hl 4 rfl) ?_
                  refine lv_iload_n hx hb d_Model_graft_117 rfl (lv_at hl 6 rfl) ?_
                  refine lv_iload hx hb d_Model_graft_118 (lv_at hl 9 rfl) ?_
                  refine mw_rdV (i := 40) (As := [.int (iI x), .int (iI n)]) (rest := []) ⟨hx, hb, hml, hown, hts⟩ hK hM hS rfl hV42.1 rfl (c_Model_isNameFree l D g lo L κ42 (mLoad u (mLoad t (mLoad u S))) hV42 x n (by omega) (by omega) hT) (cwV 2 hts (gV m_764 m_766 m_38 m_58 m_767) rfl rfl rfl (by decide +kernel) ⟨Nat.le_of_ble_eq_true rfl, Nat.le_of_ble_eq_true rfl⟩) rfl hl.1 rfl (Nat.le_of_ble_eq_true rfl) d_Model_graft_120 ⟨Nat.le_of_ble_eq_true rfl, Nat.le_of_ble_eq_true rfl⟩ (fun H locs hM hS => ?_)
                  refine ia_ifz_ne (x := mFree x n (mLoad u (mLoad t (mLoad u S)))) (tgt := 131) hx hb d_Model_graft_123 (by decide) (fun c60 => ?_) (fun c60 => ?_)
                  · refine lv_iload hx hb d_Model_graft_131 (lv_at hl 2 rfl) ?_
                    refine ia_if_le (a := mDp y (mLoad t (mLoad u S))) (tgt := 155) hx hb d_Model_graft_133 (by decide) (by omega) (fun c61 => ?_) (fun c61 => ?_)
                    · refine lv_iconst (v := iI (0)) hx hb d_Model_graft_155 rfl ?_
                      refine lv_istore (lv' := [(10, .int (iI 0)), (9, .int (iI (((mLoad t (mLoad u S)).a 7 (y : Int).toNat) - (mVal y (mLoad t (mLoad u S)))))), (8, .int (iI (mVal y (mLoad t (mLoad u S))))), (7, .int (iI (mDp y (mLoad t (mLoad u S))))), (6, .int (iI (mKind y (mLoad t (mLoad u S))))), (0, .ref (L 40)), (1, .int (iI u)), (2, .int (iI x)), (3, .int (iI t)), (4, .int (iI y)), (5, .int (iI n))]) hx hb d_Model_graft_156 hl (by decide) rfl (fun ls hl => ?_)
                      refine lv_iload hx hb d_Model_graft_158 (lv_at hl 0 rfl) ?_
                      refine ia_if_ge (a := 0) (tgt := 171) hx hb d_Model_graft_160 (by decide) (by omega) (fun c62 => ?_) (fun c62 => ?_)
                      · have hdp : mGrDeep y (mLoad t (mLoad u S)) = mDp y (mLoad t (mLoad u S)) := by unfold mGrDeep; rw [if_pos (by assumption)]
                        have hwhy : ¬ mGrWhy x n (mGrDeep y (mLoad t (mLoad u S))) (mLoad u (mLoad t (mLoad u S))) < 0 := by rw [hdp]; unfold mGrWhy; rw [if_neg (by omega), if_neg (zne2 (by assumption)), if_neg (by omega)]; decide
                        have hbx1 : mBox x (mLoad u S) = true := by assumption
                        refine lv_aload_n hx hb d_Model_graft_171 rfl (lv_at hl 5 rfl) ?_
                        refine lv_iload_n hx hb d_Model_graft_172 rfl (lv_at hl 7 rfl) ?_
                        refine lv_iload hx hb d_Model_graft_173 (lv_at hl 4 rfl) ?_
                        refine lv_iload hx hb d_Model_graft_175 (lv_at hl 10 rfl) ?_
                        refine mw_callV (i := 40) (As := [.int (iI x), .int (iI (mKind y (mLoad t (mLoad u S)))), .int (iI n)]) (rest := []) ⟨hx, hb, hml, hown, hts⟩ hK hM hS rfl hV42.1 rfl (c_Model_writeHead l D g lo L κ42 (mLoad u (mLoad t (mLoad u S))) hV42 x (mKind y (mLoad t (mLoad u S))) n (by omega) (by omega) (by omega) hT) (cwV 3 hts (gV m_768 m_770 m_39 m_58 m_771) rfl rfl rfl (by decide +kernel) ⟨Nat.le_of_ble_eq_true rfl, Nat.le_of_ble_eq_true rfl⟩) rfl hl.1 rfl (Nat.le_of_ble_eq_true rfl) d_Model_graft_177 ⟨Nat.le_of_ble_eq_true rfl, Nat.le_of_ble_eq_true rfl⟩ (fun v63 L63 κ63 H locs hp63 hM hS => ?_)
                        obtain ⟨rfl, rfl, hV63, hk63⟩ := hp63
                        have r64 := (mHead_k (x := x) (k := mKind y (mLoad t (mLoad u S))) (n := n) (S := mLoad u (mLoad t (mLoad u S))) (by omega)).2
                        refine lv_iconst (v := iI (0)) hx hb d_Model_graft_180 rfl ?_
                        refine lv_istore (lv' := [(11, .int (iI 0)), (10, .int (iI 0)), (9, .int (iI (((mLoad t (mLoad u S)).a 7 (y : Int).toNat) - (mVal y (mLoad t (mLoad u S)))))), (8, .int (iI (mVal y (mLoad t (mLoad u S))))), (7, .int (iI (mDp y (mLoad t (mLoad u S))))), (6, .int (iI (mKind y (mLoad t (mLoad u S))))), (0, .ref (L 40)), (1, .int (iI u)), (2, .int (iI x)), (3, .int (iI t)), (4, .int (iI y)), (5, .int (iI n))]) hx hb d_Model_graft_181 hl (by decide) rfl (fun ls hl => ?_)
                        exact loop183 _ 0 (mHead x (mKind y (mLoad t (mLoad u S))) n (mLoad u (mLoad t (mLoad u S)))) κ63 (Nat.lt_succ_self _) hV63 (fun r h => by rw [hk63 r (by omega), hk42 r (by omega), hk13 r (by omega), hk9 r (by omega)]) (by omega) ⟨c10, c14, by omega⟩ hbx1 hwhy mKp_r (by omega) (by omega) rfl _ _ ls hM hS (lv_sub hl [0, 2, 3, 6, 7, 8, 9] rfl)
                      · exact absurd (by decide) c62
                    · refine lv_aload_n hx hb d_Model_graft_136 rfl (lv_at hl 4 rfl) ?_
                      refine mw_get (ci := 4) (i := 40) (v := .ref (L 49)) (C := R_Model) (T := T_Model) (N := 23) hx hb hts in_Model hown hK hM hV42.1 rfl rfl 13 (by decide) (hts _ m_558) rfl d_Model_graft_137 ?_
                      refine lv_iload_n hx hb d_Model_graft_140 rfl (lv_at hl 6 rfl) ?_
                      refine mw_iald (n := 1000) (f := (mLoad u (mLoad t (mLoad u S))).a 8) (a := x) (i := 49) hx hb hK hM 1 (hV42.2.1 8 (by decide)) rfl rfl (by omega) (by decide) d_Model_graft_141 ?_
                      have r65 : -1000000 ≤ (mLoad u (mLoad t (mLoad u S))).a 8 (x : Int).toNat ∧ (mLoad u (mLoad t (mLoad u S))).a 8 (x : Int).toNat ≤ 1000000 := hV42.2.2.1 8 _
                      refine lv_iload hx hb d_Model_graft_142 (lv_at hl 2 rfl) ?_
                      refine ia_add hx hb d_Model_graft_144 ?_
                      refine lv_bipush (v := iI (16)) hx hb d_Model_graft_145 (by decide) ?_
                      refine ia_icmp_le (a := ((mLoad u (mLoad t (mLoad u S))).a 8 (x : Int).toNat) + (mDp y (mLoad t (mLoad u S)))) (b := 16) (tgt := 155) hx hb d_Model_graft_147 (by decide) (by omega) (by omega) (fun c66 => ?_) (fun c66 => ?_)
                      · refine lv_iconst (v := iI (0)) hx hb d_Model_graft_155 rfl ?_
                        refine lv_istore (lv' := [(10, .int (iI 0)), (9, .int (iI (((mLoad t (mLoad u S)).a 7 (y : Int).toNat) - (mVal y (mLoad t (mLoad u S)))))), (8, .int (iI (mVal y (mLoad t (mLoad u S))))), (7, .int (iI (mDp y (mLoad t (mLoad u S))))), (6, .int (iI (mKind y (mLoad t (mLoad u S))))), (0, .ref (L 40)), (1, .int (iI u)), (2, .int (iI x)), (3, .int (iI t)), (4, .int (iI y)), (5, .int (iI n))]) hx hb d_Model_graft_156 hl (by decide) rfl (fun ls hl => ?_)
                        refine lv_iload hx hb d_Model_graft_158 (lv_at hl 0 rfl) ?_
                        refine ia_if_ge (a := 0) (tgt := 171) hx hb d_Model_graft_160 (by decide) (by omega) (fun c67 => ?_) (fun c67 => ?_)
                        · have hdp : mGrDeep y (mLoad t (mLoad u S)) = mDp y (mLoad t (mLoad u S)) := by unfold mGrDeep; rw [if_pos (by assumption)]
                          have hwhy : ¬ mGrWhy x n (mGrDeep y (mLoad t (mLoad u S))) (mLoad u (mLoad t (mLoad u S))) < 0 := by rw [hdp]; unfold mGrWhy; rw [if_neg (by omega), if_neg (zne2 (by assumption)), if_neg (by omega)]; decide
                          have hbx1 : mBox x (mLoad u S) = true := by assumption
                          refine lv_aload_n hx hb d_Model_graft_171 rfl (lv_at hl 5 rfl) ?_
                          refine lv_iload_n hx hb d_Model_graft_172 rfl (lv_at hl 7 rfl) ?_
                          refine lv_iload hx hb d_Model_graft_173 (lv_at hl 4 rfl) ?_
                          refine lv_iload hx hb d_Model_graft_175 (lv_at hl 10 rfl) ?_
                          refine mw_callV (i := 40) (As := [.int (iI x), .int (iI (mKind y (mLoad t (mLoad u S)))), .int (iI n)]) (rest := []) ⟨hx, hb, hml, hown, hts⟩ hK hM hS rfl hV42.1 rfl (c_Model_writeHead l D g lo L κ42 (mLoad u (mLoad t (mLoad u S))) hV42 x (mKind y (mLoad t (mLoad u S))) n (by omega) (by omega) (by omega) hT) (cwV 3 hts (gV m_768 m_770 m_39 m_58 m_771) rfl rfl rfl (by decide +kernel) ⟨Nat.le_of_ble_eq_true rfl, Nat.le_of_ble_eq_true rfl⟩) rfl hl.1 rfl (Nat.le_of_ble_eq_true rfl) d_Model_graft_177 ⟨Nat.le_of_ble_eq_true rfl, Nat.le_of_ble_eq_true rfl⟩ (fun v68 L68 κ68 H locs hp68 hM hS => ?_)
                          obtain ⟨rfl, rfl, hV68, hk68⟩ := hp68
                          have r69 := (mHead_k (x := x) (k := mKind y (mLoad t (mLoad u S))) (n := n) (S := mLoad u (mLoad t (mLoad u S))) (by omega)).2
                          refine lv_iconst (v := iI (0)) hx hb d_Model_graft_180 rfl ?_
                          refine lv_istore (lv' := [(11, .int (iI 0)), (10, .int (iI 0)), (9, .int (iI (((mLoad t (mLoad u S)).a 7 (y : Int).toNat) - (mVal y (mLoad t (mLoad u S)))))), (8, .int (iI (mVal y (mLoad t (mLoad u S))))), (7, .int (iI (mDp y (mLoad t (mLoad u S))))), (6, .int (iI (mKind y (mLoad t (mLoad u S))))), (0, .ref (L 40)), (1, .int (iI u)), (2, .int (iI x)), (3, .int (iI t)), (4, .int (iI y)), (5, .int (iI n))]) hx hb d_Model_graft_181 hl (by decide) rfl (fun ls hl => ?_)
                          exact loop183 _ 0 (mHead x (mKind y (mLoad t (mLoad u S))) n (mLoad u (mLoad t (mLoad u S)))) κ68 (Nat.lt_succ_self _) hV68 (fun r h => by rw [hk68 r (by omega), hk42 r (by omega), hk13 r (by omega), hk9 r (by omega)]) (by omega) ⟨c10, c14, by omega⟩ hbx1 hwhy mKp_r (by omega) (by omega) rfl _ _ ls hM hS (lv_sub hl [0, 2, 3, 6, 7, 8, 9] rfl)
                        · exact absurd (by decide) c67
                      · refine lv_bipush (v := iI (-4)) hx hb d_Model_graft_150 (by decide) ?_
                        refine lv_goto (tgt := 156) hx hb d_Model_graft_152 (by decide) ?_
                        refine lv_istore (lv' := [(10, .int (iI (-4))), (9, .int (iI (((mLoad t (mLoad u S)).a 7 (y : Int).toNat) - (mVal y (mLoad t (mLoad u S)))))), (8, .int (iI (mVal y (mLoad t (mLoad u S))))), (7, .int (iI (mDp y (mLoad t (mLoad u S))))), (6, .int (iI (mKind y (mLoad t (mLoad u S))))), (0, .ref (L 40)), (1, .int (iI u)), (2, .int (iI x)), (3, .int (iI t)), (4, .int (iI y)), (5, .int (iI n))]) hx hb d_Model_graft_156 hl (by decide) rfl (fun ls hl => ?_)
                        refine lv_iload hx hb d_Model_graft_158 (lv_at hl 0 rfl) ?_
                        refine ia_if_ge (a := -4) (tgt := 171) hx hb d_Model_graft_160 (by decide) (by omega) (fun c70 => ?_) (fun c70 => ?_)
                        · exact absurd c70 (by decide)
                        · refine lv_aload_n hx hb d_Model_graft_163 rfl (lv_at hl 5 rfl) ?_
                          refine lv_iconst (v := iI (0)) hx hb d_Model_graft_164 rfl ?_
                          refine mw_put (ci := 4) (i := 40) (v := .int (iI 0)) (C := R_Model) (T := T_Model) (N := 23) hx hb hts in_Model ty_Model ty_Model_ok nm_Model hown hK hM hS hV42.1 rfl rfl 2 (by decide) (hts _ m_547) rfl (ty_Model_ok 2 (by decide)) rfl rfl (Nat.le_of_ble_eq_true rfl) d_Model_graft_165 (fun κ71 H locs e71 hk71 hM hS => ?_)
                          have e71 : κ71 40 = some (.inr (4, [.int (iI ((mLoad u (mLoad t (mLoad u S))).f 8)), .ref (L 41), .int (iI 0), .int (iI ((mLoad u (mLoad t (mLoad u S))).f 1)), .ref (L 42), .ref (L 43), .ref (L 44), .int (iI ((mLoad u (mLoad t (mLoad u S))).f 2)), .int (iI ((mLoad u (mLoad t (mLoad u S))).f 3)), .ref (L 45), .ref (L 46), .ref (L 47), .ref (L 48), .ref (L 49), .int (iI ((mLoad u (mLoad t (mLoad u S))).f 4)), .int (iI ((mLoad u (mLoad t (mLoad u S))).f 5)), .int (iI ((mLoad u (mLoad t (mLoad u S))).f 6)), .ref (L 50), .ref (L 51), .ref (L 52), .ref (L 53), .ref (L 54), .int (iI ((mLoad u (mLoad t (mLoad u S))).f 7))])) := e71
                          have hV71 : mds g L κ71 ((mLoad u (mLoad t (mLoad u S))).pf 0 0) := mds_pf hV42 e71 hk71 (by first | omega | (split <;> omega))
                          refine lv_iload hx hb d_Model_graft_168 (lv_at hl 0 rfl) ?_
                          exact mw_iret hx hb hr hM hS hlocks d_Model_graft_170 (by rw [show mGraft u x t y n S = (-4, (mLoad u (mLoad t (mLoad u S))).pf 0 0) by first | (exfalso; omega) | (unfold mGraft; rw [if_neg (by omega), if_neg (zne2 c10), if_neg (zne2 (by assumption)), if_neg (zne2 c14)]; unfold mGr2; rw [(show mGrDeep y (mLoad t (mLoad u S)) = mDp y (mLoad t (mLoad u S)) by unfold mGrDeep; rw [if_pos (by assumption)]), show mGrWhy x n (mDp y (mLoad t (mLoad u S))) (mLoad u (mLoad t (mLoad u S))) = -4 by unfold mGrWhy; rw [if_neg (by omega), if_neg (zne2 (by assumption)), if_pos (by omega)], if_pos (by decide)])]; exact ⟨rfl, rfl, hV71, (fun r h => by rw [hk71 r (by omega), hk42 r (by omega), hk13 r (by omega), hk9 r (by omega)])⟩)
                  · refine lv_bipush (v := iI (-3)) hx hb d_Model_graft_126 (by decide) ?_
                    refine lv_goto (tgt := 156) hx hb d_Model_graft_128 (by decide) ?_
                    refine lv_istore (lv' := [(10, .int (iI (-3))), (9, .int (iI (((mLoad t (mLoad u S)).a 7 (y : Int).toNat) - (mVal y (mLoad t (mLoad u S)))))), (8, .int (iI (mVal y (mLoad t (mLoad u S))))), (7, .int (iI (mDp y (mLoad t (mLoad u S))))), (6, .int (iI (mKind y (mLoad t (mLoad u S))))), (0, .ref (L 40)), (1, .int (iI u)), (2, .int (iI x)), (3, .int (iI t)), (4, .int (iI y)), (5, .int (iI n))]) hx hb d_Model_graft_156 hl (by decide) rfl (fun ls hl => ?_)
                    refine lv_iload hx hb d_Model_graft_158 (lv_at hl 0 rfl) ?_
                    refine ia_if_ge (a := -3) (tgt := 171) hx hb d_Model_graft_160 (by decide) (by omega) (fun c72 => ?_) (fun c72 => ?_)
                    · exact absurd c72 (by decide)
                    · refine lv_aload_n hx hb d_Model_graft_163 rfl (lv_at hl 5 rfl) ?_
                      refine lv_iconst (v := iI (0)) hx hb d_Model_graft_164 rfl ?_
                      refine mw_put (ci := 4) (i := 40) (v := .int (iI 0)) (C := R_Model) (T := T_Model) (N := 23) hx hb hts in_Model ty_Model ty_Model_ok nm_Model hown hK hM hS hV42.1 rfl rfl 2 (by decide) (hts _ m_547) rfl (ty_Model_ok 2 (by decide)) rfl rfl (Nat.le_of_ble_eq_true rfl) d_Model_graft_165 (fun κ73 H locs e73 hk73 hM hS => ?_)
                      have e73 : κ73 40 = some (.inr (4, [.int (iI ((mLoad u (mLoad t (mLoad u S))).f 8)), .ref (L 41), .int (iI 0), .int (iI ((mLoad u (mLoad t (mLoad u S))).f 1)), .ref (L 42), .ref (L 43), .ref (L 44), .int (iI ((mLoad u (mLoad t (mLoad u S))).f 2)), .int (iI ((mLoad u (mLoad t (mLoad u S))).f 3)), .ref (L 45), .ref (L 46), .ref (L 47), .ref (L 48), .ref (L 49), .int (iI ((mLoad u (mLoad t (mLoad u S))).f 4)), .int (iI ((mLoad u (mLoad t (mLoad u S))).f 5)), .int (iI ((mLoad u (mLoad t (mLoad u S))).f 6)), .ref (L 50), .ref (L 51), .ref (L 52), .ref (L 53), .ref (L 54), .int (iI ((mLoad u (mLoad t (mLoad u S))).f 7))])) := e73
                      have hV73 : mds g L κ73 ((mLoad u (mLoad t (mLoad u S))).pf 0 0) := mds_pf hV42 e73 hk73 (by first | omega | (split <;> omega))
                      refine lv_iload hx hb d_Model_graft_168 (lv_at hl 0 rfl) ?_
                      exact mw_iret hx hb hr hM hS hlocks d_Model_graft_170 (by rw [show mGraft u x t y n S = (-3, (mLoad u (mLoad t (mLoad u S))).pf 0 0) by first | (exfalso; omega) | (unfold mGraft; rw [if_neg (by omega), if_neg (zne2 c10), if_neg (zne2 (by assumption)), if_neg (zne2 c14)]; unfold mGr2; rw [(show mGrDeep y (mLoad t (mLoad u S)) = mDp y (mLoad t (mLoad u S)) by unfold mGrDeep; rw [if_pos (by assumption)]), show mGrWhy x n (mDp y (mLoad t (mLoad u S))) (mLoad u (mLoad t (mLoad u S))) = -3 by unfold mGrWhy; rw [if_neg (by omega), if_pos (by assumption)], if_pos (by decide)])]; exact ⟨rfl, rfl, hV73, (fun r h => by rw [hk73 r (by omega), hk42 r (by omega), hk13 r (by omega), hk9 r (by omega)])⟩)
                · refine lv_bipush (v := iI (-2)) hx hb d_Model_graft_111 (by decide) ?_
                  refine lv_goto (tgt := 156) hx hb d_Model_graft_113 (by decide) ?_
                  refine lv_istore (lv' := [(10, .int (iI (-2))), (9, .int (iI (((mLoad t (mLoad u S)).a 7 (y : Int).toNat) - (mVal y (mLoad t (mLoad u S)))))), (8, .int (iI (mVal y (mLoad t (mLoad u S))))), (7, .int (iI (mDp y (mLoad t (mLoad u S))))), (6, .int (iI (mKind y (mLoad t (mLoad u S))))), (0, .ref (L 40)), (1, .int (iI u)), (2, .int (iI x)), (3, .int (iI t)), (4, .int (iI y)), (5, .int (iI n))]) hx hb d_Model_graft_156 hl (by decide) rfl (fun ls hl => ?_)
                  refine lv_iload hx hb d_Model_graft_158 (lv_at hl 0 rfl) ?_
                  refine ia_if_ge (a := -2) (tgt := 171) hx hb d_Model_graft_160 (by decide) (by omega) (fun c74 => ?_) (fun c74 => ?_)
                  · exact absurd c74 (by decide)
                  · refine lv_aload_n hx hb d_Model_graft_163 rfl (lv_at hl 5 rfl) ?_
                    refine lv_iconst (v := iI (0)) hx hb d_Model_graft_164 rfl ?_
                    refine mw_put (ci := 4) (i := 40) (v := .int (iI 0)) (C := R_Model) (T := T_Model) (N := 23) hx hb hts in_Model ty_Model ty_Model_ok nm_Model hown hK hM hS hV42.1 rfl rfl 2 (by decide) (hts _ m_547) rfl (ty_Model_ok 2 (by decide)) rfl rfl (Nat.le_of_ble_eq_true rfl) d_Model_graft_165 (fun κ75 H locs e75 hk75 hM hS => ?_)
                    have e75 : κ75 40 = some (.inr (4, [.int (iI ((mLoad u (mLoad t (mLoad u S))).f 8)), .ref (L 41), .int (iI 0), .int (iI ((mLoad u (mLoad t (mLoad u S))).f 1)), .ref (L 42), .ref (L 43), .ref (L 44), .int (iI ((mLoad u (mLoad t (mLoad u S))).f 2)), .int (iI ((mLoad u (mLoad t (mLoad u S))).f 3)), .ref (L 45), .ref (L 46), .ref (L 47), .ref (L 48), .ref (L 49), .int (iI ((mLoad u (mLoad t (mLoad u S))).f 4)), .int (iI ((mLoad u (mLoad t (mLoad u S))).f 5)), .int (iI ((mLoad u (mLoad t (mLoad u S))).f 6)), .ref (L 50), .ref (L 51), .ref (L 52), .ref (L 53), .ref (L 54), .int (iI ((mLoad u (mLoad t (mLoad u S))).f 7))])) := e75
                    have hV75 : mds g L κ75 ((mLoad u (mLoad t (mLoad u S))).pf 0 0) := mds_pf hV42 e75 hk75 (by first | omega | (split <;> omega))
                    refine lv_iload hx hb d_Model_graft_168 (lv_at hl 0 rfl) ?_
                    exact mw_iret hx hb hr hM hS hlocks d_Model_graft_170 (by rw [show mGraft u x t y n S = (-2, (mLoad u (mLoad t (mLoad u S))).pf 0 0) by first | (exfalso; omega) | (unfold mGraft; rw [if_neg (by omega), if_neg (zne2 c10), if_neg (zne2 (by assumption)), if_neg (zne2 c14)]; unfold mGr2; rw [(show mGrDeep y (mLoad t (mLoad u S)) = mDp y (mLoad t (mLoad u S)) by unfold mGrDeep; rw [if_pos (by assumption)]), show mGrWhy x n (mDp y (mLoad t (mLoad u S))) (mLoad u (mLoad t (mLoad u S))) = -2 by unfold mGrWhy; rw [if_pos (by omega)], if_pos (by decide)])]; exact ⟨rfl, rfl, hV75, (fun r h => by rw [hk75 r (by omega), hk42 r (by omega), hk13 r (by omega), hk9 r (by omega)])⟩)
          · refine lv_iconst (v := iI (-1)) hx hb d_Model_graft_41 rfl ?_
            exact mw_iret hx hb hr hM hS hlocks d_Model_graft_42 (by rw [show mGraft u x t y n S = (-1, (mIsNode t y (mLoad u S)).2) by first | (exfalso; omega) | (unfold mGraft; rw [if_neg (by omega), if_neg (zne2 c10), if_neg (zne2 (by assumption)), if_pos (by assumption)])]; exact ⟨rfl, rfl, hV13, (fun r h => by rw [hk13 r (by omega), hk9 r (by omega)])⟩)
set_option maxHeartbeats 4000000 in
set_option maxRecDepth 100000 in
theorem c_Model_drop (l : Launch) (D : va_G) (g : Nat → ClassId) (lo : Nat) (L : Nat → Nat) (κ : Nat → Option va_E) (S : MS) (hV : mds g L κ S) (u x : Int) (hu : -2147483648 ≤ u ∧ u < 2147483648) (hx : -2147483648 ≤ x ∧ x < 2147483648) (hL : mLdOK u S) (hz : mSzs S) (hEn : mSlot u = true → mEn (mLoad u S)) (hDg : (mIsNode u x S).1 = true → 1 ≤ x → mKind ((mLoad u S).a 4 x.toNat) (mLoad u S) = 4 → mDrGood u ((mLoad u S).a 4 x.toNat) 1000 (mElsF (mLoad u S) ((mLoad u S).a 4 x.toNat) 1 x 0) (mDr0 u x (mLoad u S))) : Met l y_Model_drop w_Model_drop ({ frames := 8, cells := 0, slots := 0, locals := 198 }) (mwP D vwCl (tyL g) lo L κ [.ref (L 40), .int (iI u), .int (iI x)]) (mwQ D vwCl lo (mdQ g L κ (some (.int (iI (bI (mDrop u x S).1)))) (mDrop u x S).2)) 0 0 (fun q => lo ≤ q) := by
  refine Met.ofW (cc := b_Model_drop) (maxL := 9) (ret := (Option.some Jvm.ClassFile.FieldType.boolean)) (by decide) rfl ?_
  intro p e s m args below meth c s₁ B hml hpre
  obtain ⟨hargs, hM, hK⟩ := hpre
  have hx := B.exec
  have hb := B.bytes
  have hr := B.returns
  have hts : ∀ w ∈ wA, w.before args s = true := fun w h => atoms_spec (ws := w_Model_drop) B.pre w (List.mem_cons_of_mem _ h)
  have hown : s.vm.findClass R_Model = some m.cls := findClass_of_methodNamed B.named
  have hlocks := B.notSynchronized
  have hS : va_S (fun q => lo ≤ q) s.heap s.heap [] := va_S.rf
  have loop115 : ∀ (N : Nat) (q : Nat) (nu : Int) (sm : Bool) (S1 : MS) (κ1 : Nat → Option va_E), 2 * q + (bI sm).toNat < N → (mds g L κ1 S1) → (∀ r, (r < 40 ∨ 54 < r) → κ1 r = κ r) → (-1000000 ≤ nu ∧ nu ≤ 1000000) → ((mIsNode u x S).1 = true ∧ 1 ≤ x) → (sm = true → mDrGood u ((mLoad u S).a 4 x.toNat) q nu S1) → (sm = true → mDrop u x S = (true, mDrN u ((mLoad u S).a 4 x.toNat) q nu S1)) → (sm = false → mDrop u x S = (true, S1)) → ∀ (H : Heap) (locs : List Loc) (ls : Array Slot), mw D vwCl lo L κ1 H → va_S (fun q => lo ≤ q) s.heap H locs → lv_has ls 9 [(6, .int (iI (bI sm))), (5, .int (iI nu)), (0, .ref (L 40)), (1, .int (iI u)), (2, .int (iI x)), (3, .int (iI ((mLoad u S).a 4 x.toNat)))] → W p l e (headSpec w_Model_drop ({ frames := 8, cells := 0, slots := 0, locals := 198 })).room s m args below meth c H locs 0 0 (MQ below (mwQ D vwCl lo (mdQ g L κ (some (.int (iI (bI (mDrop u x S).1)))) (mDrop u x S).2)) args s 0 0 (fun q => lo ≤ q)) (F0 m 115 ls []) := by
    intro N
    induction N with
    | zero => intro q nu sm S1 κ1 hms; exact absurd hms (Nat.not_lt_zero _)
    | succ N ih =>
      intro q nu sm S1 κ1 hms hV1 hf1 hnu hg hgs hres hres0 H locs ls hM hS hl
      have loop158 : ∀ (N1 : Nat) (i : Int) (S2 : MS) (κ2 : Nat → Option va_E), (bDigits nu - i).toNat < N1 → (mds g L κ2 S2) → (∀ r, (r < 40 ∨ 54 < r) → κ2 r = κ r) → (sm = true) → (0 ≤ i ∧ i ≤ bDigits nu ∧ S2.f 7 = i) → (0 < mItem ((mLoad u S).a 4 x.toNat) nu (mRenum S1)) → (mWd nu ((mRenum S1).pf 7 0) = mWdN nu (bDigits nu - i).toNat i S2) → ∀ (H : Heap) (locs : List Loc) (ls : Array Slot), mw D vwCl lo L κ2 H → va_S (fun q => lo ≤ q) s.heap H locs → lv_has ls 9 [(8, .int (iI i)), (7, .int (iI (mItem ((mLoad u S).a 4 x.toNat) nu (mRenum S1)))), (6, .int (iI 1)), (5, .int (iI nu)), (0, .ref (L 40)), (1, .int (iI u)), (2, .int (iI x)), (3, .int (iI ((mLoad u S).a 4 x.toNat)))] → W p l e (headSpec w_Model_drop ({ frames := 8, cells := 0, slots := 0, locals := 198 })).room s m args below meth c H locs 0 0 (MQ below (mwQ D vwCl lo (mdQ g L κ (some (.int (iI (bI (mDrop u x S).1)))) (mDrop u x S).2)) args s 0 0 (fun q => lo ≤ q)) (F0 m 158 ls []) := by
        intro N1
        induction N1 with
        | zero => intro i S2 κ2 hms1; exact absurd hms1 (Nat.not_lt_zero _)
        | succ N1 ih1 =>
          intro i S2 κ2 hms1 hV2 hf2 hsm hi hit hres2 H locs ls hM hS hl
          have hdg := bDigits_r nu
          obtain ⟨hq0, ⟨hd1, hd2, hTR, hER, hd5, hd6, hroom⟩, hgn⟩ := mDrGood_t (hgs hsm)
          have hTR1 := hTR.1
          have hER1 := hER.1
          have hb1 : bI sm = 1 := by rw [hsm]; rfl
          obtain ⟨hyu, hyb, hyc⟩ := mNode_t hg.1
          have hs1 := mSlot_iff.mp hyu
          have hTL := (hL hyu).2
          have hTL1 := hTL.1
          have hTx := hTL.2 x.toNat (by omega)
          have hEL := hEn hyu
          have hELx := hEL.2 x.toNat (by omega)
          have hEx5 := hELx.2.2.2 (by omega)
          refine lv_iload hx hb d_Model_drop_158 (lv_at hl 0 rfl) ?_
          refine lv_iload hx hb d_Model_drop_160 (lv_at hl 3 rfl) ?_
          refine mw_rdS (As := [.int (iI nu)]) (rest := [.int (iI i)]) ⟨hx, hb, hml, hown, hts⟩ hK hM hS (c_Model_digits l D g lo L κ2 nu (by omega)) (cwS 1 hts (gS m_672 m_673 m_58 m_674) rfl rfl rfl (by decide +kernel) ⟨Nat.le_of_ble_eq_true rfl, Nat.le_of_ble_eq_true rfl⟩) rfl hl.1 rfl (Nat.le_of_ble_eq_true rfl) d_Model_drop_162 ⟨Nat.le_of_ble_eq_true rfl, Nat.le_of_ble_eq_true rfl⟩ (fun H locs hM hS => ?_)
          have r1 := bDigits_r nu
          refine ia_icmp_ge (a := i) (b := bDigits nu) (tgt := 185) hx hb d_Model_drop_165 (by decide) (by omega) (by omega) (fun c2 => ?_) (fun c2 => ?_)
          · have hS2 : S2 = mWd nu ((mRenum S1).pf 7 0) := by rw [hres2, mWdN_e (by omega)]
            subst hS2
            have hkd := mWd_k (v := nu) (S := (mRenum S1).pf 7 0)
            have e5 : (mWd nu ((mRenum S1).pf 7 0)).a 5 = (mRenum S1).a 5 := hkd.1.1 5 (by decide)
            have e6 : (mWd nu ((mRenum S1).pf 7 0)).a 6 = (mRenum S1).a 6 := hkd.1.1 6 (by decide)
            have e2 : (mWd nu ((mRenum S1).pf 7 0)).f 2 = (mRenum S1).f 2 := hkd.1.2 2 (by decide)
            have e3 : (mWd nu ((mRenum S1).pf 7 0)).f 3 = (mRenum S1).f 3 := hkd.1.2 3 (by decide)
            have e7 : (mWd nu ((mRenum S1).pf 7 0)).f 7 = 0 + bDigits nu := hkd.2
            have hir := mItem_r (bx := (mLoad u S).a 4 x.toNat) (nu := nu) (S := mRenum S1) (by omega)
            have hTi := hTR.2 (mItem ((mLoad u S).a 4 x.toNat) nu (mRenum S1)).toNat (by omega)
            have hEi := hER.2 (mItem ((mLoad u S).a 4 x.toNat) nu (mRenum S1)).toNat (by omega)
            have hEi5 := hEi.2.2.2 (by omega)
            have hEi4 : (mRenum S1).a 6 (mItem ((mLoad u S).a 4 x.toNat) nu (mRenum S1)).toNat + 1 ≤ (mRenum S1).a 7 (mItem ((mLoad u S).a 4 x.toNat) nu (mRenum S1)).toNat := by have z := hEi.2.2.1; rw [if_neg (by omega)] at z; exact z
            have z5 := congrFun e5 (mItem ((mLoad u S).a 4 x.toNat) nu (mRenum S1)).toNat
            have z6 := congrFun e6 (mItem ((mLoad u S).a 4 x.toNat) nu (mRenum S1)).toNat
            have hrl := hroom hit
            have hT : mTb (mWd nu ((mRenum S1).pf 7 0)) := mTb_kt hTR (mKt_t (pf_kt (Or.inl rfl)) (mKt_p hkd.1))
            refine lv_aload_n hx hb d_Model_drop_185 rfl (lv_at hl 4 rfl) ?_
            refine lv_aload_n hx hb d_Model_drop_186 rfl (lv_at hl 4 rfl) ?_
            refine mw_get (ci := 4) (i := 40) (v := .ref (L 46)) (C := R_Model) (T := T_Model) (N := 23) hx hb hts in_Model hown hK hM hV2.1 rfl rfl 10 (by decide) (hts _ m_555) rfl d_Model_drop_187 ?_
            refine lv_iload hx hb d_Model_drop_190 (lv_at hl 1 rfl) ?_
            refine mw_iald (n := 1000) (f := (mWd nu ((mRenum S1).pf 7 0)).a 5) (a := mItem ((mLoad u S).a 4 x.toNat) nu (mRenum S1)) (i := 46) hx hb hK hM 1 (hV2.2.1 5 (by decide)) rfl rfl (by omega) (by decide) d_Model_drop_192 ?_
            have r3 : -1000000 ≤ (mWd nu ((mRenum S1).pf 7 0)).a 5 (mItem ((mLoad u S).a 4 x.toNat) nu (mRenum S1) : Int).toNat ∧ (mWd nu ((mRenum S1).pf 7 0)).a 5 (mItem ((mLoad u S).a 4 x.toNat) nu (mRenum S1) : Int).toNat ≤ 1000000 := hV2.2.2.1 5 _
            refine lv_iconst (v := iI (1)) hx hb d_Model_drop_193 rfl ?_
            refine ia_add hx hb d_Model_drop_194 ?_
            refine lv_aload_n hx hb d_Model_drop_195 rfl (lv_at hl 4 rfl) ?_
            refine mw_get (ci := 4) (i := 40) (v := .ref (L 47)) (C := R_Model) (T := T_Model) (N := 23) hx hb hts in_Model hown hK hM hV2.1 rfl rfl 11 (by decide) (hts _ m_556) rfl d_Model_drop_196 ?_
            refine lv_iload hx hb d_Model_drop_199 (lv_at hl 1 rfl) ?_
            refine mw_iald (n := 1000) (f := (mWd nu ((mRenum S1).pf 7 0)).a 6) (a := mItem ((mLoad u S).a 4 x.toNat) nu (mRenum S1)) (i := 47) hx hb hK hM 1 (hV2.2.1 6 (by decide)) rfl rfl (by omega) (by decide) d_Model_drop_201 ?_
            have r4 : -1000000 ≤ (mWd nu ((mRenum S1).pf 7 0)).a 6 (mItem ((mLoad u S).a 4 x.toNat) nu (mRenum S1) : Int).toNat ∧ (mWd nu ((mRenum S1).pf 7 0)).a 6 (mItem ((mLoad u S).a 4 x.toNat) nu (mRenum S1) : Int).toNat ≤ 1000000 := hV2.2.2.1 6 _
            refine lv_aload_n hx hb d_Model_drop_202 rfl (lv_at hl 4 rfl) ?_
            refine mw_get (ci := 4) (i := 40) (v := .ref (L 46)) (C := R_Model) (T := T_Model) (N := 23) hx hb hts in_Model hown hK hM hV2.1 rfl rfl 10 (by decide) (hts _ m_555) rfl d_Model_drop_203 ?_
            refine lv_iload hx hb d_Model_drop_206 (lv_at hl 1 rfl) ?_
            refine mw_iald (n := 1000) (f := (mWd nu ((mRenum S1).pf 7 0)).a 5) (a := mItem ((mLoad u S).a 4 x.toNat) nu (mRenum S1)) (i := 46) hx hb hK hM 1 (hV2.2.1 5 (by decide)) rfl rfl (by omega) (by decide) d_Model_drop_208 ?_
            have r5 : -1000000 ≤ (mWd nu ((mRenum S1).pf 7 0)).a 5 (mItem ((mLoad u S).a 4 x.toNat) nu (mRenum S1) : Int).toNat ∧ (mWd nu ((mRenum S1).pf 7 0)).a 5 (mItem ((mLoad u S).a 4 x.toNat) nu (mRenum S1) : Int).toNat ≤ 1000000 := hV2.2.2.1 5 _
            refine ia_sub hx hb d_Model_drop_209 ?_
            refine lv_iconst (v := iI (1)) hx hb d_Model_drop_210 rfl ?_
            refine ia_sub hx hb d_Model_drop_211 ?_
            refine lv_iload_n hx hb d_Model_drop_212 rfl (lv_at hl 7 rfl) ?_
            refine mw_callV (i := 40) (As := [.int (iI (((mWd nu ((mRenum S1).pf 7 0)).a 5 (mItem ((mLoad u S).a 4 x.toNat) nu (mRenum S1) : Int).toNat) + 1)), .int (iI ((((mWd nu ((mRenum S1).pf 7 0)).a 6 (mItem ((mLoad u S).a 4 x.toNat) nu (mRenum S1) : Int).toNat) - ((mWd nu ((mRenum S1).pf 7 0)).a 5 (mItem ((mLoad u S).a 4 x.toNat) nu (mRenum S1) : Int).toNat)) - 1)), .int (iI ((mLoad u S).a 4 x.toNat))]) (rest := []) ⟨hx, hb, hml, hown, hts⟩ hK hM hS rfl hV2.1 rfl (c_Model_splice l D g lo L κ2 (mWd nu ((mRenum S1).pf 7 0)) hV2 (((mWd nu ((mRenum S1).pf 7 0)).a 5 (mItem ((mLoad u S).a 4 x.toNat) nu (mRenum S1) : Int).toNat) + 1) ((((mWd nu ((mRenum S1).pf 7 0)).a 6 (mItem ((mLoad u S).a 4 x.toNat) nu (mRenum S1) : Int).toNat) - ((mWd nu ((mRenum S1).pf 7 0)).a 5 (mItem ((mLoad u S).a 4 x.toNat) nu (mRenum S1) : Int).toNat)) - 1) ((mLoad u S).a 4 x.toNat) (by omega) (by omega) (by omega) hT) (cwV 3 hts (gV m_789 m_791 m_44 m_58 m_792) rfl rfl rfl (by decide +kernel) ⟨Nat.le_of_ble_eq_true rfl, Nat.le_of_ble_eq_true rfl⟩) rfl hl.1 rfl (Nat.le_of_ble_eq_true rfl) d_Model_drop_213 ⟨Nat.le_of_ble_eq_true rfl, Nat.le_of_ble_eq_true rfl⟩ (fun v6 L6 κ6 H locs hp6 hM hS => ?_)
            obtain ⟨rfl, rfl, hV6, hk6⟩ := hp6
            have r7 := (mSplice_k (a := ((mWd nu ((mRenum S1).pf 7 0)).a 5 (mItem ((mLoad u S).a 4 x.toNat) nu (mRenum S1) : Int).toNat) + 1) (gone := (((mWd nu ((mRenum S1).pf 7 0)).a 6 (mItem ((mLoad u S).a 4 x.toNat) nu (mRenum S1) : Int).toNat) - ((mWd nu ((mRenum S1).pf 7 0)).a 5 (mItem ((mLoad u S).a 4 x.toNat) nu (mRenum S1) : Int).toNat)) - 1) (bx := (mLoad u S).a 4 x.toNat) (S := mWd nu ((mRenum S1).pf 7 0))).2
            refine lv_aload_n hx hb d_Model_drop_216 rfl (lv_at hl 4 rfl) ?_
            refine lv_iload_n hx hb d_Model_drop_217 rfl (lv_at hl 5 rfl) ?_
            refine mw_callV (i := 40) (As := [.int (iI u)]) (rest := []) ⟨hx, hb, hml, hown, hts⟩ hK hM hS rfl hV6.1 rfl (c_Model_store l D g lo L κ6 (mSplice (((mWd nu ((mRenum S1).pf 7 0)).a 5 (mItem ((mLoad u S).a 4 x.toNat) nu (mRenum S1) : Int).toNat) + 1) ((((mWd nu ((mRenum S1).pf 7 0)).a 6 (mItem ((mLoad u S).a 4 x.toNat) nu (mRenum S1) : Int).toNat) - ((mWd nu ((mRenum S1).pf 7 0)).a 5 (mItem ((mLoad u S).a 4 x.toNat) nu (mRenum S1) : Int).toNat)) - 1) ((mLoad u S).a 4 x.toNat) (mWd nu ((mRenum S1).pf 7 0))) hV6 u (by omega) (by omega)) (cwV 1 hts (gV m_686 m_688 m_27 m_58 m_689) rfl rfl rfl (by decide +kernel) ⟨Nat.le_of_ble_eq_true rfl, Nat.le_of_ble_eq_true rfl⟩) rfl hl.1 rfl (Nat.le_of_ble_eq_true rfl) d_Model_drop_218 ⟨Nat.le_of_ble_eq_true rfl, Nat.le_of_ble_eq_true rfl⟩ (fun v8 L8 κ8 H locs hp8 hM hS => ?_)
            obtain ⟨rfl, rfl, hV8, hk8⟩ := hp8
            refine lv_iinc (v := iI (nu + 1)) (lv' := [(5, .int (iI (nu + 1))), (8, .int (iI i)), (7, .int (iI (mItem ((mLoad u S).a 4 x.toNat) nu (mRenum S1)))), (6, .int (iI 1)), (0, .ref (L 40)), (1, .int (iI u)), (2, .int (iI x)), (3, .int (iI ((mLoad u S).a 4 x.toNat)))]) hx hb d_Model_drop_221 hl (k := 3) rfl (iI_inc _ _) (by decide) rfl (fun ls hl => ?_)
            refine lv_goto (tgt := 115) hx hb d_Model_drop_224 (by decide) ?_
            exact ih (q - 1) (nu + 1) true (mStore u (mSplice (((mWd nu ((mRenum S1).pf 7 0)).a 5 (mItem ((mLoad u S).a 4 x.toNat) nu (mRenum S1) : Int).toNat) + 1) ((((mWd nu ((mRenum S1).pf 7 0)).a 6 (mItem ((mLoad u S).a 4 x.toNat) nu (mRenum S1) : Int).toNat) - ((mWd nu ((mRenum S1).pf 7 0)).a 5 (mItem ((mLoad u S).a 4 x.toNat) nu (mRenum S1) : Int).toNat)) - 1) ((mLoad u S).a 4 x.toNat) (mWd nu ((mRenum S1).pf 7 0)))) κ8 (by have := bI_t; omega) hV8 (fun r h => by rw [hk8 r (by omega), hk6 r (by omega), hf2 r (by omega)]) (by omega) hg (by intro _; rw [← (show mDrS u ((mLoad u S).a 4 x.toNat) nu (mRenum S1) = mStore u (mSplice (((mWd nu ((mRenum S1).pf 7 0)).a 5 (mItem ((mLoad u S).a 4 x.toNat) nu (mRenum S1) : Int).toNat) + 1) ((((mWd nu ((mRenum S1).pf 7 0)).a 6 (mItem ((mLoad u S).a 4 x.toNat) nu (mRenum S1) : Int).toNat) - ((mWd nu ((mRenum S1).pf 7 0)).a 5 (mItem ((mLoad u S).a 4 x.toNat) nu (mRenum S1) : Int).toNat)) - 1) ((mLoad u S).a 4 x.toNat) (mWd nu ((mRenum S1).pf 7 0))) by unfold mDrS; rw [e5, e6])]; exact hgn hit) (by intro _; rw [hres hsm, mDrN_s hq0 hit, (show mDrS u ((mLoad u S).a 4 x.toNat) nu (mRenum S1) = mStore u (mSplice (((mWd nu ((mRenum S1).pf 7 0)).a 5 (mItem ((mLoad u S).a 4 x.toNat) nu (mRenum S1) : Int).toNat) + 1) ((((mWd nu ((mRenum S1).pf 7 0)).a 6 (mItem ((mLoad u S).a 4 x.toNat) nu (mRenum S1) : Int).toNat) - ((mWd nu ((mRenum S1).pf 7 0)).a 5 (mItem ((mLoad u S).a 4 x.toNat) nu (mRenum S1) : Int).toNat)) - 1) ((mLoad u S).a 4 x.toNat) (mWd nu ((mRenum S1).pf 7 0))) by unfold mDrS; rw [e5, e6])]) (by intro z; cases z) _ _ ls hM hS (lv_sub hl [3, 0, 4, 5, 6, 7] rfl)
          · refine lv_aload_n hx hb d_Model_drop_168 rfl (lv_at hl 4 rfl) ?_
            refine lv_iload hx hb d_Model_drop_169 (lv_at hl 3 rfl) ?_
            refine lv_iload hx hb d_Model_drop_171 (lv_at hl 0 rfl) ?_
            refine mw_rdS (As := [.int (iI nu), .int (iI i)]) (rest := [.ref (L 40)]) ⟨hx, hb, hml, hown, hts⟩ hK hM hS (c_Model_digit l D g lo L κ2 nu i (by omega) (by omega)) (cwS 2 hts (gS m_675 m_676 m_58 m_677) rfl rfl rfl (by decide +kernel) ⟨Nat.le_of_ble_eq_true rfl, Nat.le_of_ble_eq_true rfl⟩) rfl hl.1 rfl (Nat.le_of_ble_eq_true rfl) d_Model_drop_173 ⟨Nat.le_of_ble_eq_true rfl, Nat.le_of_ble_eq_true rfl⟩ (fun H locs hM hS => ?_)
            have r9 := mDigit_r nu i
            refine mw_callV (i := 40) (As := [.int (iI (mDigit nu i))]) (rest := []) ⟨hx, hb, hml, hown, hts⟩ hK hM hS rfl hV2.1 rfl (c_Model_write l D g lo L κ2 S2 hV2 (mDigit nu i) (by omega) (by omega)) (cwV 1 hts (gV m_772 m_774 m_40 m_58 m_775) rfl rfl rfl (by decide +kernel) ⟨Nat.le_of_ble_eq_true rfl, Nat.le_of_ble_eq_true rfl⟩) rfl hl.1 rfl (Nat.le_of_ble_eq_true rfl) d_Model_drop_176 ⟨Nat.le_of_ble_eq_true rfl, Nat.le_of_ble_eq_true rfl⟩ (fun v10 L10 κ10 H locs hp10 hM hS => ?_)
            obtain ⟨rfl, rfl, hV10, hk10⟩ := hp10
            have r11 := mWr_p (b := mDigit nu i) (S := S2)
            refine lv_iinc (v := iI (i + 1)) (lv' := [(8, .int (iI (i + 1))), (7, .int (iI (mItem ((mLoad u S).a 4 x.toNat) nu (mRenum S1)))), (6, .int (iI 1)), (5, .int (iI nu)), (0, .ref (L 40)), (1, .int (iI u)), (2, .int (iI x)), (3, .int (iI ((mLoad u S).a 4 x.toNat)))]) hx hb d_Model_drop_179 hl (k := 0) rfl (iI_inc _ _) (by decide) rfl (fun ls hl => ?_)
            refine lv_goto (tgt := 158) hx hb d_Model_drop_182 (by decide) ?_
            exact ih1 (i + 1) (mWr (mDigit nu i) S2) κ10 (by omega) hV10 (fun r h => by rw [hk10 r (by omega), hf2 r (by omega)]) hsm (by omega) hit (by rw [hres2, mWdN_s (by omega)]) _ _ ls hM hS (lv_sub hl [0, 1, 2, 3, 4, 5, 6, 7] rfl)
      refine lv_iload hx hb d_Model_drop_115 (lv_at hl 0 rfl) ?_
      refine ia_ifz_eq (x := sm) (tgt := 227) hx hb d_Model_drop_117 (by decide) (fun c12 => ?_) (fun c12 => ?_)
      · refine lv_iconst (v := iI (1)) hx hb d_Model_drop_227 rfl ?_
        exact mw_zret (v := true) hx hb hr hM hS hlocks d_Model_drop_228 (by rw [show mDrop u x S = (true, S1) by first | (exfalso; omega) | (exact hres0 (by assumption))]; exact ⟨rfl, rfl, hV1, (fun r h => by rw [hf1 r (by omega)])⟩)
      · have hsm : sm = true := c12
        obtain ⟨hq0, ⟨hd1, hd2, hTR, hER, hd5, hd6, hroom⟩, hgn⟩ := mDrGood_t (hgs hsm)
        have hTR1 := hTR.1
        have hER1 := hER.1
        have hb1 : bI sm = 1 := by rw [hsm]; rfl
        obtain ⟨hyu, hyb, hyc⟩ := mNode_t hg.1
        have hs1 := mSlot_iff.mp hyu
        have hTL := (hL hyu).2
        have hTL1 := hTL.1
        have hTx := hTL.2 x.toNat (by omega)
        have hEL := hEn hyu
        have hELx := hEL.2 x.toNat (by omega)
        have hEx5 := hELx.2.2.2 (by omega)
        refine lv_aload_n hx hb d_Model_drop_120 rfl (lv_at hl 2 rfl) ?_
        refine mw_callV (i := 40) (As := []) (rest := []) ⟨hx, hb, hml, hown, hts⟩ hK hM hS rfl hV1.1 rfl (c_Model_renumber l D g lo L κ1 S1 hV1  (by omega) hd2) (cwV 0 hts (gV m_813 m_815 m_47 m_58 m_816) rfl rfl rfl (by decide +kernel) ⟨Nat.le_of_ble_eq_true rfl, Nat.le_of_ble_eq_true rfl⟩) rfl hl.1 rfl (Nat.le_of_ble_eq_true rfl) d_Model_drop_121 ⟨Nat.le_of_ble_eq_true rfl, Nat.le_of_ble_eq_true rfl⟩ (fun v13 L13 κ13 H locs hp13 hM hS => ?_)
        obtain ⟨rfl, rfl, hV13, hk13⟩ := hp13
        have hT := hTR
        refine lv_aload_n hx hb d_Model_drop_124 rfl (lv_at hl 2 rfl) ?_
        refine lv_iload_n hx hb d_Model_drop_125 rfl (lv_at hl 5 rfl) ?_
        refine lv_iload hx hb d_Model_drop_126 (lv_at hl 1 rfl) ?_
        refine mw_rdV (i := 40) (As := [.int (iI ((mLoad u S).a 4 x.toNat)), .int (iI nu)]) (rest := []) ⟨hx, hb, hml, hown, hts⟩ hK hM hS rfl hV13.1 rfl (c_Model_itemOf l D g lo L κ13 (mRenum S1) hV13 ((mLoad u S).a 4 x.toNat) nu (by omega) (by omega) hT) (cwV 2 hts (gV m_821 m_823 m_49 m_58 m_824) rfl rfl rfl (by decide +kernel) ⟨Nat.le_of_ble_eq_true rfl, Nat.le_of_ble_eq_true rfl⟩) rfl hl.1 rfl (Nat.le_of_ble_eq_true rfl) d_Model_drop_128 ⟨Nat.le_of_ble_eq_true rfl, Nat.le_of_ble_eq_true rfl⟩ (fun H locs hM hS => ?_)
        have r14 := mItem_r (bx := ((mLoad u S).a 4 x.toNat)) (nu := nu) (S := mRenum S1) (by omega)
        refine lv_istore (lv' := [(7, .int (iI (mItem ((mLoad u S).a 4 x.toNat) nu (mRenum S1)))), (6, .int (iI (bI sm))), (5, .int (iI nu)), (0, .ref (L 40)), (1, .int (iI u)), (2, .int (iI x)), (3, .int (iI ((mLoad u S).a 4 x.toNat)))]) hx hb d_Model_drop_131 hl (by decide) rfl (fun ls hl => ?_)
        refine lv_iload hx hb d_Model_drop_133 (lv_at hl 0 rfl) ?_
        refine ia_if_le (a := mItem ((mLoad u S).a 4 x.toNat) nu (mRenum S1)) (tgt := 142) hx hb d_Model_drop_135 (by decide) (by omega) (fun c15 => ?_) (fun c15 => ?_)
        · refine lv_iconst (v := iI (0)) hx hb d_Model_drop_142 rfl ?_
          refine lv_istore (lv' := [(6, .int (iI 0)), (7, .int (iI (mItem ((mLoad u S).a 4 x.toNat) nu (mRenum S1)))), (5, .int (iI nu)), (0, .ref (L 40)), (1, .int (iI u)), (2, .int (iI x)), (3, .int (iI ((mLoad u S).a 4 x.toNat)))]) hx hb d_Model_drop_143 hl (by decide) rfl (fun ls hl => ?_)
          refine lv_iload hx hb d_Model_drop_145 (lv_at hl 0 rfl) ?_
          refine ia_if_eq (a := 0) (tgt := 224) hx hb d_Model_drop_147 (by decide) (by omega) (fun c16 => ?_) (fun c16 => ?_)
          · refine lv_goto (tgt := 115) hx hb d_Model_drop_224 (by decide) ?_
            exact ih q nu false (mRenum S1) κ13 (by have := bI_f; omega) hV13 (fun r h => by rw [hk13 r (by omega), hf1 r (by omega)]) (by omega) hg (by intro z; cases z) (by intro z; cases z) (by intro _; rw [hres hsm, mDrN_e hq0 (by omega)]) _ _ ls hM hS (lv_sub hl [0, 2, 3, 4, 5, 6] rfl)
          · exact absurd (by decide) c16
        · refine lv_iconst (v := iI (1)) hx hb d_Model_drop_138 rfl ?_
          refine lv_goto (tgt := 143) hx hb d_Model_drop_139 (by decide) ?_
          refine lv_istore (lv' := [(6, .int (iI 1)), (7, .int (iI (mItem ((mLoad u S).a 4 x.toNat) nu (mRenum S1)))), (5, .int (iI nu)), (0, .ref (L 40)), (1, .int (iI u)), (2, .int (iI x)), (3, .int (iI ((mLoad u S).a 4 x.toNat)))]) hx hb d_Model_drop_143 hl (by decide) rfl (fun ls hl => ?_)
          refine lv_iload hx hb d_Model_drop_145 (lv_at hl 0 rfl) ?_
          refine ia_if_eq (a := 1) (tgt := 224) hx hb d_Model_drop_147 (by decide) (by omega) (fun c17 => ?_) (fun c17 => ?_)
          · exact absurd c17 (by decide)
          · refine lv_aload_n hx hb d_Model_drop_150 rfl (lv_at hl 3 rfl) ?_
            refine lv_iconst (v := iI (0)) hx hb d_Model_drop_151 rfl ?_
            refine mw_put (ci := 4) (i := 40) (v := .int (iI 0)) (C := R_Model) (T := T_Model) (N := 23) hx hb hts in_Model ty_Model ty_Model_ok nm_Model hown hK hM hS hV13.1 rfl rfl 22 (by decide) (hts _ m_567) rfl (ty_Model_ok 22 (by decide)) rfl rfl (Nat.le_of_ble_eq_true rfl) d_Model_drop_152 (fun κ18 H locs e18 hk18 hM hS => ?_)
            have e18 : κ18 40 = some (.inr (4, [.int (iI ((mRenum S1).f 8)), .ref (L 41), .int (iI ((mRenum S1).f 0)), .int (iI ((mRenum S1).f 1)), .ref (L 42), .ref (L 43), .ref (L 44), .int (iI ((mRenum S1).f 2)), .int (iI ((mRenum S1).f 3)), .ref (L 45), .ref (L 46), .ref (L 47), .ref (L 48), .ref (L 49), .int (iI ((mRenum S1).f 4)), .int (iI ((mRenum S1).f 5)), .int (iI ((mRenum S1).f 6)), .ref (L 50), .ref (L 51), .ref (L 52), .ref (L 53), .ref (L 54), .int (iI 0)])) := e18
            have hV18 : mds g L κ18 ((mRenum S1).pf 7 0) := mds_pf hV13 e18 hk18 (by first | omega | (split <;> omega))
            refine lv_iconst (v := iI (0)) hx hb d_Model_drop_155 rfl ?_
            refine lv_istore (lv' := [(8, .int (iI 0)), (6, .int (iI 1)), (7, .int (iI (mItem ((mLoad u S).a 4 x.toNat) nu (mRenum S1)))), (5, .int (iI nu)), (0, .ref (L 40)), (1, .int (iI u)), (2, .int (iI x)), (3, .int (iI ((mLoad u S).a 4 x.toNat)))]) hx hb d_Model_drop_156 hl (by decide) rfl (fun ls hl => ?_)
            exact loop158 _ 0 ((mRenum S1).pf 7 0) κ18 (Nat.lt_succ_self _) hV18 (fun r h => by rw [hk18 r (by omega), hk13 r (by omega), hf1 r (by omega)]) hsm (by have z : ((mRenum S1).pf 7 0).f 7 = 0 := rfl; have := bDigits_r nu; omega) (by omega) rfl _ _ ls hM hS (lv_sub hl [0, 2, 1, 3, 4, 5, 6, 7] rfl)
  have loop44 : ∀ (N : Nat) (k : Int) (acc : Int) (ir : Bool) (S1 : MS) (κ1 : Nat → Option va_E), (x - k).toNat < N → (mds g L κ1 S1) → (∀ r, (r < 40 ∨ 54 < r) → κ1 r = κ r) → (1 ≤ k ∧ k ≤ x ∧ 0 ≤ acc ∧ acc ≤ k) → ((mIsNode u x S).1 = true ∧ 1 ≤ x) → (ir = decide (mKind ((mLoad u S).a 4 x.toNat) (mLoad u S) = 4)) → (S1 = mLoad u S) → (mElsF (mLoad u S) ((mLoad u S).a 4 x.toNat) 1 x 0 = mElsF (mLoad u S) ((mLoad u S).a 4 x.toNat) k x acc) → ∀ (H : Heap) (locs : List Loc) (ls : Array Slot), mw D vwCl lo L κ1 H → va_S (fun q => lo ≤ q) s.heap H locs → lv_has ls 9 [(6, .int (iI k)), (5, .int (iI acc)), (4, .int (iI (bI ir))), (0, .ref (L 40)), (1, .int (iI u)), (2, .int (iI x)), (3, .int (iI ((mLoad u S).a 4 x.toNat)))] → W p l e (headSpec w_Model_drop ({ frames := 8, cells := 0, slots := 0, locals := 198 })).room s m args below meth c H locs 0 0 (MQ below (mwQ D vwCl lo (mdQ g L κ (some (.int (iI (bI (mDrop u x S).1)))) (mDrop u x S).2)) args s 0 0 (fun q => lo ≤ q)) (F0 m 44 ls []) := by
    intro N
    induction N with
    | zero => intro k acc ir S1 κ1 hms; exact absurd hms (Nat.not_lt_zero _)
    | succ N ih =>
      intro k acc ir S1 κ1 hms hV1 hf1 hk hg hir hS1 hres H locs ls hM hS hl
      obtain ⟨hyu, hyb, hyc⟩ := mNode_t hg.1
      have hs1 := mSlot_iff.mp hyu
      have hT := (hL hyu).2
      have hT1 := hT.1
      have hTx := hT.2 x.toNat (by omega)
      have hE := hEn hyu
      have hE1 := hE.1
      have hEx := hE.2 x.toNat (by omega)
      have hEx5 := hEx.2.2.2 (by omega)
      have z4 : S1.a 4 k.toNat = (mLoad u S).a 4 k.toNat := by rw [hS1]
      refine lv_iload hx hb d_Model_drop_44 (lv_at hl 0 rfl) ?_
      refine lv_iload_n hx hb d_Model_drop_46 rfl (lv_at hl 5 rfl) ?_
      refine ia_icmp_ge (a := k) (b := x) (tgt := 77) hx hb d_Model_drop_47 (by decide) (by omega) (by omega) (fun c19 => ?_) (fun c19 => ?_)
      · subst hS1
        refine lv_aload_n hx hb d_Model_drop_77 rfl (lv_at hl 3 rfl) ?_
        refine lv_iconst (v := iI (0)) hx hb d_Model_drop_78 rfl ?_
        refine mw_put (ci := 4) (i := 40) (v := .int (iI 0)) (C := R_Model) (T := T_Model) (N := 23) hx hb hts in_Model ty_Model ty_Model_ok nm_Model hown hK hM hS hV1.1 rfl rfl 22 (by decide) (hts _ m_567) rfl (ty_Model_ok 22 (by decide)) rfl rfl (Nat.le_of_ble_eq_true rfl) d_Model_drop_79 (fun κ20 H locs e20 hk20 hM hS => ?_)
        have e20 : κ20 40 = some (.inr (4, [.int (iI ((mLoad u S).f 8)), .ref (L 41), .int (iI ((mLoad u S).f 0)), .int (iI ((mLoad u S).f 1)), .ref (L 42), .ref (L 43), .ref (L 44), .int (iI ((mLoad u S).f 2)), .int (iI ((mLoad u S).f 3)), .ref (L 45), .ref (L 46), .ref (L 47), .ref (L 48), .ref (L 49), .int (iI ((mLoad u S).f 4)), .int (iI ((mLoad u S).f 5)), .int (iI ((mLoad u S).f 6)), .ref (L 50), .ref (L 51), .ref (L 52), .ref (L 53), .ref (L 54), .int (iI 0)])) := e20
        have hV20 : mds g L κ20 ((mLoad u S).pf 7 0) := mds_pf hV1 e20 hk20 (by first | omega | (split <;> omega))
        refine lv_aload_n hx hb d_Model_drop_82 rfl (lv_at hl 3 rfl) ?_
        refine lv_aload_n hx hb d_Model_drop_83 rfl (lv_at hl 3 rfl) ?_
        refine mw_get (ci := 4) (i := 40) (v := .ref (L 46)) (C := R_Model) (T := T_Model) (N := 23) hx hb hts in_Model hown hK hM hV20.1 rfl rfl 10 (by decide) (hts _ m_555) rfl d_Model_drop_84 ?_
        refine lv_iload_n hx hb d_Model_drop_87 rfl (lv_at hl 5 rfl) ?_
        refine mw_iald (n := 1000) (f := (mLoad u S).a 5) (a := x) (i := 46) hx hb hK hM 1 (hV20.2.1 5 (by decide)) rfl rfl (by omega) (by decide) d_Model_drop_88 ?_
        have r21 : -1000000 ≤ (mLoad u S).a 5 (x : Int).toNat ∧ (mLoad u S).a 5 (x : Int).toNat ≤ 1000000 := hV20.2.2.1 5 _
        refine lv_aload_n hx hb d_Model_drop_89 rfl (lv_at hl 3 rfl) ?_
        refine mw_get (ci := 4) (i := 40) (v := .ref (L 48)) (C := R_Model) (T := T_Model) (N := 23) hx hb hts in_Model hown hK hM hV20.1 rfl rfl 12 (by decide) (hts _ m_557) rfl d_Model_drop_90 ?_
        refine lv_iload_n hx hb d_Model_drop_93 rfl (lv_at hl 5 rfl) ?_
        refine mw_iald (n := 1000) (f := (mLoad u S).a 7) (a := x) (i := 48) hx hb hK hM 1 (hV20.2.1 7 (by decide)) rfl rfl (by omega) (by decide) d_Model_drop_94 ?_
        have r22 : -1000000 ≤ (mLoad u S).a 7 (x : Int).toNat ∧ (mLoad u S).a 7 (x : Int).toNat ≤ 1000000 := hV20.2.2.1 7 _
        refine lv_aload_n hx hb d_Model_drop_95 rfl (lv_at hl 3 rfl) ?_
        refine mw_get (ci := 4) (i := 40) (v := .ref (L 46)) (C := R_Model) (T := T_Model) (N := 23) hx hb hts in_Model hown hK hM hV20.1 rfl rfl 10 (by decide) (hts _ m_555) rfl d_Model_drop_96 ?_
        refine lv_iload_n hx hb d_Model_drop_99 rfl (lv_at hl 5 rfl) ?_
        refine mw_iald (n := 1000) (f := (mLoad u S).a 5) (a := x) (i := 46) hx hb hK hM 1 (hV20.2.1 5 (by decide)) rfl rfl (by omega) (by decide) d_Model_drop_100 ?_
        have r23 : -1000000 ≤ (mLoad u S).a 5 (x : Int).toNat ∧ (mLoad u S).a 5 (x : Int).toNat ≤ 1000000 := hV20.2.2.1 5 _
        refine ia_sub hx hb d_Model_drop_101 ?_
        refine lv_iload_n hx hb d_Model_drop_102 rfl (lv_at hl 6 rfl) ?_
        have r24 : ((mLoad u S).pf 7 0).f 0 = (mLoad u S).f 0 := rfl
        have r25 : ((mLoad u S).pf 7 0).f 2 = (mLoad u S).f 2 := rfl
        have r26 : ((mLoad u S).pf 7 0).f 3 = (mLoad u S).f 3 := rfl
        have r27 : ((mLoad u S).pf 7 0).f 7 = 0 := rfl
        refine mw_callV (i := 40) (As := [.int (iI ((mLoad u S).a 5 (x : Int).toNat)), .int (iI (((mLoad u S).a 7 (x : Int).toNat) - ((mLoad u S).a 5 (x : Int).toNat))), .int (iI ((mLoad u S).a 4 x.toNat))]) (rest := []) ⟨hx, hb, hml, hown, hts⟩ hK hM hS rfl hV20.1 rfl (c_Model_splice l D g lo L κ20 ((mLoad u S).pf 7 0) hV20 ((mLoad u S).a 5 (x : Int).toNat) (((mLoad u S).a 7 (x : Int).toNat) - ((mLoad u S).a 5 (x : Int).toNat)) ((mLoad u S).a 4 x.toNat) (by omega) (by omega) (by omega) hT) (cwV 3 hts (gV m_789 m_791 m_44 m_58 m_792) rfl rfl rfl (by decide +kernel) ⟨Nat.le_of_ble_eq_true rfl, Nat.le_of_ble_eq_true rfl⟩) rfl hl.1 rfl (Nat.le_of_ble_eq_true rfl) d_Model_drop_103 ⟨Nat.le_of_ble_eq_true rfl, Nat.le_of_ble_eq_true rfl⟩ (fun v28 L28 κ28 H locs hp28 hM hS => ?_)
        obtain ⟨rfl, rfl, hV28, hk28⟩ := hp28
        have r29 := (mSplice_k (a := (mLoad u S).a 5 (x : Int).toNat) (gone := ((mLoad u S).a 7 (x : Int).toNat) - ((mLoad u S).a 5 (x : Int).toNat)) (bx := (mLoad u S).a 4 x.toNat) (S := (mLoad u S).pf 7 0)).2
        refine lv_aload_n hx hb d_Model_drop_106 rfl (lv_at hl 3 rfl) ?_
        refine lv_iload_n hx hb d_Model_drop_107 rfl (lv_at hl 4 rfl) ?_
        refine mw_callV (i := 40) (As := [.int (iI u)]) (rest := []) ⟨hx, hb, hml, hown, hts⟩ hK hM hS rfl hV28.1 rfl (c_Model_store l D g lo L κ28 (mSplice ((mLoad u S).a 5 (x : Int).toNat) (((mLoad u S).a 7 (x : Int).toNat) - ((mLoad u S).a 5 (x : Int).toNat)) ((mLoad u S).a 4 x.toNat) ((mLoad u S).pf 7 0)) hV28 u (by omega) (by omega)) (cwV 1 hts (gV m_686 m_688 m_27 m_58 m_689) rfl rfl rfl (by decide +kernel) ⟨Nat.le_of_ble_eq_true rfl, Nat.le_of_ble_eq_true rfl⟩) rfl hl.1 rfl (Nat.le_of_ble_eq_true rfl) d_Model_drop_108 ⟨Nat.le_of_ble_eq_true rfl, Nat.le_of_ble_eq_true rfl⟩ (fun v30 L30 κ30 H locs hp30 hM hS => ?_)
        obtain ⟨rfl, rfl, hV30, hk30⟩ := hp30
        refine lv_iload hx hb d_Model_drop_111 (lv_at hl 2 rfl) ?_
        refine lv_istore (lv' := [(6, .int (iI (bI ir))), (5, .int (iI acc)), (4, .int (iI (bI ir))), (0, .ref (L 40)), (1, .int (iI u)), (2, .int (iI x)), (3, .int (iI ((mLoad u S).a 4 x.toNat)))]) hx hb d_Model_drop_113 hl (by decide) rfl (fun ls hl => ?_)
        exact loop115 _ 1000 acc ir (mStore u (mSplice ((mLoad u S).a 5 (x : Int).toNat) (((mLoad u S).a 7 (x : Int).toNat) - ((mLoad u S).a 5 (x : Int).toNat)) ((mLoad u S).a 4 x.toNat) ((mLoad u S).pf 7 0))) κ30 (Nat.lt_succ_self _) hV30 (fun r h => by rw [hk30 r (by omega), hk28 r (by omega), hk20 r (by omega), hf1 r (by omega)]) (by omega) hg (by intro z; rw [← (show mElsF (mLoad u S) ((mLoad u S).a 4 x.toNat) 1 x 0 = acc by rw [hres, mElsF_e (by omega)])]; exact hDg hg.1 hg.2 (of_decide_eq_true (hir.symm.trans z))) (by intro z; unfold mDrop; rw [if_neg (zne2 hg.1), if_neg (by omega)]; rw [if_neg (fun zz => zz (of_decide_eq_true (hir.symm.trans z))), (show mElsF (mLoad u S) ((mLoad u S).a 4 x.toNat) 1 x 0 = acc by rw [hres, mElsF_e (by omega)])]; rfl) (by intro z; unfold mDrop; rw [if_neg (zne2 hg.1), if_neg (by omega)]; rw [if_pos (of_decide_eq_false (hir.symm.trans z))]; rfl) _ _ ls hM hS (lv_sub hl [0, 1, 3, 4, 5, 6] rfl)
      · refine lv_iload hx hb d_Model_drop_50 (lv_at hl 1 rfl) ?_
        refine lv_aload_n hx hb d_Model_drop_52 rfl (lv_at hl 3 rfl) ?_
        refine mw_get (ci := 4) (i := 40) (v := .ref (L 45)) (C := R_Model) (T := T_Model) (N := 23) hx hb hts in_Model hown hK hM hV1.1 rfl rfl 9 (by decide) (hts _ m_554) rfl d_Model_drop_53 ?_
        refine lv_iload hx hb d_Model_drop_56 (lv_at hl 0 rfl) ?_
        refine mw_iald (n := 1000) (f := S1.a 4) (a := k) (i := 45) hx hb hK hM 1 (hV1.2.1 4 (by decide)) rfl rfl (by omega) (by decide) d_Model_drop_58 ?_
        have r31 : -1000000 ≤ S1.a 4 (k : Int).toNat ∧ S1.a 4 (k : Int).toNat ≤ 1000000 := hV1.2.2.1 4 _
        refine lv_iload_n hx hb d_Model_drop_59 rfl (lv_at hl 6 rfl) ?_
        refine ia_icmp_ne (a := S1.a 4 (k : Int).toNat) (b := (mLoad u S).a 4 x.toNat) (tgt := 67) hx hb d_Model_drop_60 (by decide) (by omega) (by omega) (fun c32 => ?_) (fun c32 => ?_)
        · refine lv_iconst (v := iI (0)) hx hb d_Model_drop_67 rfl ?_
          refine ia_add hx hb d_Model_drop_68 ?_
          refine lv_istore (lv' := [(5, .int (iI (acc + 0))), (6, .int (iI k)), (4, .int (iI (bI ir))), (0, .ref (L 40)), (1, .int (iI u)), (2, .int (iI x)), (3, .int (iI ((mLoad u S).a 4 x.toNat)))]) hx hb d_Model_drop_69 hl (by decide) rfl (fun ls hl => ?_)
          refine lv_iinc (v := iI (k + 1)) (lv' := [(6, .int (iI (k + 1))), (5, .int (iI (acc + 0))), (4, .int (iI (bI ir))), (0, .ref (L 40)), (1, .int (iI u)), (2, .int (iI x)), (3, .int (iI ((mLoad u S).a 4 x.toNat)))]) hx hb d_Model_drop_71 hl (k := 1) rfl (iI_inc _ _) (by decide) rfl (fun ls hl => ?_)
          refine lv_goto (tgt := 44) hx hb d_Model_drop_74 (by decide) ?_
          exact ih (k + 1) (acc + 0) ir S1 κ1 (by omega) hV1 (fun r h => by rw [hf1 r (by omega)]) (by omega) hg hir hS1 (by rw [hres, mElsF_s (by omega), if_neg (by omega)]) _ _ ls hM hS (lv_sub hl [0, 1, 2, 3, 4, 5, 6] rfl)
        · refine lv_iconst (v := iI (1)) hx hb d_Model_drop_63 rfl ?_
          refine lv_goto (tgt := 68) hx hb d_Model_drop_64 (by decide) ?_
          refine ia_add hx hb d_Model_drop_68 ?_
          refine lv_istore (lv' := [(5, .int (iI (acc + 1))), (6, .int (iI k)), (4, .int (iI (bI ir))), (0, .ref (L 40)), (1, .int (iI u)), (2, .int (iI x)), (3, .int (iI ((mLoad u S).a 4 x.toNat)))]) hx hb d_Model_drop_69 hl (by decide) rfl (fun ls hl => ?_)
          refine lv_iinc (v := iI (k + 1)) (lv' := [(6, .int (iI (k + 1))), (5, .int (iI (acc + 1))), (4, .int (iI (bI ir))), (0, .ref (L 40)), (1, .int (iI u)), (2, .int (iI x)), (3, .int (iI ((mLoad u S).a 4 x.toNat)))]) hx hb d_Model_drop_71 hl (k := 1) rfl (iI_inc _ _) (by decide) rfl (fun ls hl => ?_)
          refine lv_goto (tgt := 44) hx hb d_Model_drop_74 (by decide) ?_
          exact ih (k + 1) (acc + 1) ir S1 κ1 (by omega) hV1 (fun r h => by rw [hf1 r (by omega)]) (by omega) hg hir hS1 (by rw [hres, mElsF_s (by omega), if_pos (by omega)]) _ _ ls hM hS (lv_sub hl [0, 1, 2, 3, 4, 5, 6] rfl)
  obtain ⟨ls, hls, hl⟩ := mw_entry (m := m) [.ref (L 40), .int (iI u), .int (iI x)] (n := 9) (Nat.le_of_ble_eq_true rfl) hargs
  refine W.eq hls ?_
  have hl : lv_has ls 9 [(0, .ref (L 40)), (1, .int (iI u)), (2, .int (iI x))] := hl
  refine lv_aload_n hx hb d_Model_drop_0 rfl (lv_at hl 0 rfl) ?_
  refine lv_iload_n hx hb d_Model_drop_1 rfl (lv_at hl 1 rfl) ?_
  refine lv_iload_n hx hb d_Model_drop_2 rfl (lv_at hl 2 rfl) ?_
  refine mw_callV (i := 40) (As := [.int (iI u), .int (iI x)]) (rest := []) ⟨hx, hb, hml, hown, hts⟩ hK hM hS rfl hV.1 rfl (c_Model_isNode l D g lo L κ S hV u x (by omega) (by omega) hL hz) (cwV 2 hts (gV m_710 m_712 m_29 m_58 m_713) rfl rfl rfl (by decide +kernel) ⟨Nat.le_of_ble_eq_true rfl, Nat.le_of_ble_eq_true rfl⟩) rfl hl.1 rfl (Nat.le_of_ble_eq_true rfl) d_Model_drop_3 ⟨Nat.le_of_ble_eq_true rfl, Nat.le_of_ble_eq_true rfl⟩ (fun v33 L33 κ33 H locs hp33 hM hS => ?_)
  obtain ⟨rfl, rfl, hV33, hk33⟩ := hp33
  refine ia_ifz_eq (x := (mIsNode u x S).1) (tgt := 13) hx hb d_Model_drop_6 (by decide) (fun c34 => ?_) (fun c34 => ?_)
  · refine lv_iconst (v := iI (0)) hx hb d_Model_drop_13 rfl ?_
    exact mw_zret (v := false) hx hb hr hM hS hlocks d_Model_drop_14 (by rw [show mDrop u x S = (false, (mIsNode u x S).2) by first | (exfalso; omega) | (unfold mDrop; rw [if_pos (by assumption)])]; exact ⟨rfl, rfl, hV33, (fun r h => by rw [hk33 r (by omega)])⟩)
  · obtain ⟨hy35a, hy35b, hy35c⟩ := mNode_t c34
    rw [hy35b] at hV33
    have hT := (hL hy35a).2
    have hT1 := hT.1
    have hTx := hT.2 x.toNat (by omega)
    refine lv_iload_n hx hb d_Model_drop_9 rfl (lv_at hl 2 rfl) ?_
    refine ia_if_ne (a := x) (tgt := 15) hx hb d_Model_drop_10 (by decide) (by omega) (fun c36 => ?_) (fun c36 => ?_)
    · have hE := hEn (mNode_t (by assumption : (mIsNode u x S).1 = true)).1
      have hEx := hE.2 x.toNat (by omega)
      have hEx5 := hEx.2.2.2 (by omega)
      refine lv_aload_n hx hb d_Model_drop_15 rfl (lv_at hl 0 rfl) ?_
      refine mw_get (ci := 4) (i := 40) (v := .ref (L 45)) (C := R_Model) (T := T_Model) (N := 23) hx hb hts in_Model hown hK hM hV33.1 rfl rfl 9 (by decide) (hts _ m_554) rfl d_Model_drop_16 ?_
      refine lv_iload_n hx hb d_Model_drop_19 rfl (lv_at hl 2 rfl) ?_
      refine mw_iald (n := 1000) (f := (mLoad u S).a 4) (a := x) (i := 45) hx hb hK hM 1 (hV33.2.1 4 (by decide)) rfl rfl (by omega) (by decide) d_Model_drop_20 ?_
      have r37 : -1000000 ≤ (mLoad u S).a 4 (x : Int).toNat ∧ (mLoad u S).a 4 (x : Int).toNat ≤ 1000000 := hV33.2.2.1 4 _
      refine lv_istore_n (lv' := [(3, .int (iI ((mLoad u S).a 4 (x : Int).toNat))), (0, .ref (L 40)), (1, .int (iI u)), (2, .int (iI x))]) hx hb d_Model_drop_21 rfl hl (by decide) rfl (fun ls hl => ?_)
      refine lv_aload_n hx hb d_Model_drop_22 rfl (lv_at hl 1 rfl) ?_
      refine lv_iload_n hx hb d_Model_drop_23 rfl (lv_at hl 0 rfl) ?_
      refine mw_rdV (i := 40) (As := [.int (iI ((mLoad u S).a 4 (x : Int).toNat))]) (rest := []) ⟨hx, hb, hml, hown, hts⟩ hK hM hS rfl hV33.1 rfl (c_Model_kindOf l D g lo L κ33 (mLoad u S) hV33 ((mLoad u S).a 4 (x : Int).toNat) (by omega) hT) (cwV 1 hts (gV m_714 m_716 m_30 m_58 m_717) rfl rfl rfl (by decide +kernel) ⟨Nat.le_of_ble_eq_true rfl, Nat.le_of_ble_eq_true rfl⟩) rfl hl.1 rfl (Nat.le_of_ble_eq_true rfl) d_Model_drop_24 ⟨Nat.le_of_ble_eq_true rfl, Nat.le_of_ble_eq_true rfl⟩ (fun H locs hM hS => ?_)
      have r38 := mKind_r hV33 ((mLoad u S).a 4 (x : Int).toNat)
      refine lv_iconst (v := iI (4)) hx hb d_Model_drop_27 rfl ?_
      refine ia_icmp_ne (a := mKind ((mLoad u S).a 4 (x : Int).toNat) (mLoad u S)) (b := 4) (tgt := 35) hx hb d_Model_drop_28 (by decide) (by omega) (by omega) (fun c39 => ?_) (fun c39 => ?_)
      · refine lv_iconst (v := iI (0)) hx hb d_Model_drop_35 rfl ?_
        refine lv_istore (lv' := [(4, .int (iI 0)), (3, .int (iI ((mLoad u S).a 4 (x : Int).toNat))), (0, .ref (L 40)), (1, .int (iI u)), (2, .int (iI x))]) hx hb d_Model_drop_36 hl (by decide) rfl (fun ls hl => ?_)
        refine lv_iconst (v := iI (0)) hx hb d_Model_drop_38 rfl ?_
        refine lv_istore (lv' := [(5, .int (iI 0)), (4, .int (iI 0)), (3, .int (iI ((mLoad u S).a 4 (x : Int).toNat))), (0, .ref (L 40)), (1, .int (iI u)), (2, .int (iI x))]) hx hb d_Model_drop_39 hl (by decide) rfl (fun ls hl => ?_)
        refine lv_iconst (v := iI (1)) hx hb d_Model_drop_41 rfl ?_
        refine lv_istore (lv' := [(6, .int (iI 1)), (5, .int (iI 0)), (4, .int (iI 0)), (3, .int (iI ((mLoad u S).a 4 (x : Int).toNat))), (0, .ref (L 40)), (1, .int (iI u)), (2, .int (iI x))]) hx hb d_Model_drop_42 hl (by decide) rfl (fun ls hl => ?_)
        exact loop44 _ 1 0 false (mLoad u S) κ33 (Nat.lt_succ_self _) hV33 (fun r h => by rw [hk33 r (by omega)]) (by omega) ⟨c34, by omega⟩ (decide_eq_false (by omega)).symm rfl rfl _ _ ls hM hS (lv_sub hl [0, 1, 2, 4, 5, 6, 3] rfl)
      · refine lv_iconst (v := iI (1)) hx hb d_Model_drop_31 rfl ?_
        refine lv_goto (tgt := 36) hx hb d_Model_drop_32 (by decide) ?_
        refine lv_istore (lv' := [(4, .int (iI 1)), (3, .int (iI ((mLoad u S).a 4 (x : Int).toNat))), (0, .ref (L 40)), (1, .int (iI u)), (2, .int (iI x))]) hx hb d_Model_drop_36 hl (by decide) rfl (fun ls hl => ?_)
        refine lv_iconst (v := iI (0)) hx hb d_Model_drop_38 rfl ?_
        refine lv_istore (lv' := [(5, .int (iI 0)), (4, .int (iI 1)), (3, .int (iI ((mLoad u S).a 4 (x : Int).toNat))), (0, .ref (L 40)), (1, .int (iI u)), (2, .int (iI x))]) hx hb d_Model_drop_39 hl (by decide) rfl (fun ls hl => ?_)
        refine lv_iconst (v := iI (1)) hx hb d_Model_drop_41 rfl ?_
        refine lv_istore (lv' := [(6, .int (iI 1)), (5, .int (iI 0)), (4, .int (iI 1)), (3, .int (iI ((mLoad u S).a 4 (x : Int).toNat))), (0, .ref (L 40)), (1, .int (iI u)), (2, .int (iI x))]) hx hb d_Model_drop_42 hl (by decide) rfl (fun ls hl => ?_)
        exact loop44 _ 1 0 true (mLoad u S) κ33 (Nat.lt_succ_self _) hV33 (fun r h => by rw [hk33 r (by omega)]) (by omega) ⟨c34, by omega⟩ (decide_eq_true (by omega)).symm rfl rfl _ _ ls hM hS (lv_sub hl [0, 1, 2, 4, 5, 6, 3] rfl)
    · refine lv_iconst (v := iI (0)) hx hb d_Model_drop_13 rfl ?_
      exact mw_zret (v := false) hx hb hr hM hS hlocks d_Model_drop_14 (by rw [show mDrop u x S = (false, mLoad u S) by first | (exfalso; omega) | (unfold mDrop; rw [if_neg (zne2 c34), if_pos (by omega)])]; exact ⟨rfl, rfl, hV33, (fun r h => by rw [hk33 r (by omega)])⟩)
