set_option maxHeartbeats 4000000 in
set_option maxRecDepth 100000 in
theorem c_Model_isSlot (l : Launch) (D : va_G) (g : Nat → ClassId) (lo : Nat) (L : Nat → Nat) (κ : Nat → Option va_E) (a : Int) (ha : -2147483648 ≤ a ∧ a < 2147483648) : Met l y_Model_isSlot w_Model_isSlot ({ frames := 0, cells := 0, slots := 0, locals := 0 }) (mwP D vwCl (tyL g) lo L κ [.int (iI a)]) (mwQ D vwCl lo (mwR (some (.int (iI (bI (mSlot a))))) L κ)) 0 0 (fun q => lo ≤ q) := by
  refine Met.ofW (cc := b_Model_isSlot) (maxL := 1) (ret := (Option.some Jvm.ClassFile.FieldType.boolean)) (by decide) rfl ?_
  intro p e s m args below meth c s₁ B hml hpre
  obtain ⟨hargs, hM, hK⟩ := hpre
  have hx := B.exec
  have hb := B.bytes
  have hr := B.returns
  have hts : ∀ w ∈ wA, w.before args s = true := fun w h => atoms_spec (ws := w_Model_isSlot) B.pre w (List.mem_cons_of_mem _ h)
  have hown : s.vm.findClass R_Model = some m.cls := findClass_of_methodNamed B.named
  have hlocks := B.notSynchronized
  have hS : va_S (fun q => lo ≤ q) s.heap s.heap [] := va_S.rf
  obtain ⟨ls, hls, hl⟩ := mw_entry (m := m) [.int (iI a)] (n := 1) (Nat.le_of_ble_eq_true rfl) hargs
  refine W.eq hls ?_
  have hl : lv_has ls 1 [(0, .int (iI a))] := hl
  refine lv_iload_n hx hb d_Model_isSlot_0 rfl (lv_at hl 0 rfl) ?_
  refine ia_if_lt (a := a) (tgt := 14) hx hb d_Model_isSlot_1 (by decide) (by omega) (fun c1 => ?_) (fun c1 => ?_)
  · refine lv_iconst (v := iI (0)) hx hb d_Model_isSlot_14 rfl ?_
    exact mw_zret (v := false) hx hb hr hM hS hlocks d_Model_isSlot_15 (mwR_z (by exact (decide_eq_false (by omega)).symm))
  · refine lv_iload_n hx hb d_Model_isSlot_4 rfl (lv_at hl 0 rfl) ?_
    refine lv_bipush (v := iI (8)) hx hb d_Model_isSlot_5 (by decide) ?_
    refine ia_icmp_ge (a := a) (b := 8) (tgt := 14) hx hb d_Model_isSlot_7 (by decide) (by omega) (by omega) (fun c2 => ?_) (fun c2 => ?_)
    · refine lv_iconst (v := iI (0)) hx hb d_Model_isSlot_14 rfl ?_
      exact mw_zret (v := false) hx hb hr hM hS hlocks d_Model_isSlot_15 (mwR_z (by exact (decide_eq_false (by omega)).symm))
    · refine lv_iconst (v := iI (1)) hx hb d_Model_isSlot_10 rfl ?_
      refine lv_goto (tgt := 15) hx hb d_Model_isSlot_11 (by decide) ?_
      exact mw_zret (v := true) hx hb hr hM hS hlocks d_Model_isSlot_15 (mwR_z (by exact (decide_eq_true (by omega)).symm))
set_option maxHeartbeats 4000000 in
set_option maxRecDepth 100000 in
theorem c_Model_isName (l : Launch) (D : va_G) (g : Nat → ClassId) (lo : Nat) (L : Nat → Nat) (κ : Nat → Option va_E) (S : MS) (hV : mds g L κ S) (fr to op : Int) (hfr : 0 ≤ fr ∧ fr ≤ 4300) (hto : -10000 ≤ to ∧ to ≤ 4300) (hop : 1 ≤ op ∧ op ≤ 20) (hT : mTab S) (hmany : 0 ≤ S.a 11 (op - 1).toNat) : Met l y_Model_isName w_Model_isName ({ frames := 3, cells := 0, slots := 0, locals := 67 }) (mwP D vwCl (tyL g) lo L κ [.ref (L 40), .int (iI fr), .int (iI to), .int (iI op)]) (mwQ D vwCl lo (mwR (some (.int (iI (bI (mIsName fr to op S))))) L κ)) 0 0 (fun q => lo ≤ q) := by
  refine Met.ofW (cc := b_Model_isName) (maxL := 7) (ret := (Option.some Jvm.ClassFile.FieldType.boolean)) (by decide) rfl ?_
  intro p e s m args below meth c s₁ B hml hpre
  obtain ⟨hargs, hM, hK⟩ := hpre
  have hx := B.exec
  have hb := B.bytes
  have hr := B.returns
  have hts : ∀ w ∈ wA, w.before args s = true := fun w h => atoms_spec (ws := w_Model_isName) B.pre w (List.mem_cons_of_mem _ h)
  have hown : s.vm.findClass R_Model = some m.cls := findClass_of_methodNamed B.named
  have hlocks := B.notSynchronized
  have hS : va_S (fun q => lo ≤ q) s.heap s.heap [] := va_S.rf
  have hnn := hT.1
  have loop48 : ∀ (N : Nat) (k : Int), (S.f 3 - k).toNat < N → (1 ≤ k ∧ k ≤ 1001) → (mIsName fr to op S = decide (mFd S (S.a 10 (op - 1).toNat) (S.a 3) (fr) (to - fr) k = -1)) → ∀ (H : Heap) (locs : List Loc) (ls : Array Slot), mw D vwCl lo L κ H → va_S (fun q => lo ≤ q) s.heap H locs → lv_has ls 7 [(4, .int (iI k)), (0, .ref (L 40)), (1, .int (iI fr)), (2, .int (iI to)), (3, .int (iI op))] → W p l e (headSpec w_Model_isName ({ frames := 3, cells := 0, slots := 0, locals := 67 })).room s m args below meth c H locs 0 0 (MQ below (mwQ D vwCl lo (mwR (some (.int (iI (bI (mIsName fr to op S))))) L κ)) args s 0 0 (fun q => lo ≤ q)) (F0 m 48 ls []) := by
    intro N
    induction N with
    | zero => intro k hms; exact absurd hms (Nat.not_lt_zero _)
    | succ N ih =>
      intro k hms hk hres H locs ls hM hS hl
      have htk := hT.2 k.toNat
      have loop108 : ∀ (N1 : Nat) (i : Int) (sm : Bool), (to - fr - i).toNat < N1 → (k < S.f 3) → (0 ≤ i ∧ i ≤ 5000 ∧ i ≤ (to - fr).toNat + 1) → (sm = true → S.a 6 k.toNat - S.a 5 k.toNat - 1 = to - fr) → (mHit S (S.a 10 (op - 1).toNat) (S.a 3) (fr) (to - fr) k = (sm && mSm (S.a 3) (S.a 5 k.toNat + 1) (S.a 3) (fr) (to - fr) i)) → ∀ (H : Heap) (locs : List Loc) (ls : Array Slot), mw D vwCl lo L κ H → va_S (fun q => lo ≤ q) s.heap H locs → lv_has ls 7 [(6, .int (iI i)), (5, .int (iI (bI sm))), (4, .int (iI k)), (0, .ref (L 40)), (1, .int (iI fr)), (2, .int (iI to)), (3, .int (iI op))] → W p l e (headSpec w_Model_isName ({ frames := 3, cells := 0, slots := 0, locals := 67 })).room s m args below meth c H locs 0 0 (MQ below (mwQ D vwCl lo (mwR (some (.int (iI (bI (mIsName fr to op S))))) L κ)) args s 0 0 (fun q => lo ≤ q)) (F0 m 108 ls []) := by
        intro N1
        induction N1 with
        | zero => intro i sm hms1; exact absurd hms1 (Nat.not_lt_zero _)
        | succ N1 ih1 =>
          intro i sm hms1 hkn hi hsm hht H locs ls hM hS hl
          refine lv_iload hx hb d_Model_isName_108 (lv_at hl 0 rfl) ?_
          refine lv_iload_n hx hb d_Model_isName_110 rfl (lv_at hl 5 rfl) ?_
          refine lv_iload_n hx hb d_Model_isName_111 rfl (lv_at hl 4 rfl) ?_
          refine ia_sub hx hb d_Model_isName_112 ?_
          refine ia_icmp_ge (a := i) (b := to - fr) (tgt := 163) hx hb d_Model_isName_113 (by decide) (by omega) (by omega) (fun c1 => ?_) (fun c1 => ?_)
          · refine lv_iload hx hb d_Model_isName_163 (lv_at hl 1 rfl) ?_
            refine ia_ifz_eq (x := sm) (tgt := 170) hx hb d_Model_isName_165 (by decide) (fun c2 => ?_) (fun c2 => ?_)
            · refine lv_iinc (v := iI (k + 1)) (lv' := [(4, .int (iI (k + 1))), (6, .int (iI i)), (5, .int (iI (bI sm))), (0, .ref (L 40)), (1, .int (iI fr)), (2, .int (iI to)), (3, .int (iI op))]) hx hb d_Model_isName_170 hl (k := 2) rfl (iI_inc _ _) (by decide) rfl (fun ls hl => ?_)
              refine lv_goto (tgt := 48) hx hb d_Model_isName_173 (by decide) ?_
              exact ih (k + 1) (by omega) (by omega) (by rw [hres, mFd_s (by omega), if_neg (show ¬ mHit S (S.a 10 (op - 1).toNat) (S.a 3) (fr) (to - fr) k = true by rw [hht, show sm = false by assumption]; simp)]) _ _ ls hM hS (lv_sub hl [0, 3, 4, 5, 6] rfl)
            · refine lv_iconst (v := iI (0)) hx hb d_Model_isName_168 rfl ?_
              exact mw_zret (v := false) hx hb hr hM hS hlocks d_Model_isName_169 (mwR_z (by rw [hres, mFd_s (by omega), if_pos (show mHit S (S.a 10 (op - 1).toNat) (S.a 3) (fr) (to - fr) k = true by rw [hht, show sm = true by assumption, mSm_e (by omega)]; rfl)]; exact (decide_eq_false (by omega)).symm))
          · refine lv_iload hx hb d_Model_isName_116 (lv_at hl 1 rfl) ?_
            refine ia_ifz_eq (x := sm) (tgt := 163) hx hb d_Model_isName_118 (by decide) (fun c3 => ?_) (fun c3 => ?_)
            · refine lv_iload hx hb d_Model_isName_163 (lv_at hl 1 rfl) ?_
              refine ia_ifz_eq (x := sm) (tgt := 170) hx hb d_Model_isName_165 (by decide) (fun c4 => ?_) (fun c4 => ?_)
              · refine lv_iinc (v := iI (k + 1)) (lv' := [(4, .int (iI (k + 1))), (6, .int (iI i)), (5, .int (iI (bI sm))), (0, .ref (L 40)), (1, .int (iI fr)), (2, .int (iI to)), (3, .int (iI op))]) hx hb d_Model_isName_170 hl (k := 2) rfl (iI_inc _ _) (by decide) rfl (fun ls hl => ?_)
                refine lv_goto (tgt := 48) hx hb d_Model_isName_173 (by decide) ?_
                exact ih (k + 1) (by omega) (by omega) (by rw [hres, mFd_s (by omega), if_neg (show ¬ mHit S (S.a 10 (op - 1).toNat) (S.a 3) (fr) (to - fr) k = true by rw [hht, show sm = false by assumption]; simp)]) _ _ ls hM hS (lv_sub hl [0, 3, 4, 5, 6] rfl)
              · exact absurd (c3.symm.trans c4) (by decide)
            · have hsm2 := hsm (by assumption)
              refine lv_aload_n hx hb d_Model_isName_121 rfl (lv_at hl 3 rfl) ?_
              refine mw_get (ci := 4) (i := 40) (v := .ref (L 44)) (C := R_Model) (T := T_Model) (N := 23) hx hb hts in_Model hown hK hM hV.1 rfl rfl 6 (by decide) (hts _ m_551) rfl d_Model_isName_122 ?_
              refine lv_aload_n hx hb d_Model_isName_125 rfl (lv_at hl 3 rfl) ?_
              refine mw_get (ci := 4) (i := 40) (v := .ref (L 46)) (C := R_Model) (T := T_Model) (N := 23) hx hb hts in_Model hown hK hM hV.1 rfl rfl 10 (by decide) (hts _ m_555) rfl d_Model_isName_126 ?_
              refine lv_iload hx hb d_Model_isName_129 (lv_at hl 2 rfl) ?_
              refine mw_iald (n := 1000) (f := S.a 5) (a := k) (i := 46) hx hb hK hM 1 (hV.2.1 5 (by decide)) rfl rfl (by omega) (by decide) d_Model_isName_131 ?_
              have r5 : -1000000 ≤ S.a 5 (k : Int).toNat ∧ S.a 5 (k : Int).toNat ≤ 1000000 := hV.2.2.1 5 _
              refine lv_iconst (v := iI (1)) hx hb d_Model_isName_132 rfl ?_
              refine ia_add hx hb d_Model_isName_133 ?_
              refine lv_iload hx hb d_Model_isName_134 (lv_at hl 0 rfl) ?_
              refine ia_add hx hb d_Model_isName_136 ?_
              refine mw_iald (n := 4400) (f := S.a 3) (a := ((S.a 5 (k : Int).toNat) + 1) + i) (i := 44) hx hb hK hM 1 (hV.2.1 3 (by decide)) rfl rfl (by omega) (by decide) d_Model_isName_137 ?_
              have r6 : 0 ≤ S.a 3 (((S.a 5 (k : Int).toNat) + 1) + i : Int).toNat ∧ S.a 3 (((S.a 5 (k : Int).toNat) + 1) + i : Int).toNat ≤ 255 := hV.2.2.1 3 _
              refine lv_aload_n hx hb d_Model_isName_138 rfl (lv_at hl 3 rfl) ?_
              refine mw_get (ci := 4) (i := 40) (v := .ref (L 44)) (C := R_Model) (T := T_Model) (N := 23) hx hb hts in_Model hown hK hM hV.1 rfl rfl 6 (by decide) (hts _ m_551) rfl d_Model_isName_139 ?_
              refine lv_iload_n hx hb d_Model_isName_142 rfl (lv_at hl 4 rfl) ?_
              refine lv_iload hx hb d_Model_isName_143 (lv_at hl 0 rfl) ?_
              refine ia_add hx hb d_Model_isName_145 ?_
              refine mw_iald (n := 4400) (f := S.a 3) (a := fr + i) (i := 44) hx hb hK hM 1 (hV.2.1 3 (by decide)) rfl rfl (by omega) (by decide) d_Model_isName_146 ?_
              have r7 : 0 ≤ S.a 3 (fr + i : Int).toNat ∧ S.a 3 (fr + i : Int).toNat ≤ 255 := hV.2.2.1 3 _
              refine ia_icmp_ne (a := S.a 3 (((S.a 5 (k : Int).toNat) + 1) + i : Int).toNat) (b := S.a 3 (fr + i : Int).toNat) (tgt := 154) hx hb d_Model_isName_147 (by decide) (by omega) (by omega) (fun c8 => ?_) (fun c8 => ?_)
              · refine lv_iconst (v := iI (0)) hx hb d_Model_isName_154 rfl ?_
                refine lv_istore (lv' := [(5, .int (iI 0)), (6, .int (iI i)), (4, .int (iI k)), (0, .ref (L 40)), (1, .int (iI fr)), (2, .int (iI to)), (3, .int (iI op))]) hx hb d_Model_isName_155 hl (by decide) rfl (fun ls hl => ?_)
                refine lv_iinc (v := iI (i + 1)) (lv' := [(6, .int (iI (i + 1))), (5, .int (iI 0)), (4, .int (iI k)), (0, .ref (L 40)), (1, .int (iI fr)), (2, .int (iI to)), (3, .int (iI op))]) hx hb d_Model_isName_157 hl (k := 1) rfl (iI_inc _ _) (by decide) rfl (fun ls hl => ?_)
                refine lv_goto (tgt := 108) hx hb d_Model_isName_160 (by decide) ?_
                exact ih1 (i + 1) false (by omega) hkn (by omega) (by intro z; cases z) (by rw [hht, show sm = true by assumption, mSm_s (by omega), if_neg (by omega)] <;> rfl) _ _ ls hM hS (lv_sub hl [0, 1, 2, 3, 4, 5, 6] rfl)
              · refine lv_iconst (v := iI (1)) hx hb d_Model_isName_150 rfl ?_
                refine lv_goto (tgt := 155) hx hb d_Model_isName_151 (by decide) ?_
                refine lv_istore (lv' := [(5, .int (iI 1)), (6, .int (iI i)), (4, .int (iI k)), (0, .ref (L 40)), (1, .int (iI fr)), (2, .int (iI to)), (3, .int (iI op))]) hx hb d_Model_isName_155 hl (by decide) rfl (fun ls hl => ?_)
                refine lv_iinc (v := iI (i + 1)) (lv' := [(6, .int (iI (i + 1))), (5, .int (iI 1)), (4, .int (iI k)), (0, .ref (L 40)), (1, .int (iI fr)), (2, .int (iI to)), (3, .int (iI op))]) hx hb d_Model_isName_157 hl (k := 1) rfl (iI_inc _ _) (by decide) rfl (fun ls hl => ?_)
                refine lv_goto (tgt := 108) hx hb d_Model_isName_160 (by decide) ?_
                exact ih1 (i + 1) true (by omega) hkn (by omega) (by intro _; exact hsm (by assumption)) (by rw [hht, show sm = true by assumption, mSm_s (by omega), if_pos (by omega)] <;> rfl) _ _ ls hM hS (lv_sub hl [0, 1, 2, 3, 4, 5, 6] rfl)
      refine lv_iload hx hb d_Model_isName_48 (lv_at hl 0 rfl) ?_
      refine lv_aload_n hx hb d_Model_isName_50 rfl (lv_at hl 1 rfl) ?_
      refine mw_get (ci := 4) (i := 40) (v := .int (iI (S.f 3))) (C := R_Model) (T := T_Model) (N := 23) hx hb hts in_Model hown hK hM hV.1 rfl rfl 8 (by decide) (hts _ m_553) rfl d_Model_isName_51 ?_
      have r9 : -1000000 ≤ S.f 3 ∧ S.f 3 ≤ 1000000 := hV.2.2.2 3
      refine ia_icmp_ge (a := k) (b := S.f 3) (tgt := 176) hx hb d_Model_isName_54 (by decide) (by omega) (by omega) (fun c10 => ?_) (fun c10 => ?_)
      · refine lv_iconst (v := iI (1)) hx hb d_Model_isName_176 rfl ?_
        exact mw_zret (v := true) hx hb hr hM hS hlocks d_Model_isName_177 (mwR_z (by rw [hres, mFd_e (by omega)]; rfl))
      · refine lv_aload_n hx hb d_Model_isName_57 rfl (lv_at hl 1 rfl) ?_
        refine mw_get (ci := 4) (i := 40) (v := .ref (L 45)) (C := R_Model) (T := T_Model) (N := 23) hx hb hts in_Model hown hK hM hV.1 rfl rfl 9 (by decide) (hts _ m_554) rfl d_Model_isName_58 ?_
        refine lv_iload hx hb d_Model_isName_61 (lv_at hl 0 rfl) ?_
        refine mw_iald (n := 1000) (f := S.a 4) (a := k) (i := 45) hx hb hK hM 1 (hV.2.1 4 (by decide)) rfl rfl (by omega) (by decide) d_Model_isName_63 ?_
        have r11 : -1000000 ≤ S.a 4 (k : Int).toNat ∧ S.a 4 (k : Int).toNat ≤ 1000000 := hV.2.2.1 4 _
        refine lv_aload_n hx hb d_Model_isName_64 rfl (lv_at hl 1 rfl) ?_
        refine mw_get (ci := 4) (i := 40) (v := .ref (L 51)) (C := R_Model) (T := T_Model) (N := 23) hx hb hts in_Model hown hK hM hV.1 rfl rfl 18 (by decide) (hts _ m_563) rfl d_Model_isName_65 ?_
        refine lv_iload_n hx hb d_Model_isName_68 rfl (lv_at hl 4 rfl) ?_
        refine lv_iconst (v := iI (1)) hx hb d_Model_isName_69 rfl ?_
        refine ia_sub hx hb d_Model_isName_70 ?_
        refine mw_iald (n := 20) (f := S.a 10) (a := op - 1) (i := 51) hx hb hK hM 1 (hV.2.1 10 (by decide)) rfl rfl (by omega) (by decide) d_Model_isName_71 ?_
        have r12 : -1000000 ≤ S.a 10 (op - 1 : Int).toNat ∧ S.a 10 (op - 1 : Int).toNat ≤ 1000000 := hV.2.2.1 10 _
        refine ia_icmp_ne (a := S.a 4 (k : Int).toNat) (b := S.a 10 (op - 1 : Int).toNat) (tgt := 102) hx hb d_Model_isName_72 (by decide) (by omega) (by omega) (fun c13 => ?_) (fun c13 => ?_)
        · refine lv_iconst (v := iI (0)) hx hb d_Model_isName_102 rfl ?_
          refine lv_istore (lv' := [(5, .int (iI 0)), (4, .int (iI k)), (0, .ref (L 40)), (1, .int (iI fr)), (2, .int (iI to)), (3, .int (iI op))]) hx hb d_Model_isName_103 hl (by decide) rfl (fun ls hl => ?_)
          refine lv_iconst (v := iI (0)) hx hb d_Model_isName_105 rfl ?_
          refine lv_istore (lv' := [(6, .int (iI 0)), (5, .int (iI 0)), (4, .int (iI k)), (0, .ref (L 40)), (1, .int (iI fr)), (2, .int (iI to)), (3, .int (iI op))]) hx hb d_Model_isName_106 hl (by decide) rfl (fun ls hl => ?_)
          exact loop108 _ 0 false (Nat.lt_succ_self _) (by omega) (by omega) (by intro z; cases z) (by unfold mHit; rw [decide_eq_false (by omega)]) _ _ ls hM hS (lv_sub hl [0, 1, 2, 3, 4, 5, 6] rfl)
        · refine lv_aload_n hx hb d_Model_isName_75 rfl (lv_at hl 1 rfl) ?_
          refine mw_get (ci := 4) (i := 40) (v := .ref (L 47)) (C := R_Model) (T := T_Model) (N := 23) hx hb hts in_Model hown hK hM hV.1 rfl rfl 11 (by decide) (hts _ m_556) rfl d_Model_isName_76 ?_
          refine lv_iload hx hb d_Model_isName_79 (lv_at hl 0 rfl) ?_
          refine mw_iald (n := 1000) (f := S.a 6) (a := k) (i := 47) hx hb hK hM 1 (hV.2.1 6 (by decide)) rfl rfl (by omega) (by decide) d_Model_isName_81 ?_
          have r14 : -1000000 ≤ S.a 6 (k : Int).toNat ∧ S.a 6 (k : Int).toNat ≤ 1000000 := hV.2.2.1 6 _
          refine lv_aload_n hx hb d_Model_isName_82 rfl (lv_at hl 1 rfl) ?_
          refine mw_get (ci := 4) (i := 40) (v := .ref (L 46)) (C := R_Model) (T := T_Model) (N := 23) hx hb hts in_Model hown hK hM hV.1 rfl rfl 10 (by decide) (hts _ m_555) rfl d_Model_isName_83 ?_
          refine lv_iload hx hb d_Model_isName_86 (lv_at hl 0 rfl) ?_
          refine mw_iald (n := 1000) (f := S.a 5) (a := k) (i := 46) hx hb hK hM 1 (hV.2.1 5 (by decide)) rfl rfl (by omega) (by decide) d_Model_isName_88 ?_
          have r15 : -1000000 ≤ S.a 5 (k : Int).toNat ∧ S.a 5 (k : Int).toNat ≤ 1000000 := hV.2.2.1 5 _
          refine ia_sub hx hb d_Model_isName_89 ?_
          refine lv_iconst (v := iI (1)) hx hb d_Model_isName_90 rfl ?_
          refine ia_sub hx hb d_Model_isName_91 ?_
          refine lv_iload_n hx hb d_Model_isName_92 rfl (lv_at hl 3 rfl) ?_
          refine lv_iload_n hx hb d_Model_isName_93 rfl (lv_at hl 2 rfl) ?_
          refine ia_sub hx hb d_Model_isName_94 ?_
          refine ia_icmp_ne (a := ((S.a 6 (k : Int).toNat) - (S.a 5 (k : Int).toNat)) - 1) (b := to - fr) (tgt := 102) hx hb d_Model_isName_95 (by decide) (by omega) (by omega) (fun c16 => ?_) (fun c16 => ?_)
          · refine lv_iconst (v := iI (0)) hx hb d_Model_isName_102 rfl ?_
            refine lv_istore (lv' := [(5, .int (iI 0)), (4, .int (iI k)), (0, .ref (L 40)), (1, .int (iI fr)), (2, .int (iI to)), (3, .int (iI op))]) hx hb d_Model_isName_103 hl (by decide) rfl (fun ls hl => ?_)
            refine lv_iconst (v := iI (0)) hx hb d_Model_isName_105 rfl ?_
            refine lv_istore (lv' := [(6, .int (iI 0)), (5, .int (iI 0)), (4, .int (iI k)), (0, .ref (L 40)), (1, .int (iI fr)), (2, .int (iI to)), (3, .int (iI op))]) hx hb d_Model_isName_106 hl (by decide) rfl (fun ls hl => ?_)
            exact loop108 _ 0 false (Nat.lt_succ_self _) (by omega) (by omega) (by intro z; cases z) (by unfold mHit; rw [decide_eq_false (by omega)]) _ _ ls hM hS (lv_sub hl [0, 1, 2, 3, 4, 5, 6] rfl)
          · refine lv_iconst (v := iI (1)) hx hb d_Model_isName_98 rfl ?_
            refine lv_goto (tgt := 103) hx hb d_Model_isName_99 (by decide) ?_
            refine lv_istore (lv' := [(5, .int (iI 1)), (4, .int (iI k)), (0, .ref (L 40)), (1, .int (iI fr)), (2, .int (iI to)), (3, .int (iI op))]) hx hb d_Model_isName_103 hl (by decide) rfl (fun ls hl => ?_)
            refine lv_iconst (v := iI (0)) hx hb d_Model_isName_105 rfl ?_
            refine lv_istore (lv' := [(6, .int (iI 0)), (5, .int (iI 1)), (4, .int (iI k)), (0, .ref (L 40)), (1, .int (iI fr)), (2, .int (iI to)), (3, .int (iI op))]) hx hb d_Model_isName_106 hl (by decide) rfl (fun ls hl => ?_)
            exact loop108 _ 0 true (Nat.lt_succ_self _) (by omega) (by omega) (by intro _; omega) (by unfold mHit; rw [decide_eq_true (by omega)]) _ _ ls hM hS (lv_sub hl [0, 1, 2, 3, 4, 5, 6] rfl)
  obtain ⟨ls, hls, hl⟩ := mw_entry (m := m) [.ref (L 40), .int (iI fr), .int (iI to), .int (iI op)] (n := 7) (Nat.le_of_ble_eq_true rfl) hargs
  refine W.eq hls ?_
  have hl : lv_has ls 7 [(0, .ref (L 40)), (1, .int (iI fr)), (2, .int (iI to)), (3, .int (iI op))] := hl
  refine lv_aload_n hx hb d_Model_isName_0 rfl (lv_at hl 0 rfl) ?_
  refine mw_get (ci := 4) (i := 40) (v := .ref (L 53)) (C := R_Model) (T := T_Model) (N := 23) hx hb hts in_Model hown hK hM hV.1 rfl rfl 20 (by decide) (hts _ m_565) rfl d_Model_isName_1 ?_
  refine lv_iload_n hx hb d_Model_isName_4 rfl (lv_at hl 3 rfl) ?_
  refine lv_iconst (v := iI (1)) hx hb d_Model_isName_5 rfl ?_
  refine ia_sub hx hb d_Model_isName_6 ?_
  refine mw_iald (n := 20) (f := S.a 12) (a := op - 1) (i := 53) hx hb hK hM 1 (hV.2.1 12 (by decide)) rfl rfl (by omega) (by decide) d_Model_isName_7 ?_
  have r17 : -1000000 ≤ S.a 12 (op - 1 : Int).toNat ∧ S.a 12 (op - 1 : Int).toNat ≤ 1000000 := hV.2.2.1 12 _
  refine lv_iconst (v := iI (1)) hx hb d_Model_isName_8 rfl ?_
  refine ia_icmp_ne (a := S.a 12 (op - 1 : Int).toNat) (b := 1) (tgt := 45) hx hb d_Model_isName_9 (by decide) (by omega) (by omega) (fun c18 => ?_) (fun c18 => ?_)
  · refine lv_iconst (v := iI (1)) hx hb d_Model_isName_45 rfl ?_
    refine lv_istore (lv' := [(4, .int (iI 1)), (0, .ref (L 40)), (1, .int (iI fr)), (2, .int (iI to)), (3, .int (iI op))]) hx hb d_Model_isName_46 hl (by decide) rfl (fun ls hl => ?_)
    exact loop48 _ 1 (Nat.lt_succ_self _) (by omega) (by unfold mIsName; rw [if_neg (by omega)]) _ _ ls hM hS (lv_sub hl [0, 1, 2, 3, 4] rfl)
  · refine lv_aload_n hx hb d_Model_isName_12 rfl (lv_at hl 0 rfl) ?_
    refine mw_get (ci := 4) (i := 40) (v := .int (iI (S.f 6))) (C := R_Model) (T := T_Model) (N := 23) hx hb hts in_Model hown hK hM hV.1 rfl rfl 16 (by decide) (hts _ m_561) rfl d_Model_isName_13 ?_
    have r19 : -1000000 ≤ S.f 6 ∧ S.f 6 ≤ 1000000 := hV.2.2.2 6
    refine ia_if_ne (a := S.f 6) (tgt := 39) hx hb d_Model_isName_16 (by decide) (by omega) (fun c20 => ?_) (fun c20 => ?_)
    · refine lv_iconst (v := iI (1)) hx hb d_Model_isName_39 rfl ?_
      refine lv_goto (tgt := 44) hx hb d_Model_isName_40 (by decide) ?_
      exact mw_zret (v := true) hx hb hr hM hS hlocks d_Model_isName_44 (mwR_z (by unfold mIsName; rw [if_pos (by omega)]; first | rw [if_pos (by omega)] | (rw [if_neg (by omega)]; exact (show mNum _ _ _ _ = true by assumption).symm)))
    · refine lv_aload_n hx hb d_Model_isName_19 rfl (lv_at hl 0 rfl) ?_
      refine mw_get (ci := 4) (i := 40) (v := .ref (L 44)) (C := R_Model) (T := T_Model) (N := 23) hx hb hts in_Model hown hK hM hV.1 rfl rfl 6 (by decide) (hts _ m_551) rfl d_Model_isName_20 ?_
      refine lv_iload_n hx hb d_Model_isName_23 rfl (lv_at hl 1 rfl) ?_
      refine lv_iload_n hx hb d_Model_isName_24 rfl (lv_at hl 2 rfl) ?_
      refine lv_aload_n hx hb d_Model_isName_25 rfl (lv_at hl 0 rfl) ?_
      refine mw_get (ci := 4) (i := 40) (v := .ref (L 52)) (C := R_Model) (T := T_Model) (N := 23) hx hb hts in_Model hown hK hM hV.1 rfl rfl 19 (by decide) (hts _ m_564) rfl d_Model_isName_26 ?_
      refine lv_iload_n hx hb d_Model_isName_29 rfl (lv_at hl 3 rfl) ?_
      refine lv_iconst (v := iI (1)) hx hb d_Model_isName_30 rfl ?_
      refine ia_sub hx hb d_Model_isName_31 ?_
      refine mw_iald (n := 20) (f := S.a 11) (a := op - 1) (i := 52) hx hb hK hM 1 (hV.2.1 11 (by decide)) rfl rfl (by omega) (by decide) d_Model_isName_32 ?_
      have r21 : -1000000 ≤ S.a 11 (op - 1 : Int).toNat ∧ S.a 11 (op - 1 : Int).toNat ≤ 1000000 := hV.2.2.1 11 _
      refine mw_rdS (As := [.ref (L 44), .int (iI fr), .int (iI to), .int (iI (S.a 11 (op - 1 : Int).toNat))]) (rest := []) ⟨hx, hb, hml, hown, hts⟩ hK hM hS (c_Model_isNumber l D g lo L κ (S.a 3) 44 4400 (hV.2.1 3 (by decide)) (by decide) (hV.2.2.1 3) fr to (S.a 11 (op - 1 : Int).toNat) (by omega) (by omega) (by omega)) (cwS 4 hts (gS m_669 m_670 m_58 m_671) rfl rfl rfl (by decide +kernel) ⟨Nat.le_of_ble_eq_true rfl, Nat.le_of_ble_eq_true rfl⟩) rfl hl.1 rfl (Nat.le_of_ble_eq_true rfl) d_Model_isName_33 ⟨Nat.le_of_ble_eq_true rfl, Nat.le_of_ble_eq_true rfl⟩ (fun H locs hM hS => ?_)
      refine ia_ifz_eq (x := mNum (S.a 3) fr to (S.a 11 (op - 1 : Int).toNat)) (tgt := 43) hx hb d_Model_isName_36 (by decide) (fun c22 => ?_) (fun c22 => ?_)
      · refine lv_iconst (v := iI (0)) hx hb d_Model_isName_43 rfl ?_
        exact mw_zret (v := false) hx hb hr hM hS hlocks d_Model_isName_44 (mwR_z (by unfold mIsName; rw [if_pos (by omega)]; rw [if_neg (by omega)]; exact (show mNum _ _ _ _ = false by assumption).symm))
      · refine lv_iconst (v := iI (1)) hx hb d_Model_isName_39 rfl ?_
        refine lv_goto (tgt := 44) hx hb d_Model_isName_40 (by decide) ?_
        exact mw_zret (v := true) hx hb hr hM hS hlocks d_Model_isName_44 (mwR_z (by unfold mIsName; rw [if_pos (by omega)]; first | rw [if_pos (by omega)] | (rw [if_neg (by omega)]; exact (show mNum _ _ _ _ = true by assumption).symm)))
set_option maxHeartbeats 4000000 in
set_option maxRecDepth 100000 in
theorem c_Model_text (l : Launch) (D : va_G) (g : Nat → ClassId) (lo : Nat) (L : Nat → Nat) (κ : Nat → Option va_E) (S : MS) (hV : mds g L κ S) (a last : Int) (ha : 0 ≤ a ∧ a ≤ 4300) (hlast : 0 ≤ last ∧ last ≤ 4300) : Met l y_Model_text w_Model_text ({ frames := 2, cells := 0, slots := 0, locals := 50 }) (mwP D vwCl (tyL g) lo L κ [.ref (L 40), .int (iI a), .int (iI last)]) (mwQ D vwCl lo (mdQ g L κ (some (.int (iI (mText a last S).1))) (mText a last S).2)) 0 0 (fun q => lo ≤ q) := by
  refine Met.ofW (cc := b_Model_text) (maxL := 8) (ret := (Option.some Jvm.ClassFile.FieldType.int)) (by decide) rfl ?_
  intro p e s m args below meth c s₁ B hml hpre
  obtain ⟨hargs, hM, hK⟩ := hpre
  have hx := B.exec
  have hb := B.bytes
  have hr := B.returns
  have hts : ∀ w ∈ wA, w.before args s = true := fun w h => atoms_spec (ws := w_Model_text) B.pre w (List.mem_cons_of_mem _ h)
  have hown : s.vm.findClass R_Model = some m.cls := findClass_of_methodNamed B.named
  have hlocks := B.notSynchronized
  have hS : va_S (fun q => lo ≤ q) s.heap s.heap [] := va_S.rf
  obtain ⟨ls, hls, hl⟩ := mw_entry (m := m) [.ref (L 40), .int (iI a), .int (iI last)] (n := 8) (Nat.le_of_ble_eq_true rfl) hargs
  refine W.eq hls ?_
  have hl : lv_has ls 8 [(0, .ref (L 40)), (1, .int (iI a)), (2, .int (iI last))] := hl
  refine lv_iload_n hx hb d_Model_text_0 rfl (lv_at hl 2 rfl) ?_
  refine lv_iload_n hx hb d_Model_text_1 rfl (lv_at hl 1 rfl) ?_
  refine ia_sub hx hb d_Model_text_2 ?_
  refine lv_istore_n (lv' := [(3, .int (iI (last - a))), (0, .ref (L 40)), (1, .int (iI a)), (2, .int (iI last))]) hx hb d_Model_text_3 rfl hl (by decide) rfl (fun ls hl => ?_)
  refine lv_iload_n hx hb d_Model_text_4 rfl (lv_at hl 0 rfl) ?_
  refine lv_iconst (v := iI (4)) hx hb d_Model_text_5 rfl ?_
  refine ia_icmp_ge (a := last - a) (b := 4) (tgt := 17) hx hb d_Model_text_6 (by decide) (by omega) (by omega) (fun c1 => ?_) (fun c1 => ?_)
  · refine lv_aload_n hx hb d_Model_text_17 rfl (lv_at hl 1 rfl) ?_
    refine lv_iload_n hx hb d_Model_text_18 rfl (lv_at hl 2 rfl) ?_
    refine lv_iconst (v := iI (4)) hx hb d_Model_text_19 rfl ?_
    refine mw_rdV (i := 40) (As := [.int (iI a), .int (iI 4)]) (rest := []) ⟨hx, hb, hml, hown, hts⟩ hK hM hS rfl hV.1 rfl (c_Model_low l D g lo L κ S hV a 4 (by omega) (by omega)) (cwV 2 hts (gV m_642 m_644 m_21 m_58 m_645) rfl rfl rfl (by decide +kernel) ⟨Nat.le_of_ble_eq_true rfl, Nat.le_of_ble_eq_true rfl⟩) rfl hl.1 rfl (Nat.le_of_ble_eq_true rfl) d_Model_text_20 ⟨Nat.le_of_ble_eq_true rfl, Nat.le_of_ble_eq_true rfl⟩ (fun H locs hM hS => ?_)
    have r2 := (show 0 ≤ mLow (S.a 3) a 4 ∧ mLow (S.a 3) a 4 < 4294967296 from mLow4_r (hV.2.2.1 3) a)
    refine lv_lstore (lv' := [(4, .long (lI (mLow (S.a 3) a 4))), (3, .int (iI (last - a))), (0, .ref (L 40)), (1, .int (iI a)), (2, .int (iI last))]) hx hb d_Model_text_23 hl (by decide) rfl (fun ls hl => ?_)
    refine lv_lload hx hb d_Model_text_25 (lv_at hl 0 rfl) ?_
    refine lv_lconst (v := lI (1)) hx hb d_Model_text_27 (by decide) ?_
    refine ia_lcmp (a := mLow (S.a 3) a 4) (b := 1) hx hb (by omega) (by omega) d_Model_text_28 ?_
    have r3 := cmpI_s (mLow (S.a 3) a 4) 1
    refine ia_if_ge (a := cmpI (mLow (S.a 3) a 4) 1) (tgt := 42) hx hb d_Model_text_29 (by decide) (by omega) (fun c4 => ?_) (fun c4 => ?_)
    · refine lv_lload hx hb d_Model_text_42 (lv_at hl 0 rfl) ?_
      refine lv_iload_n hx hb d_Model_text_44 rfl (lv_at hl 1 rfl) ?_
      refine lv_iconst (v := iI (4)) hx hb d_Model_text_45 rfl ?_
      refine ia_sub hx hb d_Model_text_46 ?_
      refine ia_i2l hx hb (by omega) d_Model_text_47 ?_
      refine ia_lcmp (a := mLow (S.a 3) a 4) (b := (last - a) - 4) hx hb (by omega) (by omega) d_Model_text_48 ?_
      have r5 := cmpI_s (mLow (S.a 3) a 4) ((last - a) - 4)
      refine ia_if_le (a := cmpI (mLow (S.a 3) a 4) ((last - a) - 4)) (tgt := 58) hx hb d_Model_text_49 (by decide) (by omega) (fun c6 => ?_) (fun c6 => ?_)
      · refine lv_aload_n hx hb d_Model_text_58 rfl (lv_at hl 2 rfl) ?_
        refine mw_get (ci := 4) (i := 40) (v := .int (iI (S.f 5))) (C := R_Model) (T := T_Model) (N := 23) hx hb hts in_Model hown hK hM hV.1 rfl rfl 15 (by decide) (hts _ m_560) rfl d_Model_text_59 ?_
        have r7 : -1000000 ≤ S.f 5 ∧ S.f 5 ≤ 1000000 := hV.2.2.2 5
        refine ia_if_eq (a := S.f 5) (tgt := 67) hx hb d_Model_text_62 (by decide) (by omega) (fun c8 => ?_) (fun c8 => ?_)
        · refine lv_iload_n hx hb d_Model_text_67 rfl (lv_at hl 3 rfl) ?_
          refine lv_iconst (v := iI (4)) hx hb d_Model_text_68 rfl ?_
          refine ia_add hx hb d_Model_text_69 ?_
          refine lv_lload hx hb d_Model_text_70 (lv_at hl 0 rfl) ?_
          refine ia_l2i hx hb d_Model_text_72 ?_
          refine ia_add hx hb d_Model_text_73 ?_
          refine lv_istore (lv' := [(6, .int (iI ((a + 4) + (mLow (S.a 3) a 4)))), (4, .long (lI (mLow (S.a 3) a 4))), (3, .int (iI (last - a))), (0, .ref (L 40)), (1, .int (iI a)), (2, .int (iI last))]) hx hb d_Model_text_74 hl (by decide) rfl (fun ls hl => ?_)
          refine lv_aload_n hx hb d_Model_text_76 rfl (lv_at hl 3 rfl) ?_
          refine mw_get (ci := 4) (i := 40) (v := .ref (L 44)) (C := R_Model) (T := T_Model) (N := 23) hx hb hts in_Model hown hK hM hV.1 rfl rfl 6 (by decide) (hts _ m_551) rfl d_Model_text_77 ?_
          refine lv_iload hx hb d_Model_text_80 (lv_at hl 0 rfl) ?_
          refine lv_iconst (v := iI (1)) hx hb d_Model_text_82 rfl ?_
          refine ia_sub hx hb d_Model_text_83 ?_
          refine mw_iald (n := 4400) (f := S.a 3) (a := ((a + 4) + (mLow (S.a 3) a 4)) - 1) (i := 44) hx hb hK hM 1 (hV.2.1 3 (by decide)) rfl rfl (by omega) (by decide) d_Model_text_84 ?_
          have r9 : 0 ≤ S.a 3 (((a + 4) + (mLow (S.a 3) a 4)) - 1 : Int).toNat ∧ S.a 3 (((a + 4) + (mLow (S.a 3) a 4)) - 1 : Int).toNat ≤ 255 := hV.2.2.1 3 _
          refine ia_if_eq (a := S.a 3 (((a + 4) + (mLow (S.a 3) a 4)) - 1 : Int).toNat) (tgt := 98) hx hb d_Model_text_85 (by decide) (by omega) (fun c10 => ?_) (fun c10 => ?_)
          · refine lv_aload_n hx hb d_Model_text_98 rfl (lv_at hl 3 rfl) ?_
            refine mw_get (ci := 4) (i := 40) (v := .ref (L 44)) (C := R_Model) (T := T_Model) (N := 23) hx hb hts in_Model hown hK hM hV.1 rfl rfl 6 (by decide) (hts _ m_551) rfl d_Model_text_99 ?_
            refine lv_iload_n hx hb d_Model_text_102 rfl (lv_at hl 4 rfl) ?_
            refine lv_iconst (v := iI (4)) hx hb d_Model_text_103 rfl ?_
            refine ia_add hx hb d_Model_text_104 ?_
            refine lv_iload hx hb d_Model_text_105 (lv_at hl 0 rfl) ?_
            refine lv_iconst (v := iI (1)) hx hb d_Model_text_107 rfl ?_
            refine ia_sub hx hb d_Model_text_108 ?_
            refine mw_rdS (As := [.ref (L 44), .int (iI (a + 4)), .int (iI (((a + 4) + (mLow (S.a 3) a 4)) - 1))]) (rest := []) ⟨hx, hb, hml, hown, hts⟩ hK hM hS (c_Model_badText l D g lo L κ (S.a 3) 44 4400 (hV.2.1 3 (by decide)) (by decide) (hV.2.2.1 3) (a + 4) (((a + 4) + (mLow (S.a 3) a 4)) - 1) (by omega) (by omega)) (cwS 3 hts (gS m_655 m_656 m_58 m_657) rfl rfl rfl (by decide +kernel) ⟨Nat.le_of_ble_eq_true rfl, Nat.le_of_ble_eq_true rfl⟩) rfl hl.1 rfl (Nat.le_of_ble_eq_true rfl) d_Model_text_109 ⟨Nat.le_of_ble_eq_true rfl, Nat.le_of_ble_eq_true rfl⟩ (fun H locs hM hS => ?_)
            have r11 := mBad_r (S.a 3) (a + 4) (((a + 4) + (mLow (S.a 3) a 4)) - 1)
            refine lv_istore (lv' := [(7, .int (iI (mBad (S.a 3) (a + 4) (((a + 4) + (mLow (S.a 3) a 4)) - 1)))), (6, .int (iI ((a + 4) + (mLow (S.a 3) a 4)))), (4, .long (lI (mLow (S.a 3) a 4))), (3, .int (iI (last - a))), (0, .ref (L 40)), (1, .int (iI a)), (2, .int (iI last))]) hx hb d_Model_text_112 hl (by decide) rfl (fun ls hl => ?_)
            refine lv_iload hx hb d_Model_text_114 (lv_at hl 0 rfl) ?_
            refine ia_if_lt (a := mBad (S.a 3) (a + 4) (((a + 4) + (mLow (S.a 3) a 4)) - 1)) (tgt := 126) hx hb d_Model_text_116 (by decide) (by omega) (fun c12 => ?_) (fun c12 => ?_)
            · refine lv_iload hx hb d_Model_text_126 (lv_at hl 1 rfl) ?_
              exact mw_iret hx hb hr hM hS hlocks d_Model_text_128 (by rw [show mText a last S = ((a + 4) + (mLow (S.a 3) a 4), S) by first | (exfalso; omega) | (unfold mText; rw [show mTxA a last S = S by unfold mTxA; (first | (exfalso; omega) | (repeat (first | rw [if_pos (by first | assumption | omega)] | rw [if_neg (by first | assumption | exact zne (by assumption) | omega)])))]; (first | (exfalso; omega) | (repeat (first | rw [if_pos (by first | assumption | omega)] | rw [if_neg (by first | assumption | exact zne (by assumption) | omega)]))); rw [show mTxB (a + 4 + mLow (S.a 3) a 4) S = S by unfold mTxB; (first | (exfalso; omega) | (repeat (first | rw [if_pos (by first | assumption | omega)] | rw [if_neg (by first | assumption | exact zne (by assumption) | omega)])))]; unfold mTxC; (first | (exfalso; omega) | (repeat (first | rw [if_pos (by first | assumption | omega)] | rw [if_neg (by first | assumption | exact zne (by assumption) | omega)]))))]; exact ⟨rfl, rfl, hV, (fun r h => rfl)⟩)
            · refine lv_aload_n hx hb d_Model_text_119 rfl (lv_at hl 4 rfl) ?_
              refine lv_iconst (v := iI (4)) hx hb d_Model_text_120 rfl ?_
              refine lv_iload hx hb d_Model_text_121 (lv_at hl 0 rfl) ?_
              refine mw_callV (i := 40) (As := [.int (iI 4), .int (iI (mBad (S.a 3) (a + 4) (((a + 4) + (mLow (S.a 3) a 4)) - 1)))]) (rest := []) ⟨hx, hb, hml, hown, hts⟩ hK hM hS rfl hV.1 rfl (c_Model_stop l D g lo L κ S hV 4 (mBad (S.a 3) (a + 4) (((a + 4) + (mLow (S.a 3) a 4)) - 1)) (by omega) (by omega)) (cwV 2 hts (gV m_638 m_640 m_20 m_58 m_641) rfl rfl rfl (by decide +kernel) ⟨Nat.le_of_ble_eq_true rfl, Nat.le_of_ble_eq_true rfl⟩) rfl hl.1 rfl (Nat.le_of_ble_eq_true rfl) d_Model_text_123 ⟨Nat.le_of_ble_eq_true rfl, Nat.le_of_ble_eq_true rfl⟩ (fun v13 L13 κ13 H locs hp13 hM hS => ?_)
              obtain ⟨rfl, rfl, hV13, hk13⟩ := hp13
              have r14 := mStop_nz (x := mBad (S.a 3) (a + 4) (((a + 4) + (mLow (S.a 3) a 4)) - 1)) (S := S) (show (4 : Int) ≠ 0 by decide)
              have r15 := congrFun (congrFun (mStop_a (y := 4) (x := mBad (S.a 3) (a + 4) (((a + 4) + (mLow (S.a 3) a 4)) - 1)) (S := S)) 3)
              refine lv_iload hx hb d_Model_text_126 (lv_at hl 1 rfl) ?_
              exact mw_iret hx hb hr hM hS hlocks d_Model_text_128 (by rw [show mText a last S = ((a + 4) + (mLow (S.a 3) a 4), mStop 4 (mBad (S.a 3) (a + 4) (((a + 4) + (mLow (S.a 3) a 4)) - 1)) S) by first | (exfalso; omega) | (unfold mText; rw [show mTxA a last S = S by unfold mTxA; (first | (exfalso; omega) | (repeat (first | rw [if_pos (by first | assumption | omega)] | rw [if_neg (by first | assumption | exact zne (by assumption) | omega)])))]; (first | (exfalso; omega) | (repeat (first | rw [if_pos (by first | assumption | omega)] | rw [if_neg (by first | assumption | exact zne (by assumption) | omega)]))); rw [show mTxB (a + 4 + mLow (S.a 3) a 4) S = S by unfold mTxB; (first | (exfalso; omega) | (repeat (first | rw [if_pos (by first | assumption | omega)] | rw [if_neg (by first | assumption | exact zne (by assumption) | omega)])))]; unfold mTxC; (first | (exfalso; omega) | (repeat (first | rw [if_pos (by first | assumption | omega)] | rw [if_neg (by first | assumption | exact zne (by assumption) | omega)]))))]; exact ⟨rfl, rfl, hV13, (fun r h => by rw [hk13 r (by omega)])⟩)
          · refine lv_aload_n hx hb d_Model_text_88 rfl (lv_at hl 3 rfl) ?_
            refine lv_bipush (v := iI (6)) hx hb d_Model_text_89 (by decide) ?_
            refine lv_iload hx hb d_Model_text_91 (lv_at hl 0 rfl) ?_
            refine lv_iconst (v := iI (1)) hx hb d_Model_text_93 rfl ?_
            refine ia_sub hx hb d_Model_text_94 ?_
            refine mw_callV (i := 40) (As := [.int (iI 6), .int (iI (((a + 4) + (mLow (S.a 3) a 4)) - 1))]) (rest := []) ⟨hx, hb, hml, hown, hts⟩ hK hM hS rfl hV.1 rfl (c_Model_stop l D g lo L κ S hV 6 (((a + 4) + (mLow (S.a 3) a 4)) - 1) (by omega) (by omega)) (cwV 2 hts (gV m_638 m_640 m_20 m_58 m_641) rfl rfl rfl (by decide +kernel) ⟨Nat.le_of_ble_eq_true rfl, Nat.le_of_ble_eq_true rfl⟩) rfl hl.1 rfl (Nat.le_of_ble_eq_true rfl) d_Model_text_95 ⟨Nat.le_of_ble_eq_true rfl, Nat.le_of_ble_eq_true rfl⟩ (fun v16 L16 κ16 H locs hp16 hM hS => ?_)
            obtain ⟨rfl, rfl, hV16, hk16⟩ := hp16
            have r17 := mStop_nz (x := ((a + 4) + (mLow (S.a 3) a 4)) - 1) (S := S) (show (6 : Int) ≠ 0 by decide)
            have r18 := congrFun (congrFun (mStop_a (y := 6) (x := ((a + 4) + (mLow (S.a 3) a 4)) - 1) (S := S)) 3)
            refine lv_aload_n hx hb d_Model_text_98 rfl (lv_at hl 3 rfl) ?_
            refine mw_get (ci := 4) (i := 40) (v := .ref (L 44)) (C := R_Model) (T := T_Model) (N := 23) hx hb hts in_Model hown hK hM hV16.1 rfl rfl 6 (by decide) (hts _ m_551) rfl d_Model_text_99 ?_
            refine lv_iload_n hx hb d_Model_text_102 rfl (lv_at hl 4 rfl) ?_
            refine lv_iconst (v := iI (4)) hx hb d_Model_text_103 rfl ?_
            refine ia_add hx hb d_Model_text_104 ?_
            refine lv_iload hx hb d_Model_text_105 (lv_at hl 0 rfl) ?_
            refine lv_iconst (v := iI (1)) hx hb d_Model_text_107 rfl ?_
            refine ia_sub hx hb d_Model_text_108 ?_
            refine mw_rdS (As := [.ref (L 44), .int (iI (a + 4)), .int (iI (((a + 4) + (mLow (S.a 3) a 4)) - 1))]) (rest := []) ⟨hx, hb, hml, hown, hts⟩ hK hM hS (c_Model_badText l D g lo L κ16 ((mStop 6 (((a + 4) + (mLow (S.a 3) a 4)) - 1) S).a 3) 44 4400 (hV16.2.1 3 (by decide)) (by decide) (hV16.2.2.1 3) (a + 4) (((a + 4) + (mLow (S.a 3) a 4)) - 1) (by omega) (by omega)) (cwS 3 hts (gS m_655 m_656 m_58 m_657) rfl rfl rfl (by decide +kernel) ⟨Nat.le_of_ble_eq_true rfl, Nat.le_of_ble_eq_true rfl⟩) rfl hl.1 rfl (Nat.le_of_ble_eq_true rfl) d_Model_text_109 ⟨Nat.le_of_ble_eq_true rfl, Nat.le_of_ble_eq_true rfl⟩ (fun H locs hM hS => ?_)
            have r19 := mBad_r ((mStop 6 (((a + 4) + (mLow (S.a 3) a 4)) - 1) S).a 3) (a + 4) (((a + 4) + (mLow (S.a 3) a 4)) - 1)
            refine lv_istore (lv' := [(7, .int (iI (mBad ((mStop 6 (((a + 4) + (mLow (S.a 3) a 4)) - 1) S).a 3) (a + 4) (((a + 4) + (mLow (S.a 3) a 4)) - 1)))), (6, .int (iI ((a + 4) + (mLow (S.a 3) a 4)))), (4, .long (lI (mLow (S.a 3) a 4))), (3, .int (iI (last - a))), (0, .ref (L 40)), (1, .int (iI a)), (2, .int (iI last))]) hx hb d_Model_text_112 hl (by decide) rfl (fun ls hl => ?_)
            refine lv_iload hx hb d_Model_text_114 (lv_at hl 0 rfl) ?_
            refine ia_if_lt (a := mBad ((mStop 6 (((a + 4) + (mLow (S.a 3) a 4)) - 1) S).a 3) (a + 4) (((a + 4) + (mLow (S.a 3) a 4)) - 1)) (tgt := 126) hx hb d_Model_text_116 (by decide) (by omega) (fun c20 => ?_) (fun c20 => ?_)
            · refine lv_iload hx hb d_Model_text_126 (lv_at hl 1 rfl) ?_
              exact mw_iret hx hb hr hM hS hlocks d_Model_text_128 (by rw [show mText a last S = ((a + 4) + (mLow (S.a 3) a 4), mStop 6 (((a + 4) + (mLow (S.a 3) a 4)) - 1) S) by first | (exfalso; omega) | (unfold mText; rw [show mTxA a last S = S by unfold mTxA; (first | (exfalso; omega) | (repeat (first | rw [if_pos (by first | assumption | omega)] | rw [if_neg (by first | assumption | exact zne (by assumption) | omega)])))]; (first | (exfalso; omega) | (repeat (first | rw [if_pos (by first | assumption | omega)] | rw [if_neg (by first | assumption | exact zne (by assumption) | omega)]))); rw [show mTxB (a + 4 + mLow (S.a 3) a 4) S = mStop 6 (((a + 4) + (mLow (S.a 3) a 4)) - 1) S by unfold mTxB; (first | (exfalso; omega) | (repeat (first | rw [if_pos (by first | assumption | omega)] | rw [if_neg (by first | assumption | exact zne (by assumption) | omega)])))]; unfold mTxC; (first | (exfalso; omega) | (repeat (first | rw [if_pos (by first | assumption | omega)] | rw [if_neg (by first | assumption | exact zne (by assumption) | omega)]))))]; exact ⟨rfl, rfl, hV16, (fun r h => by rw [hk16 r (by omega)])⟩)
            · refine lv_aload_n hx hb d_Model_text_119 rfl (lv_at hl 4 rfl) ?_
              refine lv_iconst (v := iI (4)) hx hb d_Model_text_120 rfl ?_
              refine lv_iload hx hb d_Model_text_121 (lv_at hl 0 rfl) ?_
              refine mw_callV (i := 40) (As := [.int (iI 4), .int (iI (mBad ((mStop 6 (((a + 4) + (mLow (S.a 3) a 4)) - 1) S).a 3) (a + 4) (((a + 4) + (mLow (S.a 3) a 4)) - 1)))]) (rest := []) ⟨hx, hb, hml, hown, hts⟩ hK hM hS rfl hV16.1 rfl (c_Model_stop l D g lo L κ16 (mStop 6 (((a + 4) + (mLow (S.a 3) a 4)) - 1) S) hV16 4 (mBad ((mStop 6 (((a + 4) + (mLow (S.a 3) a 4)) - 1) S).a 3) (a + 4) (((a + 4) + (mLow (S.a 3) a 4)) - 1)) (by omega) (by omega)) (cwV 2 hts (gV m_638 m_640 m_20 m_58 m_641) rfl rfl rfl (by decide +kernel) ⟨Nat.le_of_ble_eq_true rfl, Nat.le_of_ble_eq_true rfl⟩) rfl hl.1 rfl (Nat.le_of_ble_eq_true rfl) d_Model_text_123 ⟨Nat.le_of_ble_eq_true rfl, Nat.le_of_ble_eq_true rfl⟩ (fun v21 L21 κ21 H locs hp21 hM hS => ?_)
              obtain ⟨rfl, rfl, hV21, hk21⟩ := hp21
              have r22 := mStop_nz (x := mBad ((mStop 6 (((a + 4) + (mLow (S.a 3) a 4)) - 1) S).a 3) (a + 4) (((a + 4) + (mLow (S.a 3) a 4)) - 1)) (S := mStop 6 (((a + 4) + (mLow (S.a 3) a 4)) - 1) S) (show (4 : Int) ≠ 0 by decide)
              have r23 := congrFun (congrFun (mStop_a (y := 4) (x := mBad ((mStop 6 (((a + 4) + (mLow (S.a 3) a 4)) - 1) S).a 3) (a + 4) (((a + 4) + (mLow (S.a 3) a 4)) - 1)) (S := mStop 6 (((a + 4) + (mLow (S.a 3) a 4)) - 1) S)) 3)
              refine lv_iload hx hb d_Model_text_126 (lv_at hl 1 rfl) ?_
              exact mw_iret hx hb hr hM hS hlocks d_Model_text_128 (by rw [show mText a last S = ((a + 4) + (mLow (S.a 3) a 4), mStop 4 (mBad ((mStop 6 (((a + 4) + (mLow (S.a 3) a 4)) - 1) S).a 3) (a + 4) (((a + 4) + (mLow (S.a 3) a 4)) - 1)) (mStop 6 (((a + 4) + (mLow (S.a 3) a 4)) - 1) S)) by first | (exfalso; omega) | (unfold mText; rw [show mTxA a last S = S by unfold mTxA; (first | (exfalso; omega) | (repeat (first | rw [if_pos (by first | assumption | omega)] | rw [if_neg (by first | assumption | exact zne (by assumption) | omega)])))]; (first | (exfalso; omega) | (repeat (first | rw [if_pos (by first | assumption | omega)] | rw [if_neg (by first | assumption | exact zne (by assumption) | omega)]))); rw [show mTxB (a + 4 + mLow (S.a 3) a 4) S = mStop 6 (((a + 4) + (mLow (S.a 3) a 4)) - 1) S by unfold mTxB; (first | (exfalso; omega) | (repeat (first | rw [if_pos (by first | assumption | omega)] | rw [if_neg (by first | assumption | exact zne (by assumption) | omega)])))]; unfold mTxC; (first | (exfalso; omega) | (repeat (first | rw [if_pos (by first | assumption | omega)] | rw [if_neg (by first | assumption | exact zne (by assumption) | omega)]))))]; exact ⟨rfl, rfl, hV21, (fun r h => by rw [hk21 r (by omega), hk16 r (by omega)])⟩)
        · refine lv_iload_n hx hb d_Model_text_65 rfl (lv_at hl 3 rfl) ?_
          exact mw_iret hx hb hr hM hS hlocks d_Model_text_66 (by rw [show mText a last S = (a, S) by first | (exfalso; omega) | (unfold mText; rw [show mTxA a last S = S by unfold mTxA; (first | (exfalso; omega) | (repeat (first | rw [if_pos (by first | assumption | omega)] | rw [if_neg (by first | assumption | exact zne (by assumption) | omega)])))]; (first | (exfalso; omega) | (repeat (first | rw [if_pos (by first | assumption | omega)] | rw [if_neg (by first | assumption | exact zne (by assumption) | omega)]))))]; exact ⟨rfl, rfl, hV, (fun r h => rfl)⟩)
      · refine lv_aload_n hx hb d_Model_text_52 rfl (lv_at hl 2 rfl) ?_
        refine lv_iconst (v := iI (1)) hx hb d_Model_text_53 rfl ?_
        refine lv_iload_n hx hb d_Model_text_54 rfl (lv_at hl 3 rfl) ?_
        refine mw_callV (i := 40) (As := [.int (iI 1), .int (iI a)]) (rest := []) ⟨hx, hb, hml, hown, hts⟩ hK hM hS rfl hV.1 rfl (c_Model_stop l D g lo L κ S hV 1 a (by omega) (by omega)) (cwV 2 hts (gV m_638 m_640 m_20 m_58 m_641) rfl rfl rfl (by decide +kernel) ⟨Nat.le_of_ble_eq_true rfl, Nat.le_of_ble_eq_true rfl⟩) rfl hl.1 rfl (Nat.le_of_ble_eq_true rfl) d_Model_text_55 ⟨Nat.le_of_ble_eq_true rfl, Nat.le_of_ble_eq_true rfl⟩ (fun v24 L24 κ24 H locs hp24 hM hS => ?_)
        obtain ⟨rfl, rfl, hV24, hk24⟩ := hp24
        have r25 := mStop_nz (x := a) (S := S) (show (1 : Int) ≠ 0 by decide)
        have r26 := congrFun (congrFun (mStop_a (y := 1) (x := a) (S := S)) 3)
        refine lv_aload_n hx hb d_Model_text_58 rfl (lv_at hl 2 rfl) ?_
        refine mw_get (ci := 4) (i := 40) (v := .int (iI ((mStop 1 a S).f 5))) (C := R_Model) (T := T_Model) (N := 23) hx hb hts in_Model hown hK hM hV24.1 rfl rfl 15 (by decide) (hts _ m_560) rfl d_Model_text_59 ?_
        have r27 : -1000000 ≤ (mStop 1 a S).f 5 ∧ (mStop 1 a S).f 5 ≤ 1000000 := hV24.2.2.2 5
        refine ia_if_eq (a := (mStop 1 a S).f 5) (tgt := 67) hx hb d_Model_text_62 (by decide) (by omega) (fun c28 => ?_) (fun c28 => ?_)
        · refine lv_iload_n hx hb d_Model_text_67 rfl (lv_at hl 3 rfl) ?_
          refine lv_iconst (v := iI (4)) hx hb d_Model_text_68 rfl ?_
          refine ia_add hx hb d_Model_text_69 ?_
          refine lv_lload hx hb d_Model_text_70 (lv_at hl 0 rfl) ?_
          refine ia_l2i hx hb d_Model_text_72 ?_
          refine ia_add hx hb d_Model_text_73 ?_
          refine lv_istore (lv' := [(6, .int (iI ((a + 4) + (mLow (S.a 3) a 4)))), (4, .long (lI (mLow (S.a 3) a 4))), (3, .int (iI (last - a))), (0, .ref (L 40)), (1, .int (iI a)), (2, .int (iI last))]) hx hb d_Model_text_74 hl (by decide) rfl (fun ls hl => ?_)
          refine lv_aload_n hx hb d_Model_text_76 rfl (lv_at hl 3 rfl) ?_
          refine mw_get (ci := 4) (i := 40) (v := .ref (L 44)) (C := R_Model) (T := T_Model) (N := 23) hx hb hts in_Model hown hK hM hV24.1 rfl rfl 6 (by decide) (hts _ m_551) rfl d_Model_text_77 ?_
          refine lv_iload hx hb d_Model_text_80 (lv_at hl 0 rfl) ?_
          refine lv_iconst (v := iI (1)) hx hb d_Model_text_82 rfl ?_
          refine ia_sub hx hb d_Model_text_83 ?_
          refine mw_iald (n := 4400) (f := (mStop 1 a S).a 3) (a := ((a + 4) + (mLow (S.a 3) a 4)) - 1) (i := 44) hx hb hK hM 1 (hV24.2.1 3 (by decide)) rfl rfl (by omega) (by decide) d_Model_text_84 ?_
          have r29 : 0 ≤ (mStop 1 a S).a 3 (((a + 4) + (mLow (S.a 3) a 4)) - 1 : Int).toNat ∧ (mStop 1 a S).a 3 (((a + 4) + (mLow (S.a 3) a 4)) - 1 : Int).toNat ≤ 255 := hV24.2.2.1 3 _
          refine ia_if_eq (a := (mStop 1 a S).a 3 (((a + 4) + (mLow (S.a 3) a 4)) - 1 : Int).toNat) (tgt := 98) hx hb d_Model_text_85 (by decide) (by omega) (fun c30 => ?_) (fun c30 => ?_)
          · refine lv_aload_n hx hb d_Model_text_98 rfl (lv_at hl 3 rfl) ?_
            refine mw_get (ci := 4) (i := 40) (v := .ref (L 44)) (C := R_Model) (T := T_Model) (N := 23) hx hb hts in_Model hown hK hM hV24.1 rfl rfl 6 (by decide) (hts _ m_551) rfl d_Model_text_99 ?_
            refine lv_iload_n hx hb d_Model_text_102 rfl (lv_at hl 4 rfl) ?_
            refine lv_iconst (v := iI (4)) hx hb d_Model_text_103 rfl ?_
            refine ia_add hx hb d_Model_text_104 ?_
            refine lv_iload hx hb d_Model_text_105 (lv_at hl 0 rfl) ?_
            refine lv_iconst (v := iI (1)) hx hb d_Model_text_107 rfl ?_
            refine ia_sub hx hb d_Model_text_108 ?_
            refine mw_rdS (As := [.ref (L 44), .int (iI (a + 4)), .int (iI (((a + 4) + (mLow (S.a 3) a 4)) - 1))]) (rest := []) ⟨hx, hb, hml, hown, hts⟩ hK hM hS (c_Model_badText l D g lo L κ24 ((mStop 1 a S).a 3) 44 4400 (hV24.2.1 3 (by decide)) (by decide) (hV24.2.2.1 3) (a + 4) (((a + 4) + (mLow (S.a 3) a 4)) - 1) (by omega) (by omega)) (cwS 3 hts (gS m_655 m_656 m_58 m_657) rfl rfl rfl (by decide +kernel) ⟨Nat.le_of_ble_eq_true rfl, Nat.le_of_ble_eq_true rfl⟩) rfl hl.1 rfl (Nat.le_of_ble_eq_true rfl) d_Model_text_109 ⟨Nat.le_of_ble_eq_true rfl, Nat.le_of_ble_eq_true rfl⟩ (fun H locs hM hS => ?_)
            have r31 := mBad_r ((mStop 1 a S).a 3) (a + 4) (((a + 4) + (mLow (S.a 3) a 4)) - 1)
            refine lv_istore (lv' := [(7, .int (iI (mBad ((mStop 1 a S).a 3) (a + 4) (((a + 4) + (mLow (S.a 3) a 4)) - 1)))), (6, .int (iI ((a + 4) + (mLow (S.a 3) a 4)))), (4, .long (lI (mLow (S.a 3) a 4))), (3, .int (iI (last - a))), (0, .ref (L 40)), (1, .int (iI a)), (2, .int (iI last))]) hx hb d_Model_text_112 hl (by decide) rfl (fun ls hl => ?_)
            refine lv_iload hx hb d_Model_text_114 (lv_at hl 0 rfl) ?_
            refine ia_if_lt (a := mBad ((mStop 1 a S).a 3) (a + 4) (((a + 4) + (mLow (S.a 3) a 4)) - 1)) (tgt := 126) hx hb d_Model_text_116 (by decide) (by omega) (fun c32 => ?_) (fun c32 => ?_)
            · refine lv_iload hx hb d_Model_text_126 (lv_at hl 1 rfl) ?_
              exact mw_iret hx hb hr hM hS hlocks d_Model_text_128 (by rw [show mText a last S = ((a + 4) + (mLow (S.a 3) a 4), mStop 1 a S) by first | (exfalso; omega) | (unfold mText; rw [show mTxA a last S = mStop 1 a S by unfold mTxA; (first | (exfalso; omega) | (repeat (first | rw [if_pos (by first | assumption | omega)] | rw [if_neg (by first | assumption | exact zne (by assumption) | omega)])))]; (first | (exfalso; omega) | (repeat (first | rw [if_pos (by first | assumption | omega)] | rw [if_neg (by first | assumption | exact zne (by assumption) | omega)]))); rw [show mTxB (a + 4 + mLow (S.a 3) a 4) (mStop 1 a S) = mStop 1 a S by unfold mTxB; (first | (exfalso; omega) | (repeat (first | rw [if_pos (by first | assumption | omega)] | rw [if_neg (by first | assumption | exact zne (by assumption) | omega)])))]; unfold mTxC; (first | (exfalso; omega) | (repeat (first | rw [if_pos (by first | assumption | omega)] | rw [if_neg (by first | assumption | exact zne (by assumption) | omega)]))))]; exact ⟨rfl, rfl, hV24, (fun r h => by rw [hk24 r (by omega)])⟩)
            · refine lv_aload_n hx hb d_Model_text_119 rfl (lv_at hl 4 rfl) ?_
              refine lv_iconst (v := iI (4)) hx hb d_Model_text_120 rfl ?_
              refine lv_iload hx hb d_Model_text_121 (lv_at hl 0 rfl) ?_
              refine mw_callV (i := 40) (As := [.int (iI 4), .int (iI (mBad ((mStop 1 a S).a 3) (a + 4) (((a + 4) + (mLow (S.a 3) a 4)) - 1)))]) (rest := []) ⟨hx, hb, hml, hown, hts⟩ hK hM hS rfl hV24.1 rfl (c_Model_stop l D g lo L κ24 (mStop 1 a S) hV24 4 (mBad ((mStop 1 a S).a 3) (a + 4) (((a + 4) + (mLow (S.a 3) a 4)) - 1)) (by omega) (by omega)) (cwV 2 hts (gV m_638 m_640 m_20 m_58 m_641) rfl rfl rfl (by decide +kernel) ⟨Nat.le_of_ble_eq_true rfl, Nat.le_of_ble_eq_true rfl⟩) rfl hl.1 rfl (Nat.le_of_ble_eq_true rfl) d_Model_text_123 ⟨Nat.le_of_ble_eq_true rfl, Nat.le_of_ble_eq_true rfl⟩ (fun v33 L33 κ33 H locs hp33 hM hS => ?_)
              obtain ⟨rfl, rfl, hV33, hk33⟩ := hp33
              have r34 := mStop_nz (x := mBad ((mStop 1 a S).a 3) (a + 4) (((a + 4) + (mLow (S.a 3) a 4)) - 1)) (S := mStop 1 a S) (show (4 : Int) ≠ 0 by decide)
              have r35 := congrFun (congrFun (mStop_a (y := 4) (x := mBad ((mStop 1 a S).a 3) (a + 4) (((a + 4) + (mLow (S.a 3) a 4)) - 1)) (S := mStop 1 a S)) 3)
              refine lv_iload hx hb d_Model_text_126 (lv_at hl 1 rfl) ?_
              exact mw_iret hx hb hr hM hS hlocks d_Model_text_128 (by rw [show mText a last S = ((a + 4) + (mLow (S.a 3) a 4), mStop 4 (mBad ((mStop 1 a S).a 3) (a + 4) (((a + 4) + (mLow (S.a 3) a 4)) - 1)) (mStop 1 a S)) by first | (exfalso; omega) | (unfold mText; rw [show mTxA a last S = mStop 1 a S by unfold mTxA; (first | (exfalso; omega) | (repeat (first | rw [if_pos (by first | assumption | omega)] | rw [if_neg (by first | assumption | exact zne (by assumption) | omega)])))]; (first | (exfalso; omega) | (repeat (first | rw [if_pos (by first | assumption | omega)] | rw [if_neg (by first | assumption | exact zne (by assumption) | omega)]))); rw [show mTxB (a + 4 + mLow (S.a 3) a 4) (mStop 1 a S) = mStop 1 a S by unfold mTxB; (first | (exfalso; omega) | (repeat (first | rw [if_pos (by first | assumption | omega)] | rw [if_neg (by first | assumption | exact zne (by assumption) | omega)])))]; unfold mTxC; (first | (exfalso; omega) | (repeat (first | rw [if_pos (by first | assumption | omega)] | rw [if_neg (by first | assumption | exact zne (by assumption) | omega)]))))]; exact ⟨rfl, rfl, hV33, (fun r h => by rw [hk33 r (by omega), hk24 r (by omega)])⟩)
          · refine lv_aload_n hx hb d_Model_text_88 rfl (lv_at hl 3 rfl) ?_
            refine lv_bipush (v := iI (6)) hx hb d_Model_text_89 (by decide) ?_
            refine lv_iload hx hb d_Model_text_91 (lv_at hl 0 rfl) ?_
            refine lv_iconst (v := iI (1)) hx hb d_Model_text_93 rfl ?_
            refine ia_sub hx hb d_Model_text_94 ?_
            refine mw_callV (i := 40) (As := [.int (iI 6), .int (iI (((a + 4) + (mLow (S.a 3) a 4)) - 1))]) (rest := []) ⟨hx, hb, hml, hown, hts⟩ hK hM hS rfl hV24.1 rfl (c_Model_stop l D g lo L κ24 (mStop 1 a S) hV24 6 (((a + 4) + (mLow (S.a 3) a 4)) - 1) (by omega) (by omega)) (cwV 2 hts (gV m_638 m_640 m_20 m_58 m_641) rfl rfl rfl (by decide +kernel) ⟨Nat.le_of_ble_eq_true rfl, Nat.le_of_ble_eq_true rfl⟩) rfl hl.1 rfl (Nat.le_of_ble_eq_true rfl) d_Model_text_95 ⟨Nat.le_of_ble_eq_true rfl, Nat.le_of_ble_eq_true rfl⟩ (fun v36 L36 κ36 H locs hp36 hM hS => ?_)
            obtain ⟨rfl, rfl, hV36, hk36⟩ := hp36
            have r37 := mStop_nz (x := ((a + 4) + (mLow (S.a 3) a 4)) - 1) (S := mStop 1 a S) (show (6 : Int) ≠ 0 by decide)
            have r38 := congrFun (congrFun (mStop_a (y := 6) (x := ((a + 4) + (mLow (S.a 3) a 4)) - 1) (S := mStop 1 a S)) 3)
            refine lv_aload_n hx hb d_Model_text_98 rfl (lv_at hl 3 rfl) ?_
            refine mw_get (ci := 4) (i := 40) (v := .ref (L 44)) (C := R_Model) (T := T_Model) (N := 23) hx hb hts in_Model hown hK hM hV36.1 rfl rfl 6 (by decide) (hts _ m_551) rfl d_Model_text_99 ?_
            refine lv_iload_n hx hb d_Model_text_102 rfl (lv_at hl 4 rfl) ?_
            refine lv_iconst (v := iI (4)) hx hb d_Model_text_103 rfl ?_
            refine ia_add hx hb d_Model_text_104 ?_
            refine lv_iload hx hb d_Model_text_105 (lv_at hl 0 rfl) ?_
            refine lv_iconst (v := iI (1)) hx hb d_Model_text_107 rfl ?_
            refine ia_sub hx hb d_Model_text_108 ?_
            refine mw_rdS (As := [.ref (L 44), .int (iI (a + 4)), .int (iI (((a + 4) + (mLow (S.a 3) a 4)) - 1))]) (rest := []) ⟨hx, hb, hml, hown, hts⟩ hK hM hS (c_Model_badText l D g lo L κ36 ((mStop 6 (((a + 4) + (mLow (S.a 3) a 4)) - 1) (mStop 1 a S)).a 3) 44 4400 (hV36.2.1 3 (by decide)) (by decide) (hV36.2.2.1 3) (a + 4) (((a + 4) + (mLow (S.a 3) a 4)) - 1) (by omega) (by omega)) (cwS 3 hts (gS m_655 m_656 m_58 m_657) rfl rfl rfl (by decide +kernel) ⟨Nat.le_of_ble_eq_true rfl, Nat.le_of_ble_eq_true rfl⟩) rfl hl.1 rfl (Nat.le_of_ble_eq_true rfl) d_Model_text_109 ⟨Nat.le_of_ble_eq_true rfl, Nat.le_of_ble_eq_true rfl⟩ (fun H locs hM hS => ?_)
            have r39 := mBad_r ((mStop 6 (((a + 4) + (mLow (S.a 3) a 4)) - 1) (mStop 1 a S)).a 3) (a + 4) (((a + 4) + (mLow (S.a 3) a 4)) - 1)
            refine lv_istore (lv' := [(7, .int (iI (mBad ((mStop 6 (((a + 4) + (mLow (S.a 3) a 4)) - 1) (mStop 1 a S)).a 3) (a + 4) (((a + 4) + (mLow (S.a 3) a 4)) - 1)))), (6, .int (iI ((a + 4) + (mLow (S.a 3) a 4)))), (4, .long (lI (mLow (S.a 3) a 4))), (3, .int (iI (last - a))), (0, .ref (L 40)), (1, .int (iI a)), (2, .int (iI last))]) hx hb d_Model_text_112 hl (by decide) rfl (fun ls hl => ?_)
            refine lv_iload hx hb d_Model_text_114 (lv_at hl 0 rfl) ?_
            refine ia_if_lt (a := mBad ((mStop 6 (((a + 4) + (mLow (S.a 3) a 4)) - 1) (mStop 1 a S)).a 3) (a + 4) (((a + 4) + (mLow (S.a 3) a 4)) - 1)) (tgt := 126) hx hb d_Model_text_116 (by decide) (by omega) (fun c40 => ?_) (fun c40 => ?_)
            · refine lv_iload hx hb d_Model_text_126 (lv_at hl 1 rfl) ?_
              exact mw_iret hx hb hr hM hS hlocks d_Model_text_128 (by rw [show mText a last S = ((a + 4) + (mLow (S.a 3) a 4), mStop 6 (((a + 4) + (mLow (S.a 3) a 4)) - 1) (mStop 1 a S)) by first | (exfalso; omega) | (unfold mText; rw [show mTxA a last S = mStop 1 a S by unfold mTxA; (first | (exfalso; omega) | (repeat (first | rw [if_pos (by first | assumption | omega)] | rw [if_neg (by first | assumption | exact zne (by assumption) | omega)])))]; (first | (exfalso; omega) | (repeat (first | rw [if_pos (by first | assumption | omega)] | rw [if_neg (by first | assumption | exact zne (by assumption) | omega)]))); rw [show mTxB (a + 4 + mLow (S.a 3) a 4) (mStop 1 a S) = mStop 6 (((a + 4) + (mLow (S.a 3) a 4)) - 1) (mStop 1 a S) by unfold mTxB; (first | (exfalso; omega) | (repeat (first | rw [if_pos (by first | assumption | omega)] | rw [if_neg (by first | assumption | exact zne (by assumption) | omega)])))]; unfold mTxC; (first | (exfalso; omega) | (repeat (first | rw [if_pos (by first | assumption | omega)] | rw [if_neg (by first | assumption | exact zne (by assumption) | omega)]))))]; exact ⟨rfl, rfl, hV36, (fun r h => by rw [hk36 r (by omega), hk24 r (by omega)])⟩)
            · refine lv_aload_n hx hb d_Model_text_119 rfl (lv_at hl 4 rfl) ?_
              refine lv_iconst (v := iI (4)) hx hb d_Model_text_120 rfl ?_
              refine lv_iload hx hb d_Model_text_121 (lv_at hl 0 rfl) ?_
              refine mw_callV (i := 40) (As := [.int (iI 4), .int (iI (mBad ((mStop 6 (((a + 4) + (mLow (S.a 3) a 4)) - 1) (mStop 1 a S)).a 3) (a + 4) (((a + 4) + (mLow (S.a 3) a 4)) - 1)))]) (rest := []) ⟨hx, hb, hml, hown, hts⟩ hK hM hS rfl hV36.1 rfl (c_Model_stop l D g lo L κ36 (mStop 6 (((a + 4) + (mLow (S.a 3) a 4)) - 1) (mStop 1 a S)) hV36 4 (mBad ((mStop 6 (((a + 4) + (mLow (S.a 3) a 4)) - 1) (mStop 1 a S)).a 3) (a + 4) (((a + 4) + (mLow (S.a 3) a 4)) - 1)) (by omega) (by omega)) (cwV 2 hts (gV m_638 m_640 m_20 m_58 m_641) rfl rfl rfl (by decide +kernel) ⟨Nat.le_of_ble_eq_true rfl, Nat.le_of_ble_eq_true rfl⟩) rfl hl.1 rfl (Nat.le_of_ble_eq_true rfl) d_Model_text_123 ⟨Nat.le_of_ble_eq_true rfl, Nat.le_of_ble_eq_true rfl⟩ (fun v41 L41 κ41 H locs hp41 hM hS => ?_)
              obtain ⟨rfl, rfl, hV41, hk41⟩ := hp41
              have r42 := mStop_nz (x := mBad ((mStop 6 (((a + 4) + (mLow (S.a 3) a 4)) - 1) (mStop 1 a S)).a 3) (a + 4) (((a + 4) + (mLow (S.a 3) a 4)) - 1)) (S := mStop 6 (((a + 4) + (mLow (S.a 3) a 4)) - 1) (mStop 1 a S)) (show (4 : Int) ≠ 0 by decide)
              have r43 := congrFun (congrFun (mStop_a (y := 4) (x := mBad ((mStop 6 (((a + 4) + (mLow (S.a 3) a 4)) - 1) (mStop 1 a S)).a 3) (a + 4) (((a + 4) + (mLow (S.a 3) a 4)) - 1)) (S := mStop 6 (((a + 4) + (mLow (S.a 3) a 4)) - 1) (mStop 1 a S))) 3)
              refine lv_iload hx hb d_Model_text_126 (lv_at hl 1 rfl) ?_
              exact mw_iret hx hb hr hM hS hlocks d_Model_text_128 (by rw [show mText a last S = ((a + 4) + (mLow (S.a 3) a 4), mStop 4 (mBad ((mStop 6 (((a + 4) + (mLow (S.a 3) a 4)) - 1) (mStop 1 a S)).a 3) (a + 4) (((a + 4) + (mLow (S.a 3) a 4)) - 1)) (mStop 6 (((a + 4) + (mLow (S.a 3) a 4)) - 1) (mStop 1 a S))) by first | (exfalso; omega) | (unfold mText; rw [show mTxA a last S = mStop 1 a S by unfold mTxA; (first | (exfalso; omega) | (repeat (first | rw [if_pos (by first | assumption | omega)] | rw [if_neg (by first | assumption | exact zne (by assumption) | omega)])))]; (first | (exfalso; omega) | (repeat (first | rw [if_pos (by first | assumption | omega)] | rw [if_neg (by first | assumption | exact zne (by assumption) | omega)]))); rw [show mTxB (a + 4 + mLow (S.a 3) a 4) (mStop 1 a S) = mStop 6 (((a + 4) + (mLow (S.a 3) a 4)) - 1) (mStop 1 a S) by unfold mTxB; (first | (exfalso; omega) | (repeat (first | rw [if_pos (by first | assumption | omega)] | rw [if_neg (by first | assumption | exact zne (by assumption) | omega)])))]; unfold mTxC; (first | (exfalso; omega) | (repeat (first | rw [if_pos (by first | assumption | omega)] | rw [if_neg (by first | assumption | exact zne (by assumption) | omega)]))))]; exact ⟨rfl, rfl, hV41, (fun r h => by rw [hk41 r (by omega), hk36 r (by omega), hk24 r (by omega)])⟩)
        · refine lv_iload_n hx hb d_Model_text_65 rfl (lv_at hl 3 rfl) ?_
          exact mw_iret hx hb hr hM hS hlocks d_Model_text_66 (by rw [show mText a last S = (a, mStop 1 a S) by first | (exfalso; omega) | (unfold mText; rw [show mTxA a last S = mStop 1 a S by unfold mTxA; (first | (exfalso; omega) | (repeat (first | rw [if_pos (by first | assumption | omega)] | rw [if_neg (by first | assumption | exact zne (by assumption) | omega)])))]; (first | (exfalso; omega) | (repeat (first | rw [if_pos (by first | assumption | omega)] | rw [if_neg (by first | assumption | exact zne (by assumption) | omega)]))))]; exact ⟨rfl, rfl, hV24, (fun r h => by rw [hk24 r (by omega)])⟩)
    · refine lv_aload_n hx hb d_Model_text_32 rfl (lv_at hl 2 rfl) ?_
      refine lv_bipush (v := iI (6)) hx hb d_Model_text_33 (by decide) ?_
      refine lv_iload_n hx hb d_Model_text_35 rfl (lv_at hl 3 rfl) ?_
      refine mw_callV (i := 40) (As := [.int (iI 6), .int (iI a)]) (rest := []) ⟨hx, hb, hml, hown, hts⟩ hK hM hS rfl hV.1 rfl (c_Model_stop l D g lo L κ S hV 6 a (by omega) (by omega)) (cwV 2 hts (gV m_638 m_640 m_20 m_58 m_641) rfl rfl rfl (by decide +kernel) ⟨Nat.le_of_ble_eq_true rfl, Nat.le_of_ble_eq_true rfl⟩) rfl hl.1 rfl (Nat.le_of_ble_eq_true rfl) d_Model_text_36 ⟨Nat.le_of_ble_eq_true rfl, Nat.le_of_ble_eq_true rfl⟩ (fun v44 L44 κ44 H locs hp44 hM hS => ?_)
      obtain ⟨rfl, rfl, hV44, hk44⟩ := hp44
      have r45 := mStop_nz (x := a) (S := S) (show (6 : Int) ≠ 0 by decide)
      have r46 := congrFun (congrFun (mStop_a (y := 6) (x := a) (S := S)) 3)
      refine lv_goto (tgt := 58) hx hb d_Model_text_39 (by decide) ?_
      refine lv_aload_n hx hb d_Model_text_58 rfl (lv_at hl 2 rfl) ?_
      refine mw_get (ci := 4) (i := 40) (v := .int (iI ((mStop 6 a S).f 5))) (C := R_Model) (T := T_Model) (N := 23) hx hb hts in_Model hown hK hM hV44.1 rfl rfl 15 (by decide) (hts _ m_560) rfl d_Model_text_59 ?_
      have r47 : -1000000 ≤ (mStop 6 a S).f 5 ∧ (mStop 6 a S).f 5 ≤ 1000000 := hV44.2.2.2 5
      refine ia_if_eq (a := (mStop 6 a S).f 5) (tgt := 67) hx hb d_Model_text_62 (by decide) (by omega) (fun c48 => ?_) (fun c48 => ?_)
      · refine lv_iload_n hx hb d_Model_text_67 rfl (lv_at hl 3 rfl) ?_
        refine lv_iconst (v := iI (4)) hx hb d_Model_text_68 rfl ?_
        refine ia_add hx hb d_Model_text_69 ?_
        refine lv_lload hx hb d_Model_text_70 (lv_at hl 0 rfl) ?_
        refine ia_l2i hx hb d_Model_text_72 ?_
        refine ia_add hx hb d_Model_text_73 ?_
        refine lv_istore (lv' := [(6, .int (iI ((a + 4) + (mLow (S.a 3) a 4)))), (4, .long (lI (mLow (S.a 3) a 4))), (3, .int (iI (last - a))), (0, .ref (L 40)), (1, .int (iI a)), (2, .int (iI last))]) hx hb d_Model_text_74 hl (by decide) rfl (fun ls hl => ?_)
        refine lv_aload_n hx hb d_Model_text_76 rfl (lv_at hl 3 rfl) ?_
        refine mw_get (ci := 4) (i := 40) (v := .ref (L 44)) (C := R_Model) (T := T_Model) (N := 23) hx hb hts in_Model hown hK hM hV44.1 rfl rfl 6 (by decide) (hts _ m_551) rfl d_Model_text_77 ?_
        refine lv_iload hx hb d_Model_text_80 (lv_at hl 0 rfl) ?_
        refine lv_iconst (v := iI (1)) hx hb d_Model_text_82 rfl ?_
        refine ia_sub hx hb d_Model_text_83 ?_
        refine mw_iald (n := 4400) (f := (mStop 6 a S).a 3) (a := ((a + 4) + (mLow (S.a 3) a 4)) - 1) (i := 44) hx hb hK hM 1 (hV44.2.1 3 (by decide)) rfl rfl (by omega) (by decide) d_Model_text_84 ?_
        have r49 : 0 ≤ (mStop 6 a S).a 3 (((a + 4) + (mLow (S.a 3) a 4)) - 1 : Int).toNat ∧ (mStop 6 a S).a 3 (((a + 4) + (mLow (S.a 3) a 4)) - 1 : Int).toNat ≤ 255 := hV44.2.2.1 3 _
        refine ia_if_eq (a := (mStop 6 a S).a 3 (((a + 4) + (mLow (S.a 3) a 4)) - 1 : Int).toNat) (tgt := 98) hx hb d_Model_text_85 (by decide) (by omega) (fun c50 => ?_) (fun c50 => ?_)
        · refine lv_aload_n hx hb d_Model_text_98 rfl (lv_at hl 3 rfl) ?_
          refine mw_get (ci := 4) (i := 40) (v := .ref (L 44)) (C := R_Model) (T := T_Model) (N := 23) hx hb hts in_Model hown hK hM hV44.1 rfl rfl 6 (by decide) (hts _ m_551) rfl d_Model_text_99 ?_
          refine lv_iload_n hx hb d_Model_text_102 rfl (lv_at hl 4 rfl) ?_
          refine lv_iconst (v := iI (4)) hx hb d_Model_text_103 rfl ?_
          refine ia_add hx hb d_Model_text_104 ?_
          refine lv_iload hx hb d_Model_text_105 (lv_at hl 0 rfl) ?_
          refine lv_iconst (v := iI (1)) hx hb d_Model_text_107 rfl ?_
          refine ia_sub hx hb d_Model_text_108 ?_
          refine mw_rdS (As := [.ref (L 44), .int (iI (a + 4)), .int (iI (((a + 4) + (mLow (S.a 3) a 4)) - 1))]) (rest := []) ⟨hx, hb, hml, hown, hts⟩ hK hM hS (c_Model_badText l D g lo L κ44 ((mStop 6 a S).a 3) 44 4400 (hV44.2.1 3 (by decide)) (by decide) (hV44.2.2.1 3) (a + 4) (((a + 4) + (mLow (S.a 3) a 4)) - 1) (by omega) (by omega)) (cwS 3 hts (gS m_655 m_656 m_58 m_657) rfl rfl rfl (by decide +kernel) ⟨Nat.le_of_ble_eq_true rfl, Nat.le_of_ble_eq_true rfl⟩) rfl hl.1 rfl (Nat.le_of_ble_eq_true rfl) d_Model_text_109 ⟨Nat.le_of_ble_eq_true rfl, Nat.le_of_ble_eq_true rfl⟩ (fun H locs hM hS => ?_)
          have r51 := mBad_r ((mStop 6 a S).a 3) (a + 4) (((a + 4) + (mLow (S.a 3) a 4)) - 1)
          refine lv_istore (lv' := [(7, .int (iI (mBad ((mStop 6 a S).a 3) (a + 4) (((a + 4) + (mLow (S.a 3) a 4)) - 1)))), (6, .int (iI ((a + 4) + (mLow (S.a 3) a 4)))), (4, .long (lI (mLow (S.a 3) a 4))), (3, .int (iI (last - a))), (0, .ref (L 40)), (1, .int (iI a)), (2, .int (iI last))]) hx hb d_Model_text_112 hl (by decide) rfl (fun ls hl => ?_)
          refine lv_iload hx hb d_Model_text_114 (lv_at hl 0 rfl) ?_
          refine ia_if_lt (a := mBad ((mStop 6 a S).a 3) (a + 4) (((a + 4) + (mLow (S.a 3) a 4)) - 1)) (tgt := 126) hx hb d_Model_text_116 (by decide) (by omega) (fun c52 => ?_) (fun c52 => ?_)
          · refine lv_iload hx hb d_Model_text_126 (lv_at hl 1 rfl) ?_
            exact mw_iret hx hb hr hM hS hlocks d_Model_text_128 (by rw [show mText a last S = ((a + 4) + (mLow (S.a 3) a 4), mStop 6 a S) by first | (exfalso; omega) | (unfold mText; rw [show mTxA a last S = mStop 6 a S by unfold mTxA; (first | (exfalso; omega) | (repeat (first | rw [if_pos (by first | assumption | omega)] | rw [if_neg (by first | assumption | exact zne (by assumption) | omega)])))]; (first | (exfalso; omega) | (repeat (first | rw [if_pos (by first | assumption | omega)] | rw [if_neg (by first | assumption | exact zne (by assumption) | omega)]))); rw [show mTxB (a + 4 + mLow (S.a 3) a 4) (mStop 6 a S) = mStop 6 a S by unfold mTxB; (first | (exfalso; omega) | (repeat (first | rw [if_pos (by first | assumption | omega)] | rw [if_neg (by first | assumption | exact zne (by assumption) | omega)])))]; unfold mTxC; (first | (exfalso; omega) | (repeat (first | rw [if_pos (by first | assumption | omega)] | rw [if_neg (by first | assumption | exact zne (by assumption) | omega)]))))]; exact ⟨rfl, rfl, hV44, (fun r h => by rw [hk44 r (by omega)])⟩)
          · refine lv_aload_n hx hb d_Model_text_119 rfl (lv_at hl 4 rfl) ?_
            refine lv_iconst (v := iI (4)) hx hb d_Model_text_120 rfl ?_
            refine lv_iload hx hb d_Model_text_121 (lv_at hl 0 rfl) ?_
            refine mw_callV (i := 40) (As := [.int (iI 4), .int (iI (mBad ((mStop 6 a S).a 3) (a + 4) (((a + 4) + (mLow (S.a 3) a 4)) - 1)))]) (rest := []) ⟨hx, hb, hml, hown, hts⟩ hK hM hS rfl hV44.1 rfl (c_Model_stop l D g lo L κ44 (mStop 6 a S) hV44 4 (mBad ((mStop 6 a S).a 3) (a + 4) (((a + 4) + (mLow (S.a 3) a 4)) - 1)) (by omega) (by omega)) (cwV 2 hts (gV m_638 m_640 m_20 m_58 m_641) rfl rfl rfl (by decide +kernel) ⟨Nat.le_of_ble_eq_true rfl, Nat.le_of_ble_eq_true rfl⟩) rfl hl.1 rfl (Nat.le_of_ble_eq_true rfl) d_Model_text_123 ⟨Nat.le_of_ble_eq_true rfl, Nat.le_of_ble_eq_true rfl⟩ (fun v53 L53 κ53 H locs hp53 hM hS => ?_)
            obtain ⟨rfl, rfl, hV53, hk53⟩ := hp53
            have r54 := mStop_nz (x := mBad ((mStop 6 a S).a 3) (a + 4) (((a + 4) + (mLow (S.a 3) a 4)) - 1)) (S := mStop 6 a S) (show (4 : Int) ≠ 0 by decide)
            have r55 := congrFun (congrFun (mStop_a (y := 4) (x := mBad ((mStop 6 a S).a 3) (a + 4) (((a + 4) + (mLow (S.a 3) a 4)) - 1)) (S := mStop 6 a S)) 3)
            refine lv_iload hx hb d_Model_text_126 (lv_at hl 1 rfl) ?_
            exact mw_iret hx hb hr hM hS hlocks d_Model_text_128 (by rw [show mText a last S = ((a + 4) + (mLow (S.a 3) a 4), mStop 4 (mBad ((mStop 6 a S).a 3) (a + 4) (((a + 4) + (mLow (S.a 3) a 4)) - 1)) (mStop 6 a S)) by first | (exfalso; omega) | (unfold mText; rw [show mTxA a last S = mStop 6 a S by unfold mTxA; (first | (exfalso; omega) | (repeat (first | rw [if_pos (by first | assumption | omega)] | rw [if_neg (by first | assumption | exact zne (by assumption) | omega)])))]; (first | (exfalso; omega) | (repeat (first | rw [if_pos (by first | assumption | omega)] | rw [if_neg (by first | assumption | exact zne (by assumption) | omega)]))); rw [show mTxB (a + 4 + mLow (S.a 3) a 4) (mStop 6 a S) = mStop 6 a S by unfold mTxB; (first | (exfalso; omega) | (repeat (first | rw [if_pos (by first | assumption | omega)] | rw [if_neg (by first | assumption | exact zne (by assumption) | omega)])))]; unfold mTxC; (first | (exfalso; omega) | (repeat (first | rw [if_pos (by first | assumption | omega)] | rw [if_neg (by first | assumption | exact zne (by assumption) | omega)]))))]; exact ⟨rfl, rfl, hV53, (fun r h => by rw [hk53 r (by omega), hk44 r (by omega)])⟩)
        · refine lv_aload_n hx hb d_Model_text_88 rfl (lv_at hl 3 rfl) ?_
          refine lv_bipush (v := iI (6)) hx hb d_Model_text_89 (by decide) ?_
          refine lv_iload hx hb d_Model_text_91 (lv_at hl 0 rfl) ?_
          refine lv_iconst (v := iI (1)) hx hb d_Model_text_93 rfl ?_
          refine ia_sub hx hb d_Model_text_94 ?_
          refine mw_callV (i := 40) (As := [.int (iI 6), .int (iI (((a + 4) + (mLow (S.a 3) a 4)) - 1))]) (rest := []) ⟨hx, hb, hml, hown, hts⟩ hK hM hS rfl hV44.1 rfl (c_Model_stop l D g lo L κ44 (mStop 6 a S) hV44 6 (((a + 4) + (mLow (S.a 3) a 4)) - 1) (by omega) (by omega)) (cwV 2 hts (gV m_638 m_640 m_20 m_58 m_641) rfl rfl rfl (by decide +kernel) ⟨Nat.le_of_ble_eq_true rfl, Nat.le_of_ble_eq_true rfl⟩) rfl hl.1 rfl (Nat.le_of_ble_eq_true rfl) d_Model_text_95 ⟨Nat.le_of_ble_eq_true rfl, Nat.le_of_ble_eq_true rfl⟩ (fun v56 L56 κ56 H locs hp56 hM hS => ?_)
          obtain ⟨rfl, rfl, hV56, hk56⟩ := hp56
          have r57 := mStop_nz (x := ((a + 4) + (mLow (S.a 3) a 4)) - 1) (S := mStop 6 a S) (show (6 : Int) ≠ 0 by decide)
          have r58 := congrFun (congrFun (mStop_a (y := 6) (x := ((a + 4) + (mLow (S.a 3) a 4)) - 1) (S := mStop 6 a S)) 3)
          refine lv_aload_n hx hb d_Model_text_98 rfl (lv_at hl 3 rfl) ?_
          refine mw_get (ci := 4) (i := 40) (v := .ref (L 44)) (C := R_Model) (T := T_Model) (N := 23) hx hb hts in_Model hown hK hM hV56.1 rfl rfl 6 (by decide) (hts _ m_551) rfl d_Model_text_99 ?_
          refine lv_iload_n hx hb d_Model_text_102 rfl (lv_at hl 4 rfl) ?_
          refine lv_iconst (v := iI (4)) hx hb d_Model_text_103 rfl ?_
          refine ia_add hx hb d_Model_text_104 ?_
          refine lv_iload hx hb d_Model_text_105 (lv_at hl 0 rfl) ?_
          refine lv_iconst (v := iI (1)) hx hb d_Model_text_107 rfl ?_
          refine ia_sub hx hb d_Model_text_108 ?_
          refine mw_rdS (As := [.ref (L 44), .int (iI (a + 4)), .int (iI (((a + 4) + (mLow (S.a 3) a 4)) - 1))]) (rest := []) ⟨hx, hb, hml, hown, hts⟩ hK hM hS (c_Model_badText l D g lo L κ56 ((mStop 6 (((a + 4) + (mLow (S.a 3) a 4)) - 1) (mStop 6 a S)).a 3) 44 4400 (hV56.2.1 3 (by decide)) (by decide) (hV56.2.2.1 3) (a + 4) (((a + 4) + (mLow (S.a 3) a 4)) - 1) (by omega) (by omega)) (cwS 3 hts (gS m_655 m_656 m_58 m_657) rfl rfl rfl (by decide +kernel) ⟨Nat.le_of_ble_eq_true rfl, Nat.le_of_ble_eq_true rfl⟩) rfl hl.1 rfl (Nat.le_of_ble_eq_true rfl) d_Model_text_109 ⟨Nat.le_of_ble_eq_true rfl, Nat.le_of_ble_eq_true rfl⟩ (fun H locs hM hS => ?_)
          have r59 := mBad_r ((mStop 6 (((a + 4) + (mLow (S.a 3) a 4)) - 1) (mStop 6 a S)).a 3) (a + 4) (((a + 4) + (mLow (S.a 3) a 4)) - 1)
          refine lv_istore (lv' := [(7, .int (iI (mBad ((mStop 6 (((a + 4) + (mLow (S.a 3) a 4)) - 1) (mStop 6 a S)).a 3) (a + 4) (((a + 4) + (mLow (S.a 3) a 4)) - 1)))), (6, .int (iI ((a + 4) + (mLow (S.a 3) a 4)))), (4, .long (lI (mLow (S.a 3) a 4))), (3, .int (iI (last - a))), (0, .ref (L 40)), (1, .int (iI a)), (2, .int (iI last))]) hx hb d_Model_text_112 hl (by decide) rfl (fun ls hl => ?_)
          refine lv_iload hx hb d_Model_text_114 (lv_at hl 0 rfl) ?_
          refine ia_if_lt (a := mBad ((mStop 6 (((a + 4) + (mLow (S.a 3) a 4)) - 1) (mStop 6 a S)).a 3) (a + 4) (((a + 4) + (mLow (S.a 3) a 4)) - 1)) (tgt := 126) hx hb d_Model_text_116 (by decide) (by omega) (fun c60 => ?_) (fun c60 => ?_)
          · refine lv_iload hx hb d_Model_text_126 (lv_at hl 1 rfl) ?_
            exact mw_iret hx hb hr hM hS hlocks d_Model_text_128 (by rw [show mText a last S = ((a + 4) + (mLow (S.a 3) a 4), mStop 6 (((a + 4) + (mLow (S.a 3) a 4)) - 1) (mStop 6 a S)) by first | (exfalso; omega) | (unfold mText; rw [show mTxA a last S = mStop 6 a S by unfold mTxA; (first | (exfalso; omega) | (repeat (first | rw [if_pos (by first | assumption | omega)] | rw [if_neg (by first | assumption | exact zne (by assumption) | omega)])))]; (first | (exfalso; omega) | (repeat (first | rw [if_pos (by first | assumption | omega)] | rw [if_neg (by first | assumption | exact zne (by assumption) | omega)]))); rw [show mTxB (a + 4 + mLow (S.a 3) a 4) (mStop 6 a S) = mStop 6 (((a + 4) + (mLow (S.a 3) a 4)) - 1) (mStop 6 a S) by unfold mTxB; (first | (exfalso; omega) | (repeat (first | rw [if_pos (by first | assumption | omega)] | rw [if_neg (by first | assumption | exact zne (by assumption) | omega)])))]; unfold mTxC; (first | (exfalso; omega) | (repeat (first | rw [if_pos (by first | assumption | omega)] | rw [if_neg (by first | assumption | exact zne (by assumption) | omega)]))))]; exact ⟨rfl, rfl, hV56, (fun r h => by rw [hk56 r (by omega), hk44 r (by omega)])⟩)
          · refine lv_aload_n hx hb d_Model_text_119 rfl (lv_at hl 4 rfl) ?_
            refine lv_iconst (v := iI (4)) hx hb d_Model_text_120 rfl ?_
            refine lv_iload hx hb d_Model_text_121 (lv_at hl 0 rfl) ?_
            refine mw_callV (i := 40) (As := [.int (iI 4), .int (iI (mBad ((mStop 6 (((a + 4) + (mLow (S.a 3) a 4)) - 1) (mStop 6 a S)).a 3) (a + 4) (((a + 4) + (mLow (S.a 3) a 4)) - 1)))]) (rest := []) ⟨hx, hb, hml, hown, hts⟩ hK hM hS rfl hV56.1 rfl (c_Model_stop l D g lo L κ56 (mStop 6 (((a + 4) + (mLow (S.a 3) a 4)) - 1) (mStop 6 a S)) hV56 4 (mBad ((mStop 6 (((a + 4) + (mLow (S.a 3) a 4)) - 1) (mStop 6 a S)).a 3) (a + 4) (((a + 4) + (mLow (S.a 3) a 4)) - 1)) (by omega) (by omega)) (cwV 2 hts (gV m_638 m_640 m_20 m_58 m_641) rfl rfl rfl (by decide +kernel) ⟨Nat.le_of_ble_eq_true rfl, Nat.le_of_ble_eq_true rfl⟩) rfl hl.1 rfl (Nat.le_of_ble_eq_true rfl) d_Model_text_123 ⟨Nat.le_of_ble_eq_true rfl, Nat.le_of_ble_eq_true rfl⟩ (fun v61 L61 κ61 H locs hp61 hM hS => ?_)
            obtain ⟨rfl, rfl, hV61, hk61⟩ := hp61
            have r62 := mStop_nz (x := mBad ((mStop 6 (((a + 4) + (mLow (S.a 3) a 4)) - 1) (mStop 6 a S)).a 3) (a + 4) (((a + 4) + (mLow (S.a 3) a 4)) - 1)) (S := mStop 6 (((a + 4) + (mLow (S.a 3) a 4)) - 1) (mStop 6 a S)) (show (4 : Int) ≠ 0 by decide)
            have r63 := congrFun (congrFun (mStop_a (y := 4) (x := mBad ((mStop 6 (((a + 4) + (mLow (S.a 3) a 4)) - 1) (mStop 6 a S)).a 3) (a + 4) (((a + 4) + (mLow (S.a 3) a 4)) - 1)) (S := mStop 6 (((a + 4) + (mLow (S.a 3) a 4)) - 1) (mStop 6 a S))) 3)
            refine lv_iload hx hb d_Model_text_126 (lv_at hl 1 rfl) ?_
            exact mw_iret hx hb hr hM hS hlocks d_Model_text_128 (by rw [show mText a last S = ((a + 4) + (mLow (S.a 3) a 4), mStop 4 (mBad ((mStop 6 (((a + 4) + (mLow (S.a 3) a 4)) - 1) (mStop 6 a S)).a 3) (a + 4) (((a + 4) + (mLow (S.a 3) a 4)) - 1)) (mStop 6 (((a + 4) + (mLow (S.a 3) a 4)) - 1) (mStop 6 a S))) by first | (exfalso; omega) | (unfold mText; rw [show mTxA a last S = mStop 6 a S by unfold mTxA; (first | (exfalso; omega) | (repeat (first | rw [if_pos (by first | assumption | omega)] | rw [if_neg (by first | assumption | exact zne (by assumption) | omega)])))]; (first | (exfalso; omega) | (repeat (first | rw [if_pos (by first | assumption | omega)] | rw [if_neg (by first | assumption | exact zne (by assumption) | omega)]))); rw [show mTxB (a + 4 + mLow (S.a 3) a 4) (mStop 6 a S) = mStop 6 (((a + 4) + (mLow (S.a 3) a 4)) - 1) (mStop 6 a S) by unfold mTxB; (first | (exfalso; omega) | (repeat (first | rw [if_pos (by first | assumption | omega)] | rw [if_neg (by first | assumption | exact zne (by assumption) | omega)])))]; unfold mTxC; (first | (exfalso; omega) | (repeat (first | rw [if_pos (by first | assumption | omega)] | rw [if_neg (by first | assumption | exact zne (by assumption) | omega)]))))]; exact ⟨rfl, rfl, hV61, (fun r h => by rw [hk61 r (by omega), hk56 r (by omega), hk44 r (by omega)])⟩)
      · refine lv_iload_n hx hb d_Model_text_65 rfl (lv_at hl 3 rfl) ?_
        exact mw_iret hx hb hr hM hS hlocks d_Model_text_66 (by rw [show mText a last S = (a, mStop 6 a S) by first | (exfalso; omega) | (unfold mText; rw [show mTxA a last S = mStop 6 a S by unfold mTxA; (first | (exfalso; omega) | (repeat (first | rw [if_pos (by first | assumption | omega)] | rw [if_neg (by first | assumption | exact zne (by assumption) | omega)])))]; (first | (exfalso; omega) | (repeat (first | rw [if_pos (by first | assumption | omega)] | rw [if_neg (by first | assumption | exact zne (by assumption) | omega)]))))]; exact ⟨rfl, rfl, hV44, (fun r h => by rw [hk44 r (by omega)])⟩)
  · refine lv_aload_n hx hb d_Model_text_9 rfl (lv_at hl 1 rfl) ?_
    refine lv_iconst (v := iI (1)) hx hb d_Model_text_10 rfl ?_
    refine lv_iload_n hx hb d_Model_text_11 rfl (lv_at hl 2 rfl) ?_
    refine mw_callV (i := 40) (As := [.int (iI 1), .int (iI a)]) (rest := []) ⟨hx, hb, hml, hown, hts⟩ hK hM hS rfl hV.1 rfl (c_Model_stop l D g lo L κ S hV 1 a (by omega) (by omega)) (cwV 2 hts (gV m_638 m_640 m_20 m_58 m_641) rfl rfl rfl (by decide +kernel) ⟨Nat.le_of_ble_eq_true rfl, Nat.le_of_ble_eq_true rfl⟩) rfl hl.1 rfl (Nat.le_of_ble_eq_true rfl) d_Model_text_12 ⟨Nat.le_of_ble_eq_true rfl, Nat.le_of_ble_eq_true rfl⟩ (fun v64 L64 κ64 H locs hp64 hM hS => ?_)
    obtain ⟨rfl, rfl, hV64, hk64⟩ := hp64
    have r65 := mStop_nz (x := a) (S := S) (show (1 : Int) ≠ 0 by decide)
    have r66 := congrFun (congrFun (mStop_a (y := 1) (x := a) (S := S)) 3)
    refine lv_iload_n hx hb d_Model_text_15 rfl (lv_at hl 2 rfl) ?_
    exact mw_iret hx hb hr hM hS hlocks d_Model_text_16 (by rw [show mText a last S = (a, mStop 1 a S) by first | (exfalso; omega) | (unfold mText; (first | (exfalso; omega) | (repeat (first | rw [if_pos (by first | assumption | omega)] | rw [if_neg (by first | assumption | exact zne (by assumption) | omega)]))))]; exact ⟨rfl, rfl, hV64, (fun r h => by rw [hk64 r (by omega)])⟩)
set_option maxHeartbeats 4000000 in
set_option maxRecDepth 100000 in
theorem c_Model_value (l : Launch) (D : va_G) (g : Nat → ClassId) (lo : Nat) (L : Nat → Nat) (κ : Nat → Option va_E) (S : MS) (hV : mds g L κ S) (k a last : Int) (hk0 : -1000 ≤ k ∧ k ≤ 1000) (ha : 0 ≤ a ∧ a ≤ 4300) (hlast : 0 ≤ last ∧ last ≤ 4300) : Met l y_Model_value w_Model_value ({ frames := 3, cells := 0, slots := 0, locals := 77 }) (mwP D vwCl (tyL g) lo L κ [.ref (L 40), .int (iI k), .int (iI a), .int (iI last)]) (mwQ D vwCl lo (mdQ g L κ (some (.int (iI (mValue k a last S).1))) (mValue k a last S).2)) 0 0 (fun q => lo ≤ q) := by
  refine Met.ofW (cc := b_Model_value) (maxL := 6) (ret := (Option.some Jvm.ClassFile.FieldType.int)) (by decide) rfl ?_
  intro p e s m args below meth c s₁ B hml hpre
  obtain ⟨hargs, hM, hK⟩ := hpre
  have hx := B.exec
  have hb := B.bytes
  have hr := B.returns
  have hts : ∀ w ∈ wA, w.before args s = true := fun w h => atoms_spec (ws := w_Model_value) B.pre w (List.mem_cons_of_mem _ h)
  have hown : s.vm.findClass R_Model = some m.cls := findClass_of_methodNamed B.named
  have hlocks := B.notSynchronized
  have hS : va_S (fun q => lo ≤ q) s.heap s.heap [] := va_S.rf
  obtain ⟨ls, hls, hl⟩ := mw_entry (m := m) [.ref (L 40), .int (iI k), .int (iI a), .int (iI last)] (n := 6) (Nat.le_of_ble_eq_true rfl) hargs
  refine W.eq hls ?_
  have hl : lv_has ls 6 [(0, .ref (L 40)), (1, .int (iI k)), (2, .int (iI a)), (3, .int (iI last))] := hl
  refine lv_iload_n hx hb d_Model_value_0 rfl (lv_at hl 3 rfl) ?_
  refine lv_iload_n hx hb d_Model_value_1 rfl (lv_at hl 2 rfl) ?_
  refine ia_sub hx hb d_Model_value_2 ?_
  refine lv_istore (lv' := [(4, .int (iI (last - a))), (0, .ref (L 40)), (1, .int (iI k)), (2, .int (iI a)), (3, .int (iI last))]) hx hb d_Model_value_3 hl (by decide) rfl (fun ls hl => ?_)
  refine lv_iload_n hx hb d_Model_value_5 rfl (lv_at hl 2 rfl) ?_
  refine lv_bipush (v := iI (16)) hx hb d_Model_value_6 (by decide) ?_
  refine ia_icmp_eq (a := k) (b := 16) (tgt := 23) hx hb d_Model_value_8 (by decide) (by omega) (by omega) (fun c1 => ?_) (fun c1 => ?_)
  · refine lv_iload_n hx hb d_Model_value_23 rfl (lv_at hl 2 rfl) ?_
    refine lv_bipush (v := iI (16)) hx hb d_Model_value_24 (by decide) ?_
    refine ia_icmp_ne (a := k) (b := 16) (tgt := 33) hx hb d_Model_value_26 (by decide) (by omega) (by omega) (fun c2 => ?_) (fun c2 => ?_)
    · refine lv_iload_n hx hb d_Model_value_33 rfl (lv_at hl 2 rfl) ?_
      refine lv_bipush (v := iI (18)) hx hb d_Model_value_34 (by decide) ?_
      refine ia_icmp_ne (a := k) (b := 18) (tgt := 44) hx hb d_Model_value_36 (by decide) (by omega) (by omega) (fun c3 => ?_) (fun c3 => ?_)
      · refine lv_iconst (v := iI (1)) hx hb d_Model_value_44 rfl ?_
        refine lv_istore (lv' := [(5, .int (iI 1)), (4, .int (iI (last - a))), (0, .ref (L 40)), (1, .int (iI k)), (2, .int (iI a)), (3, .int (iI last))]) hx hb d_Model_value_45 hl (by decide) rfl (fun ls hl => ?_)
        refine lv_iload hx hb d_Model_value_47 (lv_at hl 1 rfl) ?_
        refine lv_iload hx hb d_Model_value_49 (lv_at hl 0 rfl) ?_
        refine ia_icmp_ge (a := last - a) (b := 1) (tgt := 63) hx hb d_Model_value_51 (by decide) (by omega) (by omega) (fun c4 => ?_) (fun c4 => ?_)
        · refine lv_iload_n hx hb d_Model_value_63 rfl (lv_at hl 3 rfl) ?_
          refine lv_bipush (v := iI (8)) hx hb d_Model_value_64 (by decide) ?_
          refine ia_icmp_ne (a := k) (b := 8) (tgt := 85) hx hb d_Model_value_66 (by decide) (by omega) (by omega) (fun c5 => ?_) (fun c5 => ?_)
          · refine lv_iload_n hx hb d_Model_value_85 rfl (lv_at hl 4 rfl) ?_
            refine lv_iload hx hb d_Model_value_86 (lv_at hl 0 rfl) ?_
            refine ia_add hx hb d_Model_value_88 ?_
            exact mw_iret hx hb hr hM hS hlocks d_Model_value_89 (by rw [show mValue k a last S = (a + 1, S) by first | (exfalso; omega) | (unfold mValue; rw [if_pos (by omega)]; rw [show mWid k = 1 by unfold mWid; (first | (exfalso; omega) | (repeat (first | rw [if_pos (by first | assumption | omega)] | rw [if_neg (by first | assumption | exact zne (by assumption) | omega)])))]; unfold mValN; rw [show mWid k = 1 by unfold mWid; (first | (exfalso; omega) | (repeat (first | rw [if_pos (by first | assumption | omega)] | rw [if_neg (by first | assumption | exact zne (by assumption) | omega)])))]; (first | (exfalso; omega) | (repeat (first | rw [if_pos (by first | assumption | omega)] | rw [if_neg (by first | assumption | exact zne (by assumption) | omega)]))))]; exact ⟨rfl, rfl, hV, (fun r h => rfl)⟩)
          · refine lv_aload_n hx hb d_Model_value_69 rfl (lv_at hl 2 rfl) ?_
            refine mw_get (ci := 4) (i := 40) (v := .ref (L 44)) (C := R_Model) (T := T_Model) (N := 23) hx hb hts in_Model hown hK hM hV.1 rfl rfl 6 (by decide) (hts _ m_551) rfl d_Model_value_70 ?_
            refine lv_iload_n hx hb d_Model_value_73 rfl (lv_at hl 4 rfl) ?_
            refine mw_iald (n := 4400) (f := S.a 3) (a := a) (i := 44) hx hb hK hM 1 (hV.2.1 3 (by decide)) rfl rfl (by omega) (by decide) d_Model_value_74 ?_
            have r6 : 0 ≤ S.a 3 (a : Int).toNat ∧ S.a 3 (a : Int).toNat ≤ 255 := hV.2.2.1 3 _
            refine lv_iconst (v := iI (1)) hx hb d_Model_value_75 rfl ?_
            refine ia_icmp_le (a := S.a 3 (a : Int).toNat) (b := 1) (tgt := 85) hx hb d_Model_value_76 (by decide) (by omega) (by omega) (fun c7 => ?_) (fun c7 => ?_)
            · refine lv_iload_n hx hb d_Model_value_85 rfl (lv_at hl 4 rfl) ?_
              refine lv_iload hx hb d_Model_value_86 (lv_at hl 0 rfl) ?_
              refine ia_add hx hb d_Model_value_88 ?_
              exact mw_iret hx hb hr hM hS hlocks d_Model_value_89 (by rw [show mValue k a last S = (a + 1, S) by first | (exfalso; omega) | (unfold mValue; rw [if_pos (by omega)]; rw [show mWid k = 1 by unfold mWid; (first | (exfalso; omega) | (repeat (first | rw [if_pos (by first | assumption | omega)] | rw [if_neg (by first | assumption | exact zne (by assumption) | omega)])))]; unfold mValN; rw [show mWid k = 1 by unfold mWid; (first | (exfalso; omega) | (repeat (first | rw [if_pos (by first | assumption | omega)] | rw [if_neg (by first | assumption | exact zne (by assumption) | omega)])))]; (first | (exfalso; omega) | (repeat (first | rw [if_pos (by first | assumption | omega)] | rw [if_neg (by first | assumption | exact zne (by assumption) | omega)]))))]; exact ⟨rfl, rfl, hV, (fun r h => rfl)⟩)
            · refine lv_aload_n hx hb d_Model_value_79 rfl (lv_at hl 2 rfl) ?_
              refine lv_iconst (v := iI (5)) hx hb d_Model_value_80 rfl ?_
              refine lv_iload_n hx hb d_Model_value_81 rfl (lv_at hl 4 rfl) ?_
              refine mw_callV (i := 40) (As := [.int (iI 5), .int (iI a)]) (rest := []) ⟨hx, hb, hml, hown, hts⟩ hK hM hS rfl hV.1 rfl (c_Model_stop l D g lo L κ S hV 5 a (by omega) (by omega)) (cwV 2 hts (gV m_638 m_640 m_20 m_58 m_641) rfl rfl rfl (by decide +kernel) ⟨Nat.le_of_ble_eq_true rfl, Nat.le_of_ble_eq_true rfl⟩) rfl hl.1 rfl (Nat.le_of_ble_eq_true rfl) d_Model_value_82 ⟨Nat.le_of_ble_eq_true rfl, Nat.le_of_ble_eq_true rfl⟩ (fun v8 L8 κ8 H locs hp8 hM hS => ?_)
              obtain ⟨rfl, rfl, hV8, hk8⟩ := hp8
              have r9 := mStop_nz (x := a) (S := S) (show (5 : Int) ≠ 0 by decide)
              have r10 := congrFun (congrFun (mStop_a (y := 5) (x := a) (S := S)) 3)
              refine lv_iload_n hx hb d_Model_value_85 rfl (lv_at hl 4 rfl) ?_
              refine lv_iload hx hb d_Model_value_86 (lv_at hl 0 rfl) ?_
              refine ia_add hx hb d_Model_value_88 ?_
              exact mw_iret hx hb hr hM hS hlocks d_Model_value_89 (by rw [show mValue k a last S = (a + 1, mStop 5 a S) by first | (exfalso; omega) | (unfold mValue; rw [if_pos (by omega)]; rw [show mWid k = 1 by unfold mWid; (first | (exfalso; omega) | (repeat (first | rw [if_pos (by first | assumption | omega)] | rw [if_neg (by first | assumption | exact zne (by assumption) | omega)])))]; unfold mValN; rw [show mWid k = 1 by unfold mWid; (first | (exfalso; omega) | (repeat (first | rw [if_pos (by first | assumption | omega)] | rw [if_neg (by first | assumption | exact zne (by assumption) | omega)])))]; (first | (exfalso; omega) | (repeat (first | rw [if_pos (by first | assumption | omega)] | rw [if_neg (by first | assumption | exact zne (by assumption) | omega)]))))]; exact ⟨rfl, rfl, hV8, (fun r h => by rw [hk8 r (by omega)])⟩)
        · refine lv_aload_n hx hb d_Model_value_54 rfl (lv_at hl 2 rfl) ?_
          refine lv_iconst (v := iI (1)) hx hb d_Model_value_55 rfl ?_
          refine lv_iload_n hx hb d_Model_value_56 rfl (lv_at hl 4 rfl) ?_
          refine mw_callV (i := 40) (As := [.int (iI 1), .int (iI a)]) (rest := []) ⟨hx, hb, hml, hown, hts⟩ hK hM hS rfl hV.1 rfl (c_Model_stop l D g lo L κ S hV 1 a (by omega) (by omega)) (cwV 2 hts (gV m_638 m_640 m_20 m_58 m_641) rfl rfl rfl (by decide +kernel) ⟨Nat.le_of_ble_eq_true rfl, Nat.le_of_ble_eq_true rfl⟩) rfl hl.1 rfl (Nat.le_of_ble_eq_true rfl) d_Model_value_57 ⟨Nat.le_of_ble_eq_true rfl, Nat.le_of_ble_eq_true rfl⟩ (fun v11 L11 κ11 H locs hp11 hM hS => ?_)
          obtain ⟨rfl, rfl, hV11, hk11⟩ := hp11
          have r12 := mStop_nz (x := a) (S := S) (show (1 : Int) ≠ 0 by decide)
          have r13 := congrFun (congrFun (mStop_a (y := 1) (x := a) (S := S)) 3)
          refine lv_goto (tgt := 85) hx hb d_Model_value_60 (by decide) ?_
          refine lv_iload_n hx hb d_Model_value_85 rfl (lv_at hl 4 rfl) ?_
          refine lv_iload hx hb d_Model_value_86 (lv_at hl 0 rfl) ?_
          refine ia_add hx hb d_Model_value_88 ?_
          exact mw_iret hx hb hr hM hS hlocks d_Model_value_89 (by rw [show mValue k a last S = (a + 1, mStop 1 a S) by first | (exfalso; omega) | (unfold mValue; rw [if_pos (by omega)]; rw [show mWid k = 1 by unfold mWid; (first | (exfalso; omega) | (repeat (first | rw [if_pos (by first | assumption | omega)] | rw [if_neg (by first | assumption | exact zne (by assumption) | omega)])))]; unfold mValN; rw [show mWid k = 1 by unfold mWid; (first | (exfalso; omega) | (repeat (first | rw [if_pos (by first | assumption | omega)] | rw [if_neg (by first | assumption | exact zne (by assumption) | omega)])))]; (first | (exfalso; omega) | (repeat (first | rw [if_pos (by first | assumption | omega)] | rw [if_neg (by first | assumption | exact zne (by assumption) | omega)]))))]; exact ⟨rfl, rfl, hV11, (fun r h => by rw [hk11 r (by omega)])⟩)
      · refine lv_bipush (v := iI (8)) hx hb d_Model_value_39 (by decide) ?_
        refine lv_goto (tgt := 45) hx hb d_Model_value_41 (by decide) ?_
        refine lv_istore (lv' := [(5, .int (iI 8)), (4, .int (iI (last - a))), (0, .ref (L 40)), (1, .int (iI k)), (2, .int (iI a)), (3, .int (iI last))]) hx hb d_Model_value_45 hl (by decide) rfl (fun ls hl => ?_)
        refine lv_iload hx hb d_Model_value_47 (lv_at hl 1 rfl) ?_
        refine lv_iload hx hb d_Model_value_49 (lv_at hl 0 rfl) ?_
        refine ia_icmp_ge (a := last - a) (b := 8) (tgt := 63) hx hb d_Model_value_51 (by decide) (by omega) (by omega) (fun c14 => ?_) (fun c14 => ?_)
        · refine lv_iload_n hx hb d_Model_value_63 rfl (lv_at hl 3 rfl) ?_
          refine lv_bipush (v := iI (8)) hx hb d_Model_value_64 (by decide) ?_
          refine ia_icmp_ne (a := k) (b := 8) (tgt := 85) hx hb d_Model_value_66 (by decide) (by omega) (by omega) (fun c15 => ?_) (fun c15 => ?_)
          · refine lv_iload_n hx hb d_Model_value_85 rfl (lv_at hl 4 rfl) ?_
            refine lv_iload hx hb d_Model_value_86 (lv_at hl 0 rfl) ?_
            refine ia_add hx hb d_Model_value_88 ?_
            exact mw_iret hx hb hr hM hS hlocks d_Model_value_89 (by rw [show mValue k a last S = (a + 8, S) by first | (exfalso; omega) | (unfold mValue; rw [if_pos (by omega)]; rw [show mWid k = 8 by unfold mWid; (first | (exfalso; omega) | (repeat (first | rw [if_pos (by first | assumption | omega)] | rw [if_neg (by first | assumption | exact zne (by assumption) | omega)])))]; unfold mValN; rw [show mWid k = 8 by unfold mWid; (first | (exfalso; omega) | (repeat (first | rw [if_pos (by first | assumption | omega)] | rw [if_neg (by first | assumption | exact zne (by assumption) | omega)])))]; (first | (exfalso; omega) | (repeat (first | rw [if_pos (by first | assumption | omega)] | rw [if_neg (by first | assumption | exact zne (by assumption) | omega)]))))]; exact ⟨rfl, rfl, hV, (fun r h => rfl)⟩)
          · refine lv_aload_n hx hb d_Model_value_69 rfl (lv_at hl 2 rfl) ?_
            refine mw_get (ci := 4) (i := 40) (v := .ref (L 44)) (C := R_Model) (T := T_Model) (N := 23) hx hb hts in_Model hown hK hM hV.1 rfl rfl 6 (by decide) (hts _ m_551) rfl d_Model_value_70 ?_
            refine lv_iload_n hx hb d_Model_value_73 rfl (lv_at hl 4 rfl) ?_
            refine mw_iald (n := 4400) (f := S.a 3) (a := a) (i := 44) hx hb hK hM 1 (hV.2.1 3 (by decide)) rfl rfl (by omega) (by decide) d_Model_value_74 ?_
            have r16 : 0 ≤ S.a 3 (a : Int).toNat ∧ S.a 3 (a : Int).toNat ≤ 255 := hV.2.2.1 3 _
            refine lv_iconst (v := iI (1)) hx hb d_Model_value_75 rfl ?_
            refine ia_icmp_le (a := S.a 3 (a : Int).toNat) (b := 1) (tgt := 85) hx hb d_Model_value_76 (by decide) (by omega) (by omega) (fun c17 => ?_) (fun c17 => ?_)
            · refine lv_iload_n hx hb d_Model_value_85 rfl (lv_at hl 4 rfl) ?_
              refine lv_iload hx hb d_Model_value_86 (lv_at hl 0 rfl) ?_
              refine ia_add hx hb d_Model_value_88 ?_
              exact mw_iret hx hb hr hM hS hlocks d_Model_value_89 (by rw [show mValue k a last S = (a + 8, S) by first | (exfalso; omega) | (unfold mValue; rw [if_pos (by omega)]; rw [show mWid k = 8 by unfold mWid; (first | (exfalso; omega) | (repeat (first | rw [if_pos (by first | assumption | omega)] | rw [if_neg (by first | assumption | exact zne (by assumption) | omega)])))]; unfold mValN; rw [show mWid k = 8 by unfold mWid; (first | (exfalso; omega) | (repeat (first | rw [if_pos (by first | assumption | omega)] | rw [if_neg (by first | assumption | exact zne (by assumption) | omega)])))]; (first | (exfalso; omega) | (repeat (first | rw [if_pos (by first | assumption | omega)] | rw [if_neg (by first | assumption | exact zne (by assumption) | omega)]))))]; exact ⟨rfl, rfl, hV, (fun r h => rfl)⟩)
            · refine lv_aload_n hx hb d_Model_value_79 rfl (lv_at hl 2 rfl) ?_
              refine lv_iconst (v := iI (5)) hx hb d_Model_value_80 rfl ?_
              refine lv_iload_n hx hb d_Model_value_81 rfl (lv_at hl 4 rfl) ?_
              refine mw_callV (i := 40) (As := [.int (iI 5), .int (iI a)]) (rest := []) ⟨hx, hb, hml, hown, hts⟩ hK hM hS rfl hV.1 rfl (c_Model_stop l D g lo L κ S hV 5 a (by omega) (by omega)) (cwV 2 hts (gV m_638 m_640 m_20 m_58 m_641) rfl rfl rfl (by decide +kernel) ⟨Nat.le_of_ble_eq_true rfl, Nat.le_of_ble_eq_true rfl⟩) rfl hl.1 rfl (Nat.le_of_ble_eq_true rfl) d_Model_value_82 ⟨Nat.le_of_ble_eq_true rfl, Nat.le_of_ble_eq_true rfl⟩ (fun v18 L18 κ18 H locs hp18 hM hS => ?_)
              obtain ⟨rfl, rfl, hV18, hk18⟩ := hp18
              have r19 := mStop_nz (x := a) (S := S) (show (5 : Int) ≠ 0 by decide)
              have r20 := congrFun (congrFun (mStop_a (y := 5) (x := a) (S := S)) 3)
              refine lv_iload_n hx hb d_Model_value_85 rfl (lv_at hl 4 rfl) ?_
              refine lv_iload hx hb d_Model_value_86 (lv_at hl 0 rfl) ?_
              refine ia_add hx hb d_Model_value_88 ?_
              exact mw_iret hx hb hr hM hS hlocks d_Model_value_89 (by rw [show mValue k a last S = (a + 8, mStop 5 a S) by first | (exfalso; omega) | (unfold mValue; rw [if_pos (by omega)]; rw [show mWid k = 8 by unfold mWid; (first | (exfalso; omega) | (repeat (first | rw [if_pos (by first | assumption | omega)] | rw [if_neg (by first | assumption | exact zne (by assumption) | omega)])))]; unfold mValN; rw [show mWid k = 8 by unfold mWid; (first | (exfalso; omega) | (repeat (first | rw [if_pos (by first | assumption | omega)] | rw [if_neg (by first | assumption | exact zne (by assumption) | omega)])))]; (first | (exfalso; omega) | (repeat (first | rw [if_pos (by first | assumption | omega)] | rw [if_neg (by first | assumption | exact zne (by assumption) | omega)]))))]; exact ⟨rfl, rfl, hV18, (fun r h => by rw [hk18 r (by omega)])⟩)
        · refine lv_aload_n hx hb d_Model_value_54 rfl (lv_at hl 2 rfl) ?_
          refine lv_iconst (v := iI (1)) hx hb d_Model_value_55 rfl ?_
          refine lv_iload_n hx hb d_Model_value_56 rfl (lv_at hl 4 rfl) ?_
          refine mw_callV (i := 40) (As := [.int (iI 1), .int (iI a)]) (rest := []) ⟨hx, hb, hml, hown, hts⟩ hK hM hS rfl hV.1 rfl (c_Model_stop l D g lo L κ S hV 1 a (by omega) (by omega)) (cwV 2 hts (gV m_638 m_640 m_20 m_58 m_641) rfl rfl rfl (by decide +kernel) ⟨Nat.le_of_ble_eq_true rfl, Nat.le_of_ble_eq_true rfl⟩) rfl hl.1 rfl (Nat.le_of_ble_eq_true rfl) d_Model_value_57 ⟨Nat.le_of_ble_eq_true rfl, Nat.le_of_ble_eq_true rfl⟩ (fun v21 L21 κ21 H locs hp21 hM hS => ?_)
          obtain ⟨rfl, rfl, hV21, hk21⟩ := hp21
          have r22 := mStop_nz (x := a) (S := S) (show (1 : Int) ≠ 0 by decide)
          have r23 := congrFun (congrFun (mStop_a (y := 1) (x := a) (S := S)) 3)
          refine lv_goto (tgt := 85) hx hb d_Model_value_60 (by decide) ?_
          refine lv_iload_n hx hb d_Model_value_85 rfl (lv_at hl 4 rfl) ?_
          refine lv_iload hx hb d_Model_value_86 (lv_at hl 0 rfl) ?_
          refine ia_add hx hb d_Model_value_88 ?_
          exact mw_iret hx hb hr hM hS hlocks d_Model_value_89 (by rw [show mValue k a last S = (a + 8, mStop 1 a S) by first | (exfalso; omega) | (unfold mValue; rw [if_pos (by omega)]; rw [show mWid k = 8 by unfold mWid; (first | (exfalso; omega) | (repeat (first | rw [if_pos (by first | assumption | omega)] | rw [if_neg (by first | assumption | exact zne (by assumption) | omega)])))]; unfold mValN; rw [show mWid k = 8 by unfold mWid; (first | (exfalso; omega) | (repeat (first | rw [if_pos (by first | assumption | omega)] | rw [if_neg (by first | assumption | exact zne (by assumption) | omega)])))]; (first | (exfalso; omega) | (repeat (first | rw [if_pos (by first | assumption | omega)] | rw [if_neg (by first | assumption | exact zne (by assumption) | omega)]))))]; exact ⟨rfl, rfl, hV21, (fun r h => by rw [hk21 r (by omega)])⟩)
    · refine lv_iconst (v := iI (4)) hx hb d_Model_value_29 rfl ?_
      refine lv_goto (tgt := 45) hx hb d_Model_value_30 (by decide) ?_
      refine lv_istore (lv' := [(5, .int (iI 4)), (4, .int (iI (last - a))), (0, .ref (L 40)), (1, .int (iI k)), (2, .int (iI a)), (3, .int (iI last))]) hx hb d_Model_value_45 hl (by decide) rfl (fun ls hl => ?_)
      refine lv_iload hx hb d_Model_value_47 (lv_at hl 1 rfl) ?_
      refine lv_iload hx hb d_Model_value_49 (lv_at hl 0 rfl) ?_
      refine ia_icmp_ge (a := last - a) (b := 4) (tgt := 63) hx hb d_Model_value_51 (by decide) (by omega) (by omega) (fun c24 => ?_) (fun c24 => ?_)
      · refine lv_iload_n hx hb d_Model_value_63 rfl (lv_at hl 3 rfl) ?_
        refine lv_bipush (v := iI (8)) hx hb d_Model_value_64 (by decide) ?_
        refine ia_icmp_ne (a := k) (b := 8) (tgt := 85) hx hb d_Model_value_66 (by decide) (by omega) (by omega) (fun c25 => ?_) (fun c25 => ?_)
        · refine lv_iload_n hx hb d_Model_value_85 rfl (lv_at hl 4 rfl) ?_
          refine lv_iload hx hb d_Model_value_86 (lv_at hl 0 rfl) ?_
          refine ia_add hx hb d_Model_value_88 ?_
          exact mw_iret hx hb hr hM hS hlocks d_Model_value_89 (by rw [show mValue k a last S = (a + 4, S) by first | (exfalso; omega) | (unfold mValue; rw [if_pos (by omega)]; rw [show mWid k = 4 by unfold mWid; (first | (exfalso; omega) | (repeat (first | rw [if_pos (by first | assumption | omega)] | rw [if_neg (by first | assumption | exact zne (by assumption) | omega)])))]; unfold mValN; rw [show mWid k = 4 by unfold mWid; (first | (exfalso; omega) | (repeat (first | rw [if_pos (by first | assumption | omega)] | rw [if_neg (by first | assumption | exact zne (by assumption) | omega)])))]; (first | (exfalso; omega) | (repeat (first | rw [if_pos (by first | assumption | omega)] | rw [if_neg (by first | assumption | exact zne (by assumption) | omega)]))))]; exact ⟨rfl, rfl, hV, (fun r h => rfl)⟩)
        · refine lv_aload_n hx hb d_Model_value_69 rfl (lv_at hl 2 rfl) ?_
          refine mw_get (ci := 4) (i := 40) (v := .ref (L 44)) (C := R_Model) (T := T_Model) (N := 23) hx hb hts in_Model hown hK hM hV.1 rfl rfl 6 (by decide) (hts _ m_551) rfl d_Model_value_70 ?_
          refine lv_iload_n hx hb d_Model_value_73 rfl (lv_at hl 4 rfl) ?_
          refine mw_iald (n := 4400) (f := S.a 3) (a := a) (i := 44) hx hb hK hM 1 (hV.2.1 3 (by decide)) rfl rfl (by omega) (by decide) d_Model_value_74 ?_
          have r26 : 0 ≤ S.a 3 (a : Int).toNat ∧ S.a 3 (a : Int).toNat ≤ 255 := hV.2.2.1 3 _
          refine lv_iconst (v := iI (1)) hx hb d_Model_value_75 rfl ?_
          refine ia_icmp_le (a := S.a 3 (a : Int).toNat) (b := 1) (tgt := 85) hx hb d_Model_value_76 (by decide) (by omega) (by omega) (fun c27 => ?_) (fun c27 => ?_)
          · refine lv_iload_n hx hb d_Model_value_85 rfl (lv_at hl 4 rfl) ?_
            refine lv_iload hx hb d_Model_value_86 (lv_at hl 0 rfl) ?_
            refine ia_add hx hb d_Model_value_88 ?_
            exact mw_iret hx hb hr hM hS hlocks d_Model_value_89 (by rw [show mValue k a last S = (a + 4, S) by first | (exfalso; omega) | (unfold mValue; rw [if_pos (by omega)]; rw [show mWid k = 4 by unfold mWid; (first | (exfalso; omega) | (repeat (first | rw [if_pos (by first | assumption | omega)] | rw [if_neg (by first | assumption | exact zne (by assumption) | omega)])))]; unfold mValN; rw [show mWid k = 4 by unfold mWid; (first | (exfalso; omega) | (repeat (first | rw [if_pos (by first | assumption | omega)] | rw [if_neg (by first | assumption | exact zne (by assumption) | omega)])))]; (first | (exfalso; omega) | (repeat (first | rw [if_pos (by first | assumption | omega)] | rw [if_neg (by first | assumption | exact zne (by assumption) | omega)]))))]; exact ⟨rfl, rfl, hV, (fun r h => rfl)⟩)
          · refine lv_aload_n hx hb d_Model_value_79 rfl (lv_at hl 2 rfl) ?_
            refine lv_iconst (v := iI (5)) hx hb d_Model_value_80 rfl ?_
            refine lv_iload_n hx hb d_Model_value_81 rfl (lv_at hl 4 rfl) ?_
            refine mw_callV (i := 40) (As := [.int (iI 5), .int (iI a)]) (rest := []) ⟨hx, hb, hml, hown, hts⟩ hK hM hS rfl hV.1 rfl (c_Model_stop l D g lo L κ S hV 5 a (by omega) (by omega)) (cwV 2 hts (gV m_638 m_640 m_20 m_58 m_641) rfl rfl rfl (by decide +kernel) ⟨Nat.le_of_ble_eq_true rfl, Nat.le_of_ble_eq_true rfl⟩) rfl hl.1 rfl (Nat.le_of_ble_eq_true rfl) d_Model_value_82 ⟨Nat.le_of_ble_eq_true rfl, Nat.le_of_ble_eq_true rfl⟩ (fun v28 L28 κ28 H locs hp28 hM hS => ?_)
            obtain ⟨rfl, rfl, hV28, hk28⟩ := hp28
            have r29 := mStop_nz (x := a) (S := S) (show (5 : Int) ≠ 0 by decide)
            have r30 := congrFun (congrFun (mStop_a (y := 5) (x := a) (S := S)) 3)
            refine lv_iload_n hx hb d_Model_value_85 rfl (lv_at hl 4 rfl) ?_
            refine lv_iload hx hb d_Model_value_86 (lv_at hl 0 rfl) ?_
            refine ia_add hx hb d_Model_value_88 ?_
            exact mw_iret hx hb hr hM hS hlocks d_Model_value_89 (by rw [show mValue k a last S = (a + 4, mStop 5 a S) by first | (exfalso; omega) | (unfold mValue; rw [if_pos (by omega)]; rw [show mWid k = 4 by unfold mWid; (first | (exfalso; omega) | (repeat (first | rw [if_pos (by first | assumption | omega)] | rw [if_neg (by first | assumption | exact zne (by assumption) | omega)])))]; unfold mValN; rw [show mWid k = 4 by unfold mWid; (first | (exfalso; omega) | (repeat (first | rw [if_pos (by first | assumption | omega)] | rw [if_neg (by first | assumption | exact zne (by assumption) | omega)])))]; (first | (exfalso; omega) | (repeat (first | rw [if_pos (by first | assumption | omega)] | rw [if_neg (by first | assumption | exact zne (by assumption) | omega)]))))]; exact ⟨rfl, rfl, hV28, (fun r h => by rw [hk28 r (by omega)])⟩)
      · refine lv_aload_n hx hb d_Model_value_54 rfl (lv_at hl 2 rfl) ?_
        refine lv_iconst (v := iI (1)) hx hb d_Model_value_55 rfl ?_
        refine lv_iload_n hx hb d_Model_value_56 rfl (lv_at hl 4 rfl) ?_
        refine mw_callV (i := 40) (As := [.int (iI 1), .int (iI a)]) (rest := []) ⟨hx, hb, hml, hown, hts⟩ hK hM hS rfl hV.1 rfl (c_Model_stop l D g lo L κ S hV 1 a (by omega) (by omega)) (cwV 2 hts (gV m_638 m_640 m_20 m_58 m_641) rfl rfl rfl (by decide +kernel) ⟨Nat.le_of_ble_eq_true rfl, Nat.le_of_ble_eq_true rfl⟩) rfl hl.1 rfl (Nat.le_of_ble_eq_true rfl) d_Model_value_57 ⟨Nat.le_of_ble_eq_true rfl, Nat.le_of_ble_eq_true rfl⟩ (fun v31 L31 κ31 H locs hp31 hM hS => ?_)
        obtain ⟨rfl, rfl, hV31, hk31⟩ := hp31
        have r32 := mStop_nz (x := a) (S := S) (show (1 : Int) ≠ 0 by decide)
        have r33 := congrFun (congrFun (mStop_a (y := 1) (x := a) (S := S)) 3)
        refine lv_goto (tgt := 85) hx hb d_Model_value_60 (by decide) ?_
        refine lv_iload_n hx hb d_Model_value_85 rfl (lv_at hl 4 rfl) ?_
        refine lv_iload hx hb d_Model_value_86 (lv_at hl 0 rfl) ?_
        refine ia_add hx hb d_Model_value_88 ?_
        exact mw_iret hx hb hr hM hS hlocks d_Model_value_89 (by rw [show mValue k a last S = (a + 4, mStop 1 a S) by first | (exfalso; omega) | (unfold mValue; rw [if_pos (by omega)]; rw [show mWid k = 4 by unfold mWid; (first | (exfalso; omega) | (repeat (first | rw [if_pos (by first | assumption | omega)] | rw [if_neg (by first | assumption | exact zne (by assumption) | omega)])))]; unfold mValN; rw [show mWid k = 4 by unfold mWid; (first | (exfalso; omega) | (repeat (first | rw [if_pos (by first | assumption | omega)] | rw [if_neg (by first | assumption | exact zne (by assumption) | omega)])))]; (first | (exfalso; omega) | (repeat (first | rw [if_pos (by first | assumption | omega)] | rw [if_neg (by first | assumption | exact zne (by assumption) | omega)]))))]; exact ⟨rfl, rfl, hV31, (fun r h => by rw [hk31 r (by omega)])⟩)
  · refine lv_iload_n hx hb d_Model_value_11 rfl (lv_at hl 2 rfl) ?_
    refine lv_bipush (v := iI (18)) hx hb d_Model_value_12 (by decide) ?_
    refine ia_icmp_eq (a := k) (b := 18) (tgt := 23) hx hb d_Model_value_14 (by decide) (by omega) (by omega) (fun c34 => ?_) (fun c34 => ?_)
    · refine lv_iload_n hx hb d_Model_value_23 rfl (lv_at hl 2 rfl) ?_
      refine lv_bipush (v := iI (16)) hx hb d_Model_value_24 (by decide) ?_
      refine ia_icmp_ne (a := k) (b := 16) (tgt := 33) hx hb d_Model_value_26 (by decide) (by omega) (by omega) (fun c35 => ?_) (fun c35 => ?_)
      · refine lv_iload_n hx hb d_Model_value_33 rfl (lv_at hl 2 rfl) ?_
        refine lv_bipush (v := iI (18)) hx hb d_Model_value_34 (by decide) ?_
        refine ia_icmp_ne (a := k) (b := 18) (tgt := 44) hx hb d_Model_value_36 (by decide) (by omega) (by omega) (fun c36 => ?_) (fun c36 => ?_)
        · refine lv_iconst (v := iI (1)) hx hb d_Model_value_44 rfl ?_
          refine lv_istore (lv' := [(5, .int (iI 1)), (4, .int (iI (last - a))), (0, .ref (L 40)), (1, .int (iI k)), (2, .int (iI a)), (3, .int (iI last))]) hx hb d_Model_value_45 hl (by decide) rfl (fun ls hl => ?_)
          refine lv_iload hx hb d_Model_value_47 (lv_at hl 1 rfl) ?_
          refine lv_iload hx hb d_Model_value_49 (lv_at hl 0 rfl) ?_
          refine ia_icmp_ge (a := last - a) (b := 1) (tgt := 63) hx hb d_Model_value_51 (by decide) (by omega) (by omega) (fun c37 => ?_) (fun c37 => ?_)
          · refine lv_iload_n hx hb d_Model_value_63 rfl (lv_at hl 3 rfl) ?_
            refine lv_bipush (v := iI (8)) hx hb d_Model_value_64 (by decide) ?_
            refine ia_icmp_ne (a := k) (b := 8) (tgt := 85) hx hb d_Model_value_66 (by decide) (by omega) (by omega) (fun c38 => ?_) (fun c38 => ?_)
            · refine lv_iload_n hx hb d_Model_value_85 rfl (lv_at hl 4 rfl) ?_
              refine lv_iload hx hb d_Model_value_86 (lv_at hl 0 rfl) ?_
              refine ia_add hx hb d_Model_value_88 ?_
              exact mw_iret hx hb hr hM hS hlocks d_Model_value_89 (by rw [show mValue k a last S = (a + 1, S) by first | (exfalso; omega) | (unfold mValue; rw [if_pos (by omega)]; rw [show mWid k = 1 by unfold mWid; (first | (exfalso; omega) | (repeat (first | rw [if_pos (by first | assumption | omega)] | rw [if_neg (by first | assumption | exact zne (by assumption) | omega)])))]; unfold mValN; rw [show mWid k = 1 by unfold mWid; (first | (exfalso; omega) | (repeat (first | rw [if_pos (by first | assumption | omega)] | rw [if_neg (by first | assumption | exact zne (by assumption) | omega)])))]; (first | (exfalso; omega) | (repeat (first | rw [if_pos (by first | assumption | omega)] | rw [if_neg (by first | assumption | exact zne (by assumption) | omega)]))))]; exact ⟨rfl, rfl, hV, (fun r h => rfl)⟩)
            · refine lv_aload_n hx hb d_Model_value_69 rfl (lv_at hl 2 rfl) ?_
              refine mw_get (ci := 4) (i := 40) (v := .ref (L 44)) (C := R_Model) (T := T_Model) (N := 23) hx hb hts in_Model hown hK hM hV.1 rfl rfl 6 (by decide) (hts _ m_551) rfl d_Model_value_70 ?_
              refine lv_iload_n hx hb d_Model_value_73 rfl (lv_at hl 4 rfl) ?_
              refine mw_iald (n := 4400) (f := S.a 3) (a := a) (i := 44) hx hb hK hM 1 (hV.2.1 3 (by decide)) rfl rfl (by omega) (by decide) d_Model_value_74 ?_
              have r39 : 0 ≤ S.a 3 (a : Int).toNat ∧ S.a 3 (a : Int).toNat ≤ 255 := hV.2.2.1 3 _
              refine lv_iconst (v := iI (1)) hx hb d_Model_value_75 rfl ?_
              refine ia_icmp_le (a := S.a 3 (a : Int).toNat) (b := 1) (tgt := 85) hx hb d_Model_value_76 (by decide) (by omega) (by omega) (fun c40 => ?_) (fun c40 => ?_)
              · refine lv_iload_n hx hb d_Model_value_85 rfl (lv_at hl 4 rfl) ?_
                refine lv_iload hx hb d_Model_value_86 (lv_at hl 0 rfl) ?_
                refine ia_add hx hb d_Model_value_88 ?_
                exact mw_iret hx hb hr hM hS hlocks d_Model_value_89 (by rw [show mValue k a last S = (a + 1, S) by first | (exfalso; omega) | (unfold mValue; rw [if_pos (by omega)]; rw [show mWid k = 1 by unfold mWid; (first | (exfalso; omega) | (repeat (first | rw [if_pos (by first | assumption | omega)] | rw [if_neg (by first | assumption | exact zne (by assumption) | omega)])))]; unfold mValN; rw [show mWid k = 1 by unfold mWid; (first | (exfalso; omega) | (repeat (first | rw [if_pos (by first | assumption | omega)] | rw [if_neg (by first | assumption | exact zne (by assumption) | omega)])))]; (first | (exfalso; omega) | (repeat (first | rw [if_pos (by first | assumption | omega)] | rw [if_neg (by first | assumption | exact zne (by assumption) | omega)]))))]; exact ⟨rfl, rfl, hV, (fun r h => rfl)⟩)
              · refine lv_aload_n hx hb d_Model_value_79 rfl (lv_at hl 2 rfl) ?_
                refine lv_iconst (v := iI (5)) hx hb d_Model_value_80 rfl ?_
                refine lv_iload_n hx hb d_Model_value_81 rfl (lv_at hl 4 rfl) ?_
                refine mw_callV (i := 40) (As := [.int (iI 5), .int (iI a)]) (rest := []) ⟨hx, hb, hml, hown, hts⟩ hK hM hS rfl hV.1 rfl (c_Model_stop l D g lo L κ S hV 5 a (by omega) (by omega)) (cwV 2 hts (gV m_638 m_640 m_20 m_58 m_641) rfl rfl rfl (by decide +kernel) ⟨Nat.le_of_ble_eq_true rfl, Nat.le_of_ble_eq_true rfl⟩) rfl hl.1 rfl (Nat.le_of_ble_eq_true rfl) d_Model_value_82 ⟨Nat.le_of_ble_eq_true rfl, Nat.le_of_ble_eq_true rfl⟩ (fun v41 L41 κ41 H locs hp41 hM hS => ?_)
                obtain ⟨rfl, rfl, hV41, hk41⟩ := hp41
                have r42 := mStop_nz (x := a) (S := S) (show (5 : Int) ≠ 0 by decide)
                have r43 := congrFun (congrFun (mStop_a (y := 5) (x := a) (S := S)) 3)
                refine lv_iload_n hx hb d_Model_value_85 rfl (lv_at hl 4 rfl) ?_
                refine lv_iload hx hb d_Model_value_86 (lv_at hl 0 rfl) ?_
                refine ia_add hx hb d_Model_value_88 ?_
                exact mw_iret hx hb hr hM hS hlocks d_Model_value_89 (by rw [show mValue k a last S = (a + 1, mStop 5 a S) by first | (exfalso; omega) | (unfold mValue; rw [if_pos (by omega)]; rw [show mWid k = 1 by unfold mWid; (first | (exfalso; omega) | (repeat (first | rw [if_pos (by first | assumption | omega)] | rw [if_neg (by first | assumption | exact zne (by assumption) | omega)])))]; unfold mValN; rw [show mWid k = 1 by unfold mWid; (first | (exfalso; omega) | (repeat (first | rw [if_pos (by first | assumption | omega)] | rw [if_neg (by first | assumption | exact zne (by assumption) | omega)])))]; (first | (exfalso; omega) | (repeat (first | rw [if_pos (by first | assumption | omega)] | rw [if_neg (by first | assumption | exact zne (by assumption) | omega)]))))]; exact ⟨rfl, rfl, hV41, (fun r h => by rw [hk41 r (by omega)])⟩)
          · refine lv_aload_n hx hb d_Model_value_54 rfl (lv_at hl 2 rfl) ?_
            refine lv_iconst (v := iI (1)) hx hb d_Model_value_55 rfl ?_
            refine lv_iload_n hx hb d_Model_value_56 rfl (lv_at hl 4 rfl) ?_
            refine mw_callV (i := 40) (As := [.int (iI 1), .int (iI a)]) (rest := []) ⟨hx, hb, hml, hown, hts⟩ hK hM hS rfl hV.1 rfl (c_Model_stop l D g lo L κ S hV 1 a (by omega) (by omega)) (cwV 2 hts (gV m_638 m_640 m_20 m_58 m_641) rfl rfl rfl (by decide +kernel) ⟨Nat.le_of_ble_eq_true rfl, Nat.le_of_ble_eq_true rfl⟩) rfl hl.1 rfl (Nat.le_of_ble_eq_true rfl) d_Model_value_57 ⟨Nat.le_of_ble_eq_true rfl, Nat.le_of_ble_eq_true rfl⟩ (fun v44 L44 κ44 H locs hp44 hM hS => ?_)
            obtain ⟨rfl, rfl, hV44, hk44⟩ := hp44
            have r45 := mStop_nz (x := a) (S := S) (show (1 : Int) ≠ 0 by decide)
            have r46 := congrFun (congrFun (mStop_a (y := 1) (x := a) (S := S)) 3)
            refine lv_goto (tgt := 85) hx hb d_Model_value_60 (by decide) ?_
            refine lv_iload_n hx hb d_Model_value_85 rfl (lv_at hl 4 rfl) ?_
            refine lv_iload hx hb d_Model_value_86 (lv_at hl 0 rfl) ?_
            refine ia_add hx hb d_Model_value_88 ?_
            exact mw_iret hx hb hr hM hS hlocks d_Model_value_89 (by rw [show mValue k a last S = (a + 1, mStop 1 a S) by first | (exfalso; omega) | (unfold mValue; rw [if_pos (by omega)]; rw [show mWid k = 1 by unfold mWid; (first | (exfalso; omega) | (repeat (first | rw [if_pos (by first | assumption | omega)] | rw [if_neg (by first | assumption | exact zne (by assumption) | omega)])))]; unfold mValN; rw [show mWid k = 1 by unfold mWid; (first | (exfalso; omega) | (repeat (first | rw [if_pos (by first | assumption | omega)] | rw [if_neg (by first | assumption | exact zne (by assumption) | omega)])))]; (first | (exfalso; omega) | (repeat (first | rw [if_pos (by first | assumption | omega)] | rw [if_neg (by first | assumption | exact zne (by assumption) | omega)]))))]; exact ⟨rfl, rfl, hV44, (fun r h => by rw [hk44 r (by omega)])⟩)
        · refine lv_bipush (v := iI (8)) hx hb d_Model_value_39 (by decide) ?_
          refine lv_goto (tgt := 45) hx hb d_Model_value_41 (by decide) ?_
          refine lv_istore (lv' := [(5, .int (iI 8)), (4, .int (iI (last - a))), (0, .ref (L 40)), (1, .int (iI k)), (2, .int (iI a)), (3, .int (iI last))]) hx hb d_Model_value_45 hl (by decide) rfl (fun ls hl => ?_)
          refine lv_iload hx hb d_Model_value_47 (lv_at hl 1 rfl) ?_
          refine lv_iload hx hb d_Model_value_49 (lv_at hl 0 rfl) ?_
          refine ia_icmp_ge (a := last - a) (b := 8) (tgt := 63) hx hb d_Model_value_51 (by decide) (by omega) (by omega) (fun c47 => ?_) (fun c47 => ?_)
          · refine lv_iload_n hx hb d_Model_value_63 rfl (lv_at hl 3 rfl) ?_
            refine lv_bipush (v := iI (8)) hx hb d_Model_value_64 (by decide) ?_
            refine ia_icmp_ne (a := k) (b := 8) (tgt := 85) hx hb d_Model_value_66 (by decide) (by omega) (by omega) (fun c48 => ?_) (fun c48 => ?_)
            · refine lv_iload_n hx hb d_Model_value_85 rfl (lv_at hl 4 rfl) ?_
              refine lv_iload hx hb d_Model_value_86 (lv_at hl 0 rfl) ?_
              refine ia_add hx hb d_Model_value_88 ?_
              exact mw_iret hx hb hr hM hS hlocks d_Model_value_89 (by rw [show mValue k a last S = (a + 8, S) by first | (exfalso; omega) | (unfold mValue; rw [if_pos (by omega)]; rw [show mWid k = 8 by unfold mWid; (first | (exfalso; omega) | (repeat (first | rw [if_pos (by first | assumption | omega)] | rw [if_neg (by first | assumption | exact zne (by assumption) | omega)])))]; unfold mValN; rw [show mWid k = 8 by unfold mWid; (first | (exfalso; omega) | (repeat (first | rw [if_pos (by first | assumption | omega)] | rw [if_neg (by first | assumption | exact zne (by assumption) | omega)])))]; (first | (exfalso; omega) | (repeat (first | rw [if_pos (by first | assumption | omega)] | rw [if_neg (by first | assumption | exact zne (by assumption) | omega)]))))]; exact ⟨rfl, rfl, hV, (fun r h => rfl)⟩)
            · refine lv_aload_n hx hb d_Model_value_69 rfl (lv_at hl 2 rfl) ?_
              refine mw_get (ci := 4) (i := 40) (v := .ref (L 44)) (C := R_Model) (T := T_Model) (N := 23) hx hb hts in_Model hown hK hM hV.1 rfl rfl 6 (by decide) (hts _ m_551) rfl d_Model_value_70 ?_
              refine lv_iload_n hx hb d_Model_value_73 rfl (lv_at hl 4 rfl) ?_
              refine mw_iald (n := 4400) (f := S.a 3) (a := a) (i := 44) hx hb hK hM 1 (hV.2.1 3 (by decide)) rfl rfl (by omega) (by decide) d_Model_value_74 ?_
              have r49 : 0 ≤ S.a 3 (a : Int).toNat ∧ S.a 3 (a : Int).toNat ≤ 255 := hV.2.2.1 3 _
              refine lv_iconst (v := iI (1)) hx hb d_Model_value_75 rfl ?_
              refine ia_icmp_le (a := S.a 3 (a : Int).toNat) (b := 1) (tgt := 85) hx hb d_Model_value_76 (by decide) (by omega) (by omega) (fun c50 => ?_) (fun c50 => ?_)
              · refine lv_iload_n hx hb d_Model_value_85 rfl (lv_at hl 4 rfl) ?_
                refine lv_iload hx hb d_Model_value_86 (lv_at hl 0 rfl) ?_
                refine ia_add hx hb d_Model_value_88 ?_
                exact mw_iret hx hb hr hM hS hlocks d_Model_value_89 (by rw [show mValue k a last S = (a + 8, S) by first | (exfalso; omega) | (unfold mValue; rw [if_pos (by omega)]; rw [show mWid k = 8 by unfold mWid; (first | (exfalso; omega) | (repeat (first | rw [if_pos (by first | assumption | omega)] | rw [if_neg (by first | assumption | exact zne (by assumption) | omega)])))]; unfold mValN; rw [show mWid k = 8 by unfold mWid; (first | (exfalso; omega) | (repeat (first | rw [if_pos (by first | assumption | omega)] | rw [if_neg (by first | assumption | exact zne (by assumption) | omega)])))]; (first | (exfalso; omega) | (repeat (first | rw [if_pos (by first | assumption | omega)] | rw [if_neg (by first | assumption | exact zne (by assumption) | omega)]))))]; exact ⟨rfl, rfl, hV, (fun r h => rfl)⟩)
              · refine lv_aload_n hx hb d_Model_value_79 rfl (lv_at hl 2 rfl) ?_
                refine lv_iconst (v := iI (5)) hx hb d_Model_value_80 rfl ?_
                refine lv_iload_n hx hb d_Model_value_81 rfl (lv_at hl 4 rfl) ?_
                refine mw_callV (i := 40) (As := [.int (iI 5), .int (iI a)]) (rest := []) ⟨hx, hb, hml, hown, hts⟩ hK hM hS rfl hV.1 rfl (c_Model_stop l D g lo L κ S hV 5 a (by omega) (by omega)) (cwV 2 hts (gV m_638 m_640 m_20 m_58 m_641) rfl rfl rfl (by decide +kernel) ⟨Nat.le_of_ble_eq_true rfl, Nat.le_of_ble_eq_true rfl⟩) rfl hl.1 rfl (Nat.le_of_ble_eq_true rfl) d_Model_value_82 ⟨Nat.le_of_ble_eq_true rfl, Nat.le_of_ble_eq_true rfl⟩ (fun v51 L51 κ51 H locs hp51 hM hS => ?_)
                obtain ⟨rfl, rfl, hV51, hk51⟩ := hp51
                have r52 := mStop_nz (x := a) (S := S) (show (5 : Int) ≠ 0 by decide)
                have r53 := congrFun (congrFun (mStop_a (y := 5) (x := a) (S := S)) 3)
                refine lv_iload_n hx hb d_Model_value_85 rfl (lv_at hl 4 rfl) ?_
                refine lv_iload hx hb d_Model_value_86 (lv_at hl 0 rfl) ?_
                refine ia_add hx hb d_Model_value_88 ?_
                exact mw_iret hx hb hr hM hS hlocks d_Model_value_89 (by rw [show mValue k a last S = (a + 8, mStop 5 a S) by first | (exfalso; omega) | (unfold mValue; rw [if_pos (by omega)]; rw [show mWid k = 8 by unfold mWid; (first | (exfalso; omega) | (repeat (first | rw [if_pos (by first | assumption | omega)] | rw [if_neg (by first | assumption | exact zne (by assumption) | omega)])))]; unfold mValN; rw [show mWid k = 8 by unfold mWid; (first | (exfalso; omega) | (repeat (first | rw [if_pos (by first | assumption | omega)] | rw [if_neg (by first | assumption | exact zne (by assumption) | omega)])))]; (first | (exfalso; omega) | (repeat (first | rw [if_pos (by first | assumption | omega)] | rw [if_neg (by first | assumption | exact zne (by assumption) | omega)]))))]; exact ⟨rfl, rfl, hV51, (fun r h => by rw [hk51 r (by omega)])⟩)
          · refine lv_aload_n hx hb d_Model_value_54 rfl (lv_at hl 2 rfl) ?_
            refine lv_iconst (v := iI (1)) hx hb d_Model_value_55 rfl ?_
            refine lv_iload_n hx hb d_Model_value_56 rfl (lv_at hl 4 rfl) ?_
            refine mw_callV (i := 40) (As := [.int (iI 1), .int (iI a)]) (rest := []) ⟨hx, hb, hml, hown, hts⟩ hK hM hS rfl hV.1 rfl (c_Model_stop l D g lo L κ S hV 1 a (by omega) (by omega)) (cwV 2 hts (gV m_638 m_640 m_20 m_58 m_641) rfl rfl rfl (by decide +kernel) ⟨Nat.le_of_ble_eq_true rfl, Nat.le_of_ble_eq_true rfl⟩) rfl hl.1 rfl (Nat.le_of_ble_eq_true rfl) d_Model_value_57 ⟨Nat.le_of_ble_eq_true rfl, Nat.le_of_ble_eq_true rfl⟩ (fun v54 L54 κ54 H locs hp54 hM hS => ?_)
            obtain ⟨rfl, rfl, hV54, hk54⟩ := hp54
            have r55 := mStop_nz (x := a) (S := S) (show (1 : Int) ≠ 0 by decide)
            have r56 := congrFun (congrFun (mStop_a (y := 1) (x := a) (S := S)) 3)
            refine lv_goto (tgt := 85) hx hb d_Model_value_60 (by decide) ?_
            refine lv_iload_n hx hb d_Model_value_85 rfl (lv_at hl 4 rfl) ?_
            refine lv_iload hx hb d_Model_value_86 (lv_at hl 0 rfl) ?_
            refine ia_add hx hb d_Model_value_88 ?_
            exact mw_iret hx hb hr hM hS hlocks d_Model_value_89 (by rw [show mValue k a last S = (a + 8, mStop 1 a S) by first | (exfalso; omega) | (unfold mValue; rw [if_pos (by omega)]; rw [show mWid k = 8 by unfold mWid; (first | (exfalso; omega) | (repeat (first | rw [if_pos (by first | assumption | omega)] | rw [if_neg (by first | assumption | exact zne (by assumption) | omega)])))]; unfold mValN; rw [show mWid k = 8 by unfold mWid; (first | (exfalso; omega) | (repeat (first | rw [if_pos (by first | assumption | omega)] | rw [if_neg (by first | assumption | exact zne (by assumption) | omega)])))]; (first | (exfalso; omega) | (repeat (first | rw [if_pos (by first | assumption | omega)] | rw [if_neg (by first | assumption | exact zne (by assumption) | omega)]))))]; exact ⟨rfl, rfl, hV54, (fun r h => by rw [hk54 r (by omega)])⟩)
      · refine lv_iconst (v := iI (4)) hx hb d_Model_value_29 rfl ?_
        refine lv_goto (tgt := 45) hx hb d_Model_value_30 (by decide) ?_
        refine lv_istore (lv' := [(5, .int (iI 4)), (4, .int (iI (last - a))), (0, .ref (L 40)), (1, .int (iI k)), (2, .int (iI a)), (3, .int (iI last))]) hx hb d_Model_value_45 hl (by decide) rfl (fun ls hl => ?_)
        refine lv_iload hx hb d_Model_value_47 (lv_at hl 1 rfl) ?_
        refine lv_iload hx hb d_Model_value_49 (lv_at hl 0 rfl) ?_
        refine ia_icmp_ge (a := last - a) (b := 4) (tgt := 63) hx hb d_Model_value_51 (by decide) (by omega) (by omega) (fun c57 => ?_) (fun c57 => ?_)
        · refine lv_iload_n hx hb d_Model_value_63 rfl (lv_at hl 3 rfl) ?_
          refine lv_bipush (v := iI (8)) hx hb d_Model_value_64 (by decide) ?_
          refine ia_icmp_ne (a := k) (b := 8) (tgt := 85) hx hb d_Model_value_66 (by decide) (by omega) (by omega) (fun c58 => ?_) (fun c58 => ?_)
          · refine lv_iload_n hx hb d_Model_value_85 rfl (lv_at hl 4 rfl) ?_
            refine lv_iload hx hb d_Model_value_86 (lv_at hl 0 rfl) ?_
            refine ia_add hx hb d_Model_value_88 ?_
            exact mw_iret hx hb hr hM hS hlocks d_Model_value_89 (by rw [show mValue k a last S = (a + 4, S) by first | (exfalso; omega) | (unfold mValue; rw [if_pos (by omega)]; rw [show mWid k = 4 by unfold mWid; (first | (exfalso; omega) | (repeat (first | rw [if_pos (by first | assumption | omega)] | rw [if_neg (by first | assumption | exact zne (by assumption) | omega)])))]; unfold mValN; rw [show mWid k = 4 by unfold mWid; (first | (exfalso; omega) | (repeat (first | rw [if_pos (by first | assumption | omega)] | rw [if_neg (by first | assumption | exact zne (by assumption) | omega)])))]; (first | (exfalso; omega) | (repeat (first | rw [if_pos (by first | assumption | omega)] | rw [if_neg (by first | assumption | exact zne (by assumption) | omega)]))))]; exact ⟨rfl, rfl, hV, (fun r h => rfl)⟩)
          · refine lv_aload_n hx hb d_Model_value_69 rfl (lv_at hl 2 rfl) ?_
            refine mw_get (ci := 4) (i := 40) (v := .ref (L 44)) (C := R_Model) (T := T_Model) (N := 23) hx hb hts in_Model hown hK hM hV.1 rfl rfl 6 (by decide) (hts _ m_551) rfl d_Model_value_70 ?_
            refine lv_iload_n hx hb d_Model_value_73 rfl (lv_at hl 4 rfl) ?_
            refine mw_iald (n := 4400) (f := S.a 3) (a := a) (i := 44) hx hb hK hM 1 (hV.2.1 3 (by decide)) rfl rfl (by omega) (by decide) d_Model_value_74 ?_
            have r59 : 0 ≤ S.a 3 (a : Int).toNat ∧ S.a 3 (a : Int).toNat ≤ 255 := hV.2.2.1 3 _
            refine lv_iconst (v := iI (1)) hx hb d_Model_value_75 rfl ?_
            refine ia_icmp_le (a := S.a 3 (a : Int).toNat) (b := 1) (tgt := 85) hx hb d_Model_value_76 (by decide) (by omega) (by omega) (fun c60 => ?_) (fun c60 => ?_)
            · refine lv_iload_n hx hb d_Model_value_85 rfl (lv_at hl 4 rfl) ?_
              refine lv_iload hx hb d_Model_value_86 (lv_at hl 0 rfl) ?_
              refine ia_add hx hb d_Model_value_88 ?_
              exact mw_iret hx hb hr hM hS hlocks d_Model_value_89 (by rw [show mValue k a last S = (a + 4, S) by first | (exfalso; omega) | (unfold mValue; rw [if_pos (by omega)]; rw [show mWid k = 4 by unfold mWid; (first | (exfalso; omega) | (repeat (first | rw [if_pos (by first | assumption | omega)] | rw [if_neg (by first | assumption | exact zne (by assumption) | omega)])))]; unfold mValN; rw [show mWid k = 4 by unfold mWid; (first | (exfalso; omega) | (repeat (first | rw [if_pos (by first | assumption | omega)] | rw [if_neg (by first | assumption | exact zne (by assumption) | omega)])))]; (first | (exfalso; omega) | (repeat (first | rw [if_pos (by first | assumption | omega)] | rw [if_neg (by first | assumption | exact zne (by assumption) | omega)]))))]; exact ⟨rfl, rfl, hV, (fun r h => rfl)⟩)
            · refine lv_aload_n hx hb d_Model_value_79 rfl (lv_at hl 2 rfl) ?_
              refine lv_iconst (v := iI (5)) hx hb d_Model_value_80 rfl ?_
              refine lv_iload_n hx hb d_Model_value_81 rfl (lv_at hl 4 rfl) ?_
              refine mw_callV (i := 40) (As := [.int (iI 5), .int (iI a)]) (rest := []) ⟨hx, hb, hml, hown, hts⟩ hK hM hS rfl hV.1 rfl (c_Model_stop l D g lo L κ S hV 5 a (by omega) (by omega)) (cwV 2 hts (gV m_638 m_640 m_20 m_58 m_641) rfl rfl rfl (by decide +kernel) ⟨Nat.le_of_ble_eq_true rfl, Nat.le_of_ble_eq_true rfl⟩) rfl hl.1 rfl (Nat.le_of_ble_eq_true rfl) d_Model_value_82 ⟨Nat.le_of_ble_eq_true rfl, Nat.le_of_ble_eq_true rfl⟩ (fun v61 L61 κ61 H locs hp61 hM hS => ?_)
              obtain ⟨rfl, rfl, hV61, hk61⟩ := hp61
              have r62 := mStop_nz (x := a) (S := S) (show (5 : Int) ≠ 0 by decide)
              have r63 := congrFun (congrFun (mStop_a (y := 5) (x := a) (S := S)) 3)
              refine lv_iload_n hx hb d_Model_value_85 rfl (lv_at hl 4 rfl) ?_
              refine lv_iload hx hb d_Model_value_86 (lv_at hl 0 rfl) ?_
              refine ia_add hx hb d_Model_value_88 ?_
              exact mw_iret hx hb hr hM hS hlocks d_Model_value_89 (by rw [show mValue k a last S = (a + 4, mStop 5 a S) by first | (exfalso; omega) | (unfold mValue; rw [if_pos (by omega)]; rw [show mWid k = 4 by unfold mWid; (first | (exfalso; omega) | (repeat (first | rw [if_pos (by first | assumption | omega)] | rw [if_neg (by first | assumption | exact zne (by assumption) | omega)])))]; unfold mValN; rw [show mWid k = 4 by unfold mWid; (first | (exfalso; omega) | (repeat (first | rw [if_pos (by first | assumption | omega)] | rw [if_neg (by first | assumption | exact zne (by assumption) | omega)])))]; (first | (exfalso; omega) | (repeat (first | rw [if_pos (by first | assumption | omega)] | rw [if_neg (by first | assumption | exact zne (by assumption) | omega)]))))]; exact ⟨rfl, rfl, hV61, (fun r h => by rw [hk61 r (by omega)])⟩)
        · refine lv_aload_n hx hb d_Model_value_54 rfl (lv_at hl 2 rfl) ?_
          refine lv_iconst (v := iI (1)) hx hb d_Model_value_55 rfl ?_
          refine lv_iload_n hx hb d_Model_value_56 rfl (lv_at hl 4 rfl) ?_
          refine mw_callV (i := 40) (As := [.int (iI 1), .int (iI a)]) (rest := []) ⟨hx, hb, hml, hown, hts⟩ hK hM hS rfl hV.1 rfl (c_Model_stop l D g lo L κ S hV 1 a (by omega) (by omega)) (cwV 2 hts (gV m_638 m_640 m_20 m_58 m_641) rfl rfl rfl (by decide +kernel) ⟨Nat.le_of_ble_eq_true rfl, Nat.le_of_ble_eq_true rfl⟩) rfl hl.1 rfl (Nat.le_of_ble_eq_true rfl) d_Model_value_57 ⟨Nat.le_of_ble_eq_true rfl, Nat.le_of_ble_eq_true rfl⟩ (fun v64 L64 κ64 H locs hp64 hM hS => ?_)
          obtain ⟨rfl, rfl, hV64, hk64⟩ := hp64
          have r65 := mStop_nz (x := a) (S := S) (show (1 : Int) ≠ 0 by decide)
          have r66 := congrFun (congrFun (mStop_a (y := 1) (x := a) (S := S)) 3)
          refine lv_goto (tgt := 85) hx hb d_Model_value_60 (by decide) ?_
          refine lv_iload_n hx hb d_Model_value_85 rfl (lv_at hl 4 rfl) ?_
          refine lv_iload hx hb d_Model_value_86 (lv_at hl 0 rfl) ?_
          refine ia_add hx hb d_Model_value_88 ?_
          exact mw_iret hx hb hr hM hS hlocks d_Model_value_89 (by rw [show mValue k a last S = (a + 4, mStop 1 a S) by first | (exfalso; omega) | (unfold mValue; rw [if_pos (by omega)]; rw [show mWid k = 4 by unfold mWid; (first | (exfalso; omega) | (repeat (first | rw [if_pos (by first | assumption | omega)] | rw [if_neg (by first | assumption | exact zne (by assumption) | omega)])))]; unfold mValN; rw [show mWid k = 4 by unfold mWid; (first | (exfalso; omega) | (repeat (first | rw [if_pos (by first | assumption | omega)] | rw [if_neg (by first | assumption | exact zne (by assumption) | omega)])))]; (first | (exfalso; omega) | (repeat (first | rw [if_pos (by first | assumption | omega)] | rw [if_neg (by first | assumption | exact zne (by assumption) | omega)]))))]; exact ⟨rfl, rfl, hV64, (fun r h => by rw [hk64 r (by omega)])⟩)
    · refine lv_iload_n hx hb d_Model_value_17 rfl (lv_at hl 2 rfl) ?_
      refine lv_bipush (v := iI (8)) hx hb d_Model_value_18 (by decide) ?_
      refine ia_icmp_ne (a := k) (b := 8) (tgt := 90) hx hb d_Model_value_20 (by decide) (by omega) (by omega) (fun c67 => ?_) (fun c67 => ?_)
      · refine lv_iload_n hx hb d_Model_value_90 rfl (lv_at hl 2 rfl) ?_
        refine lv_iconst (v := iI (2)) hx hb d_Model_value_91 rfl ?_
        refine ia_icmp_ne (a := k) (b := 2) (tgt := 104) hx hb d_Model_value_92 (by decide) (by omega) (by omega) (fun c68 => ?_) (fun c68 => ?_)
        · refine lv_iload_n hx hb d_Model_value_104 rfl (lv_at hl 3 rfl) ?_
          exact mw_iret hx hb hr hM hS hlocks d_Model_value_105 (by rw [show mValue k a last S = (a, S) by first | (exfalso; omega) | (unfold mValue; rw [if_neg (by omega), if_neg (by omega)])]; exact ⟨rfl, rfl, hV, (fun r h => rfl)⟩)
        · refine lv_aload_n hx hb d_Model_value_95 rfl (lv_at hl 1 rfl) ?_
          refine lv_iload_n hx hb d_Model_value_96 rfl (lv_at hl 3 rfl) ?_
          refine lv_iload_n hx hb d_Model_value_97 rfl (lv_at hl 4 rfl) ?_
          refine mw_callV (i := 40) (As := [.int (iI a), .int (iI last)]) (rest := []) ⟨hx, hb, hml, hown, hts⟩ hK hM hS rfl hV.1 rfl (c_Model_text l D g lo L κ S hV a last (by omega) (by omega)) (cwV 2 hts (gV m_682 m_684 m_26 m_58 m_685) rfl rfl rfl (by decide +kernel) ⟨Nat.le_of_ble_eq_true rfl, Nat.le_of_ble_eq_true rfl⟩) rfl hl.1 rfl (Nat.le_of_ble_eq_true rfl) d_Model_value_98 ⟨Nat.le_of_ble_eq_true rfl, Nat.le_of_ble_eq_true rfl⟩ (fun v69 L69 κ69 H locs hp69 hM hS => ?_)
          obtain ⟨rfl, rfl, hV69, hk69⟩ := hp69
          refine lv_goto (tgt := 105) hx hb d_Model_value_101 (by decide) ?_
          exact mw_iret hx hb hr hM hS hlocks d_Model_value_105 (by rw [show mValue k a last S = ((mText a last S).1, (mText a last S).2) by first | (exfalso; omega) | (unfold mValue; rw [if_neg (by omega), if_pos (by omega)])]; exact ⟨rfl, rfl, hV69, (fun r h => by rw [hk69 r (by omega)])⟩)
      · refine lv_iload_n hx hb d_Model_value_23 rfl (lv_at hl 2 rfl) ?_
        refine lv_bipush (v := iI (16)) hx hb d_Model_value_24 (by decide) ?_
        refine ia_icmp_ne (a := k) (b := 16) (tgt := 33) hx hb d_Model_value_26 (by decide) (by omega) (by omega) (fun c70 => ?_) (fun c70 => ?_)
        · refine lv_iload_n hx hb d_Model_value_33 rfl (lv_at hl 2 rfl) ?_
          refine lv_bipush (v := iI (18)) hx hb d_Model_value_34 (by decide) ?_
          refine ia_icmp_ne (a := k) (b := 18) (tgt := 44) hx hb d_Model_value_36 (by decide) (by omega) (by omega) (fun c71 => ?_) (fun c71 => ?_)
          · refine lv_iconst (v := iI (1)) hx hb d_Model_value_44 rfl ?_
            refine lv_istore (lv' := [(5, .int (iI 1)), (4, .int (iI (last - a))), (0, .ref (L 40)), (1, .int (iI k)), (2, .int (iI a)), (3, .int (iI last))]) hx hb d_Model_value_45 hl (by decide) rfl (fun ls hl => ?_)
            refine lv_iload hx hb d_Model_value_47 (lv_at hl 1 rfl) ?_
            refine lv_iload hx hb d_Model_value_49 (lv_at hl 0 rfl) ?_
            refine ia_icmp_ge (a := last - a) (b := 1) (tgt := 63) hx hb d_Model_value_51 (by decide) (by omega) (by omega) (fun c72 => ?_) (fun c72 => ?_)
            · refine lv_iload_n hx hb d_Model_value_63 rfl (lv_at hl 3 rfl) ?_
              refine lv_bipush (v := iI (8)) hx hb d_Model_value_64 (by decide) ?_
              refine ia_icmp_ne (a := k) (b := 8) (tgt := 85) hx hb d_Model_value_66 (by decide) (by omega) (by omega) (fun c73 => ?_) (fun c73 => ?_)
              · refine lv_iload_n hx hb d_Model_value_85 rfl (lv_at hl 4 rfl) ?_
                refine lv_iload hx hb d_Model_value_86 (lv_at hl 0 rfl) ?_
                refine ia_add hx hb d_Model_value_88 ?_
                exact mw_iret hx hb hr hM hS hlocks d_Model_value_89 (by rw [show mValue k a last S = (a + 1, S) by first | (exfalso; omega) | (unfold mValue; rw [if_pos (by omega)]; rw [show mWid k = 1 by unfold mWid; (first | (exfalso; omega) | (repeat (first | rw [if_pos (by first | assumption | omega)] | rw [if_neg (by first | assumption | exact zne (by assumption) | omega)])))]; unfold mValN; rw [show mWid k = 1 by unfold mWid; (first | (exfalso; omega) | (repeat (first | rw [if_pos (by first | assumption | omega)] | rw [if_neg (by first | assumption | exact zne (by assumption) | omega)])))]; (first | (exfalso; omega) | (repeat (first | rw [if_pos (by first | assumption | omega)] | rw [if_neg (by first | assumption | exact zne (by assumption) | omega)]))))]; exact ⟨rfl, rfl, hV, (fun r h => rfl)⟩)
              · refine lv_aload_n hx hb d_Model_value_69 rfl (lv_at hl 2 rfl) ?_
                refine mw_get (ci := 4) (i := 40) (v := .ref (L 44)) (C := R_Model) (T := T_Model) (N := 23) hx hb hts in_Model hown hK hM hV.1 rfl rfl 6 (by decide) (hts _ m_551) rfl d_Model_value_70 ?_
                refine lv_iload_n hx hb d_Model_value_73 rfl (lv_at hl 4 rfl) ?_
                refine mw_iald (n := 4400) (f := S.a 3) (a := a) (i := 44) hx hb hK hM 1 (hV.2.1 3 (by decide)) rfl rfl (by omega) (by decide) d_Model_value_74 ?_
                have r74 : 0 ≤ S.a 3 (a : Int).toNat ∧ S.a 3 (a : Int).toNat ≤ 255 := hV.2.2.1 3 _
                refine lv_iconst (v := iI (1)) hx hb d_Model_value_75 rfl ?_
                refine ia_icmp_le (a := S.a 3 (a : Int).toNat) (b := 1) (tgt := 85) hx hb d_Model_value_76 (by decide) (by omega) (by omega) (fun c75 => ?_) (fun c75 => ?_)
                · refine lv_iload_n hx hb d_Model_value_85 rfl (lv_at hl 4 rfl) ?_
                  refine lv_iload hx hb d_Model_value_86 (lv_at hl 0 rfl) ?_
                  refine ia_add hx hb d_Model_value_88 ?_
                  exact mw_iret hx hb hr hM hS hlocks d_Model_value_89 (by rw [show mValue k a last S = (a + 1, S) by first | (exfalso; omega) | (unfold mValue; rw [if_pos (by omega)]; rw [show mWid k = 1 by unfold mWid; (first | (exfalso; omega) | (repeat (first | rw [if_pos (by first | assumption | omega)] | rw [if_neg (by first | assumption | exact zne (by assumption) | omega)])))]; unfold mValN; rw [show mWid k = 1 by unfold mWid; (first | (exfalso; omega) | (repeat (first | rw [if_pos (by first | assumption | omega)] | rw [if_neg (by first | assumption | exact zne (by assumption) | omega)])))]; (first | (exfalso; omega) | (repeat (first | rw [if_pos (by first | assumption | omega)] | rw [if_neg (by first | assumption | exact zne (by assumption) | omega)]))))]; exact ⟨rfl, rfl, hV, (fun r h => rfl)⟩)
                · refine lv_aload_n hx hb d_Model_value_79 rfl (lv_at hl 2 rfl) ?_
                  refine lv_iconst (v := iI (5)) hx hb d_Model_value_80 rfl ?_
                  refine lv_iload_n hx hb d_Model_value_81 rfl (lv_at hl 4 rfl) ?_
                  refine mw_callV (i := 40) (As := [.int (iI 5), .int (iI a)]) (rest := []) ⟨hx, hb, hml, hown, hts⟩ hK hM hS rfl hV.1 rfl (c_Model_stop l D g lo L κ S hV 5 a (by omega) (by omega)) (cwV 2 hts (gV m_638 m_640 m_20 m_58 m_641) rfl rfl rfl (by decide +kernel) ⟨Nat.le_of_ble_eq_true rfl, Nat.le_of_ble_eq_true rfl⟩) rfl hl.1 rfl (Nat.le_of_ble_eq_true rfl) d_Model_value_82 ⟨Nat.le_of_ble_eq_true rfl, Nat.le_of_ble_eq_true rfl⟩ (fun v76 L76 κ76 H locs hp76 hM hS => ?_)
                  obtain ⟨rfl, rfl, hV76, hk76⟩ := hp76
                  have r77 := mStop_nz (x := a) (S := S) (show (5 : Int) ≠ 0 by decide)
                  have r78 := congrFun (congrFun (mStop_a (y := 5) (x := a) (S := S)) 3)
                  refine lv_iload_n hx hb d_Model_value_85 rfl (lv_at hl 4 rfl) ?_
                  refine lv_iload hx hb d_Model_value_86 (lv_at hl 0 rfl) ?_
                  refine ia_add hx hb d_Model_value_88 ?_
                  exact mw_iret hx hb hr hM hS hlocks d_Model_value_89 (by rw [show mValue k a last S = (a + 1, mStop 5 a S) by first | (exfalso; omega) | (unfold mValue; rw [if_pos (by omega)]; rw [show mWid k = 1 by unfold mWid; (first | (exfalso; omega) | (repeat (first | rw [if_pos (by first | assumption | omega)] | rw [if_neg (by first | assumption | exact zne (by assumption) | omega)])))]; unfold mValN; rw [show mWid k = 1 by unfold mWid; (first | (exfalso; omega) | (repeat (first | rw [if_pos (by first | assumption | omega)] | rw [if_neg (by first | assumption | exact zne (by assumption) | omega)])))]; (first | (exfalso; omega) | (repeat (first | rw [if_pos (by first | assumption | omega)] | rw [if_neg (by first | assumption | exact zne (by assumption) | omega)]))))]; exact ⟨rfl, rfl, hV76, (fun r h => by rw [hk76 r (by omega)])⟩)
            · refine lv_aload_n hx hb d_Model_value_54 rfl (lv_at hl 2 rfl) ?_
              refine lv_iconst (v := iI (1)) hx hb d_Model_value_55 rfl ?_
              refine lv_iload_n hx hb d_Model_value_56 rfl (lv_at hl 4 rfl) ?_
              refine mw_callV (i := 40) (As := [.int (iI 1), .int (iI a)]) (rest := []) ⟨hx, hb, hml, hown, hts⟩ hK hM hS rfl hV.1 rfl (c_Model_stop l D g lo L κ S hV 1 a (by omega) (by omega)) (cwV 2 hts (gV m_638 m_640 m_20 m_58 m_641) rfl rfl rfl (by decide +kernel) ⟨Nat.le_of_ble_eq_true rfl, Nat.le_of_ble_eq_true rfl⟩) rfl hl.1 rfl (Nat.le_of_ble_eq_true rfl) d_Model_value_57 ⟨Nat.le_of_ble_eq_true rfl, Nat.le_of_ble_eq_true rfl⟩ (fun v79 L79 κ79 H locs hp79 hM hS => ?_)
              obtain ⟨rfl, rfl, hV79, hk79⟩ := hp79
              have r80 := mStop_nz (x := a) (S := S) (show (1 : Int) ≠ 0 by decide)
              have r81 := congrFun (congrFun (mStop_a (y := 1) (x := a) (S := S)) 3)
              refine lv_goto (tgt := 85) hx hb d_Model_value_60 (by decide) ?_
              refine lv_iload_n hx hb d_Model_value_85 rfl (lv_at hl 4 rfl) ?_
              refine lv_iload hx hb d_Model_value_86 (lv_at hl 0 rfl) ?_
              refine ia_add hx hb d_Model_value_88 ?_
              exact mw_iret hx hb hr hM hS hlocks d_Model_value_89 (by rw [show mValue k a last S = (a + 1, mStop 1 a S) by first | (exfalso; omega) | (unfold mValue; rw [if_pos (by omega)]; rw [show mWid k = 1 by unfold mWid; (first | (exfalso; omega) | (repeat (first | rw [if_pos (by first | assumption | omega)] | rw [if_neg (by first | assumption | exact zne (by assumption) | omega)])))]; unfold mValN; rw [show mWid k = 1 by unfold mWid; (first | (exfalso; omega) | (repeat (first | rw [if_pos (by first | assumption | omega)] | rw [if_neg (by first | assumption | exact zne (by assumption) | omega)])))]; (first | (exfalso; omega) | (repeat (first | rw [if_pos (by first | assumption | omega)] | rw [if_neg (by first | assumption | exact zne (by assumption) | omega)]))))]; exact ⟨rfl, rfl, hV79, (fun r h => by rw [hk79 r (by omega)])⟩)
          · refine lv_bipush (v := iI (8)) hx hb d_Model_value_39 (by decide) ?_
            refine lv_goto (tgt := 45) hx hb d_Model_value_41 (by decide) ?_
            refine lv_istore (lv' := [(5, .int (iI 8)), (4, .int (iI (last - a))), (0, .ref (L 40)), (1, .int (iI k)), (2, .int (iI a)), (3, .int (iI last))]) hx hb d_Model_value_45 hl (by decide) rfl (fun ls hl => ?_)
            refine lv_iload hx hb d_Model_value_47 (lv_at hl 1 rfl) ?_
            refine lv_iload hx hb d_Model_value_49 (lv_at hl 0 rfl) ?_
            refine ia_icmp_ge (a := last - a) (b := 8) (tgt := 63) hx hb d_Model_value_51 (by decide) (by omega) (by omega) (fun c82 => ?_) (fun c82 => ?_)
            · refine lv_iload_n hx hb d_Model_value_63 rfl (lv_at hl 3 rfl) ?_
              refine lv_bipush (v := iI (8)) hx hb d_Model_value_64 (by decide) ?_
              refine ia_icmp_ne (a := k) (b := 8) (tgt := 85) hx hb d_Model_value_66 (by decide) (by omega) (by omega) (fun c83 => ?_) (fun c83 => ?_)
              · refine lv_iload_n hx hb d_Model_value_85 rfl (lv_at hl 4 rfl) ?_
                refine lv_iload hx hb d_Model_value_86 (lv_at hl 0 rfl) ?_
                refine ia_add hx hb d_Model_value_88 ?_
                exact mw_iret hx hb hr hM hS hlocks d_Model_value_89 (by rw [show mValue k a last S = (a + 8, S) by first | (exfalso; omega) | (unfold mValue; rw [if_pos (by omega)]; rw [show mWid k = 8 by unfold mWid; (first | (exfalso; omega) | (repeat (first | rw [if_pos (by first | assumption | omega)] | rw [if_neg (by first | assumption | exact zne (by assumption) | omega)])))]; unfold mValN; rw [show mWid k = 8 by unfold mWid; (first | (exfalso; omega) | (repeat (first | rw [if_pos (by first | assumption | omega)] | rw [if_neg (by first | assumption | exact zne (by assumption) | omega)])))]; (first | (exfalso; omega) | (repeat (first | rw [if_pos (by first | assumption | omega)] | rw [if_neg (by first | assumption | exact zne (by assumption) | omega)]))))]; exact ⟨rfl, rfl, hV, (fun r h => rfl)⟩)
              · refine lv_aload_n hx hb d_Model_value_69 rfl (lv_at hl 2 rfl) ?_
                refine mw_get (ci := 4) (i := 40) (v := .ref (L 44)) (C := R_Model) (T := T_Model) (N := 23) hx hb hts in_Model hown hK hM hV.1 rfl rfl 6 (by decide) (hts _ m_551) rfl d_Model_value_70 ?_
                refine lv_iload_n hx hb d_Model_value_73 rfl (lv_at hl 4 rfl) ?_
                refine mw_iald (n := 4400) (f := S.a 3) (a := a) (i := 44) hx hb hK hM 1 (hV.2.1 3 (by decide)) rfl rfl (by omega) (by decide) d_Model_value_74 ?_
                have r84 : 0 ≤ S.a 3 (a : Int).toNat ∧ S.a 3 (a : Int).toNat ≤ 255 := hV.2.2.1 3 _
                refine lv_iconst (v := iI (1)) hx hb d_Model_value_75 rfl ?_
                refine ia_icmp_le (a := S.a 3 (a : Int).toNat) (b := 1) (tgt := 85) hx hb d_Model_value_76 (by decide) (by omega) (by omega) (fun c85 => ?_) (fun c85 => ?_)
                · refine lv_iload_n hx hb d_Model_value_85 rfl (lv_at hl 4 rfl) ?_
                  refine lv_iload hx hb d_Model_value_86 (lv_at hl 0 rfl) ?_
                  refine ia_add hx hb d_Model_value_88 ?_
                  exact mw_iret hx hb hr hM hS hlocks d_Model_value_89 (by rw [show mValue k a last S = (a + 8, S) by first | (exfalso; omega) | (unfold mValue; rw [if_pos (by omega)]; rw [show mWid k = 8 by unfold mWid; (first | (exfalso; omega) | (repeat (first | rw [if_pos (by first | assumption | omega)] | rw [if_neg (by first | assumption | exact zne (by assumption) | omega)])))]; unfold mValN; rw [show mWid k = 8 by unfold mWid; (first | (exfalso; omega) | (repeat (first | rw [if_pos (by first | assumption | omega)] | rw [if_neg (by first | assumption | exact zne (by assumption) | omega)])))]; (first | (exfalso; omega) | (repeat (first | rw [if_pos (by first | assumption | omega)] | rw [if_neg (by first | assumption | exact zne (by assumption) | omega)]))))]; exact ⟨rfl, rfl, hV, (fun r h => rfl)⟩)
                · refine lv_aload_n hx hb d_Model_value_79 rfl (lv_at hl 2 rfl) ?_
                  refine lv_iconst (v := iI (5)) hx hb d_Model_value_80 rfl ?_
                  refine lv_iload_n hx hb d_Model_value_81 rfl (lv_at hl 4 rfl) ?_
                  refine mw_callV (i := 40) (As := [.int (iI 5), .int (iI a)]) (rest := []) ⟨hx, hb, hml, hown, hts⟩ hK hM hS rfl hV.1 rfl (c_Model_stop l D g lo L κ S hV 5 a (by omega) (by omega)) (cwV 2 hts (gV m_638 m_640 m_20 m_58 m_641) rfl rfl rfl (by decide +kernel) ⟨Nat.le_of_ble_eq_true rfl, Nat.le_of_ble_eq_true rfl⟩) rfl hl.1 rfl (Nat.le_of_ble_eq_true rfl) d_Model_value_82 ⟨Nat.le_of_ble_eq_true rfl, Nat.le_of_ble_eq_true rfl⟩ (fun v86 L86 κ86 H locs hp86 hM hS => ?_)
                  obtain ⟨rfl, rfl, hV86, hk86⟩ := hp86
                  have r87 := mStop_nz (x := a) (S := S) (show (5 : Int) ≠ 0 by decide)
                  have r88 := congrFun (congrFun (mStop_a (y := 5) (x := a) (S := S)) 3)
                  refine lv_iload_n hx hb d_Model_value_85 rfl (lv_at hl 4 rfl) ?_
                  refine lv_iload hx hb d_Model_value_86 (lv_at hl 0 rfl) ?_
                  refine ia_add hx hb d_Model_value_88 ?_
                  exact mw_iret hx hb hr hM hS hlocks d_Model_value_89 (by rw [show mValue k a last S = (a + 8, mStop 5 a S) by first | (exfalso; omega) | (unfold mValue; rw [if_pos (by omega)]; rw [show mWid k = 8 by unfold mWid; (first | (exfalso; omega) | (repeat (first | rw [if_pos (by first | assumption | omega)] | rw [if_neg (by first | assumption | exact zne (by assumption) | omega)])))]; unfold mValN; rw [show mWid k = 8 by unfold mWid; (first | (exfalso; omega) | (repeat (first | rw [if_pos (by first | assumption | omega)] | rw [if_neg (by first | assumption | exact zne (by assumption) | omega)])))]; (first | (exfalso; omega) | (repeat (first | rw [if_pos (by first | assumption | omega)] | rw [if_neg (by first | assumption | exact zne (by assumption) | omega)]))))]; exact ⟨rfl, rfl, hV86, (fun r h => by rw [hk86 r (by omega)])⟩)
            · refine lv_aload_n hx hb d_Model_value_54 rfl (lv_at hl 2 rfl) ?_
              refine lv_iconst (v := iI (1)) hx hb d_Model_value_55 rfl ?_
              refine lv_iload_n hx hb d_Model_value_56 rfl (lv_at hl 4 rfl) ?_
              refine mw_callV (i := 40) (As := [.int (iI 1), .int (iI a)]) (rest := []) ⟨hx, hb, hml, hown, hts⟩ hK hM hS rfl hV.1 rfl (c_Model_stop l D g lo L κ S hV 1 a (by omega) (by omega)) (cwV 2 hts (gV m_638 m_640 m_20 m_58 m_641) rfl rfl rfl (by decide +kernel) ⟨Nat.le_of_ble_eq_true rfl, Nat.le_of_ble_eq_true rfl⟩) rfl hl.1 rfl (Nat.le_of_ble_eq_true rfl) d_Model_value_57 ⟨Nat.le_of_ble_eq_true rfl, Nat.le_of_ble_eq_true rfl⟩ (fun v89 L89 κ89 H locs hp89 hM hS => ?_)
              obtain ⟨rfl, rfl, hV89, hk89⟩ := hp89
              have r90 := mStop_nz (x := a) (S := S) (show (1 : Int) ≠ 0 by decide)
              have r91 := congrFun (congrFun (mStop_a (y := 1) (x := a) (S := S)) 3)
              refine lv_goto (tgt := 85) hx hb d_Model_value_60 (by decide) ?_
              refine lv_iload_n hx hb d_Model_value_85 rfl (lv_at hl 4 rfl) ?_
              refine lv_iload hx hb d_Model_value_86 (lv_at hl 0 rfl) ?_
              refine ia_add hx hb d_Model_value_88 ?_
              exact mw_iret hx hb hr hM hS hlocks d_Model_value_89 (by rw [show mValue k a last S = (a + 8, mStop 1 a S) by first | (exfalso; omega) | (unfold mValue; rw [if_pos (by omega)]; rw [show mWid k = 8 by unfold mWid; (first | (exfalso; omega) | (repeat (first | rw [if_pos (by first | assumption | omega)] | rw [if_neg (by first | assumption | exact zne (by assumption) | omega)])))]; unfold mValN; rw [show mWid k = 8 by unfold mWid; (first | (exfalso; omega) | (repeat (first | rw [if_pos (by first | assumption | omega)] | rw [if_neg (by first | assumption | exact zne (by assumption) | omega)])))]; (first | (exfalso; omega) | (repeat (first | rw [if_pos (by first | assumption | omega)] | rw [if_neg (by first | assumption | exact zne (by assumption) | omega)]))))]; exact ⟨rfl, rfl, hV89, (fun r h => by rw [hk89 r (by omega)])⟩)
        · refine lv_iconst (v := iI (4)) hx hb d_Model_value_29 rfl ?_
          refine lv_goto (tgt := 45) hx hb d_Model_value_30 (by decide) ?_
          refine lv_istore (lv' := [(5, .int (iI 4)), (4, .int (iI (last - a))), (0, .ref (L 40)), (1, .int (iI k)), (2, .int (iI a)), (3, .int (iI last))]) hx hb d_Model_value_45 hl (by decide) rfl (fun ls hl => ?_)
          refine lv_iload hx hb d_Model_value_47 (lv_at hl 1 rfl) ?_
          refine lv_iload hx hb d_Model_value_49 (lv_at hl 0 rfl) ?_
          refine ia_icmp_ge (a := last - a) (b := 4) (tgt := 63) hx hb d_Model_value_51 (by decide) (by omega) (by omega) (fun c92 => ?_) (fun c92 => ?_)
          · refine lv_iload_n hx hb d_Model_value_63 rfl (lv_at hl 3 rfl) ?_
            refine lv_bipush (v := iI (8)) hx hb d_Model_value_64 (by decide) ?_
            refine ia_icmp_ne (a := k) (b := 8) (tgt := 85) hx hb d_Model_value_66 (by decide) (by omega) (by omega) (fun c93 => ?_) (fun c93 => ?_)
            · refine lv_iload_n hx hb d_Model_value_85 rfl (lv_at hl 4 rfl) ?_
              refine lv_iload hx hb d_Model_value_86 (lv_at hl 0 rfl) ?_
              refine ia_add hx hb d_Model_value_88 ?_
              exact mw_iret hx hb hr hM hS hlocks d_Model_value_89 (by rw [show mValue k a last S = (a + 4, S) by first | (exfalso; omega) | (unfold mValue; rw [if_pos (by omega)]; rw [show mWid k = 4 by unfold mWid; (first | (exfalso; omega) | (repeat (first | rw [if_pos (by first | assumption | omega)] | rw [if_neg (by first | assumption | exact zne (by assumption) | omega)])))]; unfold mValN; rw [show mWid k = 4 by unfold mWid; (first | (exfalso; omega) | (repeat (first | rw [if_pos (by first | assumption | omega)] | rw [if_neg (by first | assumption | exact zne (by assumption) | omega)])))]; (first | (exfalso; omega) | (repeat (first | rw [if_pos (by first | assumption | omega)] | rw [if_neg (by first | assumption | exact zne (by assumption) | omega)]))))]; exact ⟨rfl, rfl, hV, (fun r h => rfl)⟩)
            · refine lv_aload_n hx hb d_Model_value_69 rfl (lv_at hl 2 rfl) ?_
              refine mw_get (ci := 4) (i := 40) (v := .ref (L 44)) (C := R_Model) (T := T_Model) (N := 23) hx hb hts in_Model hown hK hM hV.1 rfl rfl 6 (by decide) (hts _ m_551) rfl d_Model_value_70 ?_
              refine lv_iload_n hx hb d_Model_value_73 rfl (lv_at hl 4 rfl) ?_
              refine mw_iald (n := 4400) (f := S.a 3) (a := a) (i := 44) hx hb hK hM 1 (hV.2.1 3 (by decide)) rfl rfl (by omega) (by decide) d_Model_value_74 ?_
              have r94 : 0 ≤ S.a 3 (a : Int).toNat ∧ S.a 3 (a : Int).toNat ≤ 255 := hV.2.2.1 3 _
              refine lv_iconst (v := iI (1)) hx hb d_Model_value_75 rfl ?_
              refine ia_icmp_le (a := S.a 3 (a : Int).toNat) (b := 1) (tgt := 85) hx hb d_Model_value_76 (by decide) (by omega) (by omega) (fun c95 => ?_) (fun c95 => ?_)
              · refine lv_iload_n hx hb d_Model_value_85 rfl (lv_at hl 4 rfl) ?_
                refine lv_iload hx hb d_Model_value_86 (lv_at hl 0 rfl) ?_
                refine ia_add hx hb d_Model_value_88 ?_
                exact mw_iret hx hb hr hM hS hlocks d_Model_value_89 (by rw [show mValue k a last S = (a + 4, S) by first | (exfalso; omega) | (unfold mValue; rw [if_pos (by omega)]; rw [show mWid k = 4 by unfold mWid; (first | (exfalso; omega) | (repeat (first | rw [if_pos (by first | assumption | omega)] | rw [if_neg (by first | assumption | exact zne (by assumption) | omega)])))]; unfold mValN; rw [show mWid k = 4 by unfold mWid; (first | (exfalso; omega) | (repeat (first | rw [if_pos (by first | assumption | omega)] | rw [if_neg (by first | assumption | exact zne (by assumption) | omega)])))]; (first | (exfalso; omega) | (repeat (first | rw [if_pos (by first | assumption | omega)] | rw [if_neg (by first | assumption | exact zne (by assumption) | omega)]))))]; exact ⟨rfl, rfl, hV, (fun r h => rfl)⟩)
              · refine lv_aload_n hx hb d_Model_value_79 rfl (lv_at hl 2 rfl) ?_
                refine lv_iconst (v := iI (5)) hx hb d_Model_value_80 rfl ?_
                refine lv_iload_n hx hb d_Model_value_81 rfl (lv_at hl 4 rfl) ?_
                refine mw_callV (i := 40) (As := [.int (iI 5), .int (iI a)]) (rest := []) ⟨hx, hb, hml, hown, hts⟩ hK hM hS rfl hV.1 rfl (c_Model_stop l D g lo L κ S hV 5 a (by omega) (by omega)) (cwV 2 hts (gV m_638 m_640 m_20 m_58 m_641) rfl rfl rfl (by decide +kernel) ⟨Nat.le_of_ble_eq_true rfl, Nat.le_of_ble_eq_true rfl⟩) rfl hl.1 rfl (Nat.le_of_ble_eq_true rfl) d_Model_value_82 ⟨Nat.le_of_ble_eq_true rfl, Nat.le_of_ble_eq_true rfl⟩ (fun v96 L96 κ96 H locs hp96 hM hS => ?_)
                obtain ⟨rfl, rfl, hV96, hk96⟩ := hp96
                have r97 := mStop_nz (x := a) (S := S) (show (5 : Int) ≠ 0 by decide)
                have r98 := congrFun (congrFun (mStop_a (y := 5) (x := a) (S := S)) 3)
                refine lv_iload_n hx hb d_Model_value_85 rfl (lv_at hl 4 rfl) ?_
                refine lv_iload hx hb d_Model_value_86 (lv_at hl 0 rfl) ?_
                refine ia_add hx hb d_Model_value_88 ?_
                exact mw_iret hx hb hr hM hS hlocks d_Model_value_89 (by rw [show mValue k a last S = (a + 4, mStop 5 a S) by first | (exfalso; omega) | (unfold mValue; rw [if_pos (by omega)]; rw [show mWid k = 4 by unfold mWid; (first | (exfalso; omega) | (repeat (first | rw [if_pos (by first | assumption | omega)] | rw [if_neg (by first | assumption | exact zne (by assumption) | omega)])))]; unfold mValN; rw [show mWid k = 4 by unfold mWid; (first | (exfalso; omega) | (repeat (first | rw [if_pos (by first | assumption | omega)] | rw [if_neg (by first | assumption | exact zne (by assumption) | omega)])))]; (first | (exfalso; omega) | (repeat (first | rw [if_pos (by first | assumption | omega)] | rw [if_neg (by first | assumption | exact zne (by assumption) | omega)]))))]; exact ⟨rfl, rfl, hV96, (fun r h => by rw [hk96 r (by omega)])⟩)
          · refine lv_aload_n hx hb d_Model_value_54 rfl (lv_at hl 2 rfl) ?_
            refine lv_iconst (v := iI (1)) hx hb d_Model_value_55 rfl ?_
            refine lv_iload_n hx hb d_Model_value_56 rfl (lv_at hl 4 rfl) ?_
            refine mw_callV (i := 40) (As := [.int (iI 1), .int (iI a)]) (rest := []) ⟨hx, hb, hml, hown, hts⟩ hK hM hS rfl hV.1 rfl (c_Model_stop l D g lo L κ S hV 1 a (by omega) (by omega)) (cwV 2 hts (gV m_638 m_640 m_20 m_58 m_641) rfl rfl rfl (by decide +kernel) ⟨Nat.le_of_ble_eq_true rfl, Nat.le_of_ble_eq_true rfl⟩) rfl hl.1 rfl (Nat.le_of_ble_eq_true rfl) d_Model_value_57 ⟨Nat.le_of_ble_eq_true rfl, Nat.le_of_ble_eq_true rfl⟩ (fun v99 L99 κ99 H locs hp99 hM hS => ?_)
            obtain ⟨rfl, rfl, hV99, hk99⟩ := hp99
            have r100 := mStop_nz (x := a) (S := S) (show (1 : Int) ≠ 0 by decide)
            have r101 := congrFun (congrFun (mStop_a (y := 1) (x := a) (S := S)) 3)
            refine lv_goto (tgt := 85) hx hb d_Model_value_60 (by decide) ?_
            refine lv_iload_n hx hb d_Model_value_85 rfl (lv_at hl 4 rfl) ?_
            refine lv_iload hx hb d_Model_value_86 (lv_at hl 0 rfl) ?_
            refine ia_add hx hb d_Model_value_88 ?_
            exact mw_iret hx hb hr hM hS hlocks d_Model_value_89 (by rw [show mValue k a last S = (a + 4, mStop 1 a S) by first | (exfalso; omega) | (unfold mValue; rw [if_pos (by omega)]; rw [show mWid k = 4 by unfold mWid; (first | (exfalso; omega) | (repeat (first | rw [if_pos (by first | assumption | omega)] | rw [if_neg (by first | assumption | exact zne (by assumption) | omega)])))]; unfold mValN; rw [show mWid k = 4 by unfold mWid; (first | (exfalso; omega) | (repeat (first | rw [if_pos (by first | assumption | omega)] | rw [if_neg (by first | assumption | exact zne (by assumption) | omega)])))]; (first | (exfalso; omega) | (repeat (first | rw [if_pos (by first | assumption | omega)] | rw [if_neg (by first | assumption | exact zne (by assumption) | omega)]))))]; exact ⟨rfl, rfl, hV99, (fun r h => by rw [hk99 r (by omega)])⟩)
