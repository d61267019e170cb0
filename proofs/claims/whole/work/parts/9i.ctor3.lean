set_option maxHeartbeats 4000000 in
set_option maxRecDepth 100000 in
theorem c_Model_init (l : Launch) (D : va_G) (g : Nat → ClassId) (lo : Nat) (L : Nat → Nat) (κ : Nat → Option va_E) (he : κ 40 = some (.inr (mdC, [.int (iI 0), .null, .int (iI 0), .int (iI 0), .null, .null, .null, .int (iI 0), .int (iI 0), .null, .null, .null, .null, .null, .int (iI 0), .int (iI 0), .int (iI 0), .null, .null, .null, .null, .null, .int (iI 0)]))) : Met l y_Model_init w_Model_init ({ frames := 1, cells := 14, slots := 31688, locals := 20 }) (mwP D vwCl (tyL g) lo L κ [.ref (L 40)]) (mwQ D vwCl lo (fun v L1 κ1 => v = none ∧ (∀ r, (r < 41 ∨ 54 < r) → L1 r = L r) ∧ mds g L1 κ1 mS0 ∧ ∀ r, (r < 40 ∨ 54 < r) → κ1 r = κ r)) 14 31688 (fun q => lo ≤ q) := by
  refine Met.ofW (cc := b_Model_init) (maxL := 2) (ret := (Option.none : Option Jvm.ClassFile.FieldType)) (by decide) rfl ?_
  intro p e s m args below meth c s₁ B hml hpre
  obtain ⟨hargs, hM, hK⟩ := hpre
  have hx := B.exec
  have hb := B.bytes
  have hr := B.returns
  have hts : ∀ w ∈ wA, w.before args s = true := fun w h => atoms_spec (ws := w_Model_init) B.pre w (List.mem_cons_of_mem _ h)
  have hown : s.vm.findClass R_Model = some m.cls := findClass_of_methodNamed B.named
  have hlocks := B.notSynchronized
  have hin : meth.name = "<init>" := (name_of_methodNamed B.named B.method).1
  have hS : va_S (fun q => lo ≤ q) s.heap s.heap [] := va_S.rf
  have loop132 : ∀ (N : Nat) (k : Int) (κ1 : Nat → Option va_E) (L1 : Nat → Nat), (8 - k).toNat < N → (0 ≤ k ∧ k ≤ 8) → (κ1 40 = some (.inr (mdC, mdFs L1 mF0))) → (∀ q, q < 14 → κ1 (41 + q) = some (.inl (g 1, mdSz q, .inl (fun x => iI (mA0 k q x))))) → (∀ r, (r < 41 ∨ 54 < r) → L1 r = L r) → (∀ r, (r < 40 ∨ 54 < r) → κ1 r = κ r) → ∀ (H : Heap) (locs : List Loc) (ls : Array Slot), mw D vwCl lo L1 κ1 H → va_S (fun q => lo ≤ q) s.heap H locs → lv_has ls 2 [(1, .int (iI k)), (0, .ref (L 40))] → W p l e (headSpec w_Model_init ({ frames := 1, cells := 14, slots := 31688, locals := 20 })).room s m args below meth c H locs 14 31688 (MQ below (mwQ D vwCl lo (fun v L1 κ1 => v = none ∧ (∀ r, (r < 41 ∨ 54 < r) → L1 r = L r) ∧ mds g L1 κ1 mS0 ∧ ∀ r, (r < 40 ∨ 54 < r) → κ1 r = κ r)) args s 14 31688 (fun q => lo ≤ q)) (F0 m 132 ls []) := by
    intro N
    induction N with
    | zero => intro k κ1 L1 hms; exact absurd hms (Nat.not_lt_zero _)
    | succ N ih =>
      intro k κ1 L1 hms hk hO hA hLr hKr H locs ls hM hS hl
      have h42 : κ1 42 = some (.inl (g 1, 8, .inl (fun x => iI (mA0 k 1 x)))) := hA 1 (by decide)
      have h43 : κ1 43 = some (.inl (g 1, 16000, .inl (fun x => iI (mA0 k 2 x)))) := hA 2 (by decide)
      refine lv_iload_n hx hb d_Model_init_132 rfl (lv_at hl 0 rfl) ?_
      refine lv_bipush (v := iI (8)) hx hb d_Model_init_133 (by decide) ?_
      refine ia_icmp_ge (a := k) (b := 8) (tgt := 162) hx hb d_Model_init_135 (by decide) (by omega) (by omega) (fun c1 => ?_) (fun c1 => ?_)
      · exact mw_vret hx hb hr hM hS hlocks d_Model_init_162 ⟨rfl, hLr, ⟨hO, (fun q hq => by have h8 : k = 8 := (by omega); subst h8; exact hA q hq), mA0_r 8, mF0_r⟩, hKr⟩
      · refine lv_aload_n hx hb d_Model_init_138 rfl (lv_at hl 1 rfl) ?_
        refine mw_get (ci := 4) (i := 40) (v := .ref (L1 42)) (C := R_Model) (T := T_Model) (N := 23) hx hb hts in_Model hown hK hM hO (hLr 40 (by omega)) rfl 4 (by decide) (hts _ m_549) rfl d_Model_init_139 ?_
        refine lv_iload_n hx hb d_Model_init_142 rfl (lv_at hl 0 rfl) ?_
        refine lv_iconst (v := iI (5)) hx hb d_Model_init_143 rfl ?_
        refine mw_iast (a := k) (v := 5) (i := 42) hx hb hK hM hS 1 h42 rfl rfl (by omega) (by omega) d_Model_init_144 (fun κ2 H locs e2 hk2 hM hS => ?_)
        have e3 := (hk2 40 (by omega)).trans hO
        have e4 := (hk2 43 (by omega)).trans h43
        refine lv_aload_n hx hb d_Model_init_145 rfl (lv_at hl 1 rfl) ?_
        refine mw_get (ci := 4) (i := 40) (v := .ref (L1 43)) (C := R_Model) (T := T_Model) (N := 23) hx hb hts in_Model hown hK hM e3 (hLr 40 (by omega)) rfl 5 (by decide) (hts _ m_550) rfl d_Model_init_146 ?_
        refine lv_sipush (v := iI (2000)) hx hb d_Model_init_149 (by decide) ?_
        refine lv_iload_n hx hb d_Model_init_152 rfl (lv_at hl 0 rfl) ?_
        refine ia_mul hx hb d_Model_init_153 ?_
        refine lv_iconst (v := iI (5)) hx hb d_Model_init_154 rfl ?_
        refine mw_iast (a := 2000 * k) (v := 5) (i := 43) hx hb hK hM hS 1 e4 rfl rfl (by omega) (by omega) d_Model_init_155 (fun κ5 H locs e5 hk5 hM hS => ?_)
        have e6 := (hk5 40 (by omega)).trans e3
        have e7 := (hk5 42 (by omega)).trans e2
        refine lv_iinc (v := iI (k + 1)) (lv' := [(1, .int (iI (k + 1))), (0, .ref (L 40))]) hx hb d_Model_init_156 hl (k := 0) rfl (iI_inc _ _) (by decide) rfl (fun ls hl => ?_)
        refine lv_goto (tgt := 132) hx hb d_Model_init_159 (by decide) ?_
        have hX : ∀ q, q < 14 → κ5 (41 + q) = some (.inl (g 1, mdSz q, .inl (fun x => iI (mA0 (k + 1) q x)))) := fun q hq => by
          by_cases q1 : q = 1
          · subst q1; rw [← mA0_s1 hk.1]; exact e7
          · by_cases q2 : q = 2
            · subst q2; rw [← mA0_s2 hk.1]; exact e5
            · rw [hk5 (41 + q) (by omega), hk2 (41 + q) (by omega), hA q hq, show mA0 k q = mA0 (k + 1) q from funext fun x => by rw [mA0_o q1 q2, mA0_o q1 q2]]
        exact ih (k + 1) κ5 L1 (by omega) (by omega) e6 hX hLr (fun r h1 => by rw [hk5 r (by omega), hk2 r (by omega), hKr r h1]) _ _ ls hM hS (lv_sub hl [0, 1] rfl)
  obtain ⟨ls, hls, hl⟩ := mw_entry (m := m) [.ref (L 40)] (n := 2) (Nat.le_of_ble_eq_true rfl) hargs
  refine W.eq hls ?_
  have hl : lv_has ls 2 [(0, .ref (L 40))] := hl
  refine lv_aload_n hx hb d_Model_init_0 rfl (lv_at hl 0 rfl) ?_
  refine W.objInit hx hb hown (hts _ m_545) (hts _ m_67) (hts _ m_68) rfl (by rw [hml]; exact hl.1) rfl d_Model_init_1 (Nat.le_of_ble_eq_true rfl) (Nat.le_of_ble_eq_true rfl) ?_
  refine W.eq (g2 := F0 m 4 ls []) rfl ?_
  refine lv_aload_n hx hb d_Model_init_4 rfl (lv_at hl 0 rfl) ?_
  refine lv_sipush (v := iI (2000)) hx hb d_Model_init_5 (by decide) ?_
  refine mw_newaK (atype := .int) (a0 := (2000, .inl (fun _ => iI 0))) (a := 2000) hx hb (hts _ m_159) (ty := .int) rfl hM hS 41 rfl (fun cA => rfl) (by decide) (by decide) (Nat.le_of_ble_eq_true rfl) (Nat.le_of_ble_eq_true rfl) d_Model_init_8 (fun L8 κ8 cA8 H hA8 hZ8 e8 hk8 hL8 hM hS => ?_)
  have hc8 : cA8 = g 1 := Option.some.inj (hZ8.symm.trans (hK.2 1 _ rfl).2)
  subst hc8
  have e8 : κ8 41 = some (.inl (g 1, 2000, .inl (fun x => iI ((fun _ => (0 : Int)) x)))) := e8
  have e9 := (hk8 40 (by omega)).trans he
  refine mw_putF (ci := 4) (i := 40) (v := .ref (L8 41)) (C := R_Model) (T := T_Model) (N := 23) hx hb hts in_Model ty_Model ty_Model_ok nm_Model hown hK hM hS e9 (hL8 40 (by omega)) rfl 1 (by decide) (hts _ m_546) rfl hin rfl (ty_Model_ok 1 (by decide)) rfl rfl (Nat.le_of_ble_eq_true rfl) d_Model_init_10 (fun κ10 H locs e10 hk10 hM hS => ?_)
  have e10 : κ10 40 = some (.inr (4, [.int (iI 0), .ref (L8 41), .int (iI 0), .int (iI 0), .null, .null, .null, .int (iI 0), .int (iI 0), .null, .null, .null, .null, .null, .int (iI 0), .int (iI 0), .int (iI 0), .null, .null, .null, .null, .null, .int (iI 0)])) := e10
  have e11 := (hk10 41 (by omega)).trans e8
  refine lv_aload_n hx hb d_Model_init_13 rfl (lv_at hl 0 rfl) ?_
  refine lv_iconst (v := iI (-1)) hx hb d_Model_init_14 rfl ?_
  refine mw_put (ci := 4) (i := 40) (v := .int (iI (-1))) (C := R_Model) (T := T_Model) (N := 23) hx hb hts in_Model ty_Model ty_Model_ok nm_Model hown hK hM hS e10 (hL8 40 (by omega)) rfl 3 (by decide) (hts _ m_548) rfl (ty_Model_ok 3 (by decide)) rfl rfl (Nat.le_of_ble_eq_true rfl) d_Model_init_15 (fun κ12 H locs e12 hk12 hM hS => ?_)
  have e12 : κ12 40 = some (.inr (4, [.int (iI 0), .ref (L8 41), .int (iI 0), .int (iI (-1)), .null, .null, .null, .int (iI 0), .int (iI 0), .null, .null, .null, .null, .null, .int (iI 0), .int (iI 0), .int (iI 0), .null, .null, .null, .null, .null, .int (iI 0)])) := e12
  have e13 := (hk12 41 (by omega)).trans e11
  refine lv_aload_n hx hb d_Model_init_18 rfl (lv_at hl 0 rfl) ?_
  refine lv_bipush (v := iI (8)) hx hb d_Model_init_19 (by decide) ?_
  refine mw_newaK (atype := .int) (a0 := (8, .inl (fun _ => iI 0))) (a := 8) hx hb (hts _ m_159) (ty := .int) rfl hM hS 42 rfl (fun cA => rfl) (by decide) (by decide) (Nat.le_of_ble_eq_true rfl) (Nat.le_of_ble_eq_true rfl) d_Model_init_21 (fun L14 κ14 cA14 H hA14 hZ14 e14 hk14 hL14 hM hS => ?_)
  have hc14 : cA14 = g 1 := Option.some.inj (hZ14.symm.trans (hK.2 1 _ rfl).2)
  subst hc14
  have e14 : κ14 42 = some (.inl (g 1, 8, .inl (fun x => iI ((fun _ => (0 : Int)) x)))) := e14
  have e15 := (hk14 40 (by omega)).trans e12
  have e16 := (hk14 41 (by omega)).trans e13
  refine mw_putF (ci := 4) (i := 40) (v := .ref (L14 42)) (C := R_Model) (T := T_Model) (N := 23) hx hb hts in_Model ty_Model ty_Model_ok nm_Model hown hK hM hS e15 ((hL14 40 (by omega)).trans (hL8 40 (by omega))) rfl 4 (by decide) (hts _ m_549) rfl hin rfl (ty_Model_ok 4 (by decide)) rfl rfl (Nat.le_of_ble_eq_true rfl) d_Model_init_23 (fun κ17 H locs e17 hk17 hM hS => ?_)
  have e17 : κ17 40 = some (.inr (4, [.int (iI 0), .ref (L8 41), .int (iI 0), .int (iI (-1)), .ref (L14 42), .null, .null, .int (iI 0), .int (iI 0), .null, .null, .null, .null, .null, .int (iI 0), .int (iI 0), .int (iI 0), .null, .null, .null, .null, .null, .int (iI 0)])) := e17
  have e18 := (hk17 41 (by omega)).trans e16
  have e19 := (hk17 42 (by omega)).trans e14
  refine lv_aload_n hx hb d_Model_init_26 rfl (lv_at hl 0 rfl) ?_
  refine lv_sipush (v := iI (16000)) hx hb d_Model_init_27 (by decide) ?_
  refine mw_newaK (atype := .int) (a0 := (16000, .inl (fun _ => iI 0))) (a := 16000) hx hb (hts _ m_159) (ty := .int) rfl hM hS 43 rfl (fun cA => rfl) (by decide) (by decide) (Nat.le_of_ble_eq_true rfl) (Nat.le_of_ble_eq_true rfl) d_Model_init_30 (fun L20 κ20 cA20 H hA20 hZ20 e20 hk20 hL20 hM hS => ?_)
  have hc20 : cA20 = g 1 := Option.some.inj (hZ20.symm.trans (hK.2 1 _ rfl).2)
  subst hc20
  have e20 : κ20 43 = some (.inl (g 1, 16000, .inl (fun x => iI ((fun _ => (0 : Int)) x)))) := e20
  have e21 := (hk20 40 (by omega)).trans e17
  have e22 := (hk20 41 (by omega)).trans e18
  have e23 := (hk20 42 (by omega)).trans e19
  refine mw_putF (ci := 4) (i := 40) (v := .ref (L20 43)) (C := R_Model) (T := T_Model) (N := 23) hx hb hts in_Model ty_Model ty_Model_ok nm_Model hown hK hM hS e21 (((hL20 40 (by omega)).trans (hL14 40 (by omega))).trans (hL8 40 (by omega))) rfl 5 (by decide) (hts _ m_550) rfl hin rfl (ty_Model_ok 5 (by decide)) rfl rfl (Nat.le_of_ble_eq_true rfl) d_Model_init_32 (fun κ24 H locs e24 hk24 hM hS => ?_)
  have e24 : κ24 40 = some (.inr (4, [.int (iI 0), .ref (L8 41), .int (iI 0), .int (iI (-1)), .ref (L14 42), .ref (L20 43), .null, .int (iI 0), .int (iI 0), .null, .null, .null, .null, .null, .int (iI 0), .int (iI 0), .int (iI 0), .null, .null, .null, .null, .null, .int (iI 0)])) := e24
  have e25 := (hk24 41 (by omega)).trans e22
  have e26 := (hk24 42 (by omega)).trans e23
  have e27 := (hk24 43 (by omega)).trans e20
  refine lv_aload_n hx hb d_Model_init_35 rfl (lv_at hl 0 rfl) ?_
  refine lv_sipush (v := iI (4400)) hx hb d_Model_init_36 (by decide) ?_
  refine mw_newaK (atype := .int) (a0 := (4400, .inl (fun _ => iI 0))) (a := 4400) hx hb (hts _ m_159) (ty := .int) rfl hM hS 44 rfl (fun cA => rfl) (by decide) (by decide) (Nat.le_of_ble_eq_true rfl) (Nat.le_of_ble_eq_true rfl) d_Model_init_39 (fun L28 κ28 cA28 H hA28 hZ28 e28 hk28 hL28 hM hS => ?_)
  have hc28 : cA28 = g 1 := Option.some.inj (hZ28.symm.trans (hK.2 1 _ rfl).2)
  subst hc28
  have e28 : κ28 44 = some (.inl (g 1, 4400, .inl (fun x => iI ((fun _ => (0 : Int)) x)))) := e28
  have e29 := (hk28 40 (by omega)).trans e24
  have e30 := (hk28 41 (by omega)).trans e25
  have e31 := (hk28 42 (by omega)).trans e26
  have e32 := (hk28 43 (by omega)).trans e27
  refine mw_putF (ci := 4) (i := 40) (v := .ref (L28 44)) (C := R_Model) (T := T_Model) (N := 23) hx hb hts in_Model ty_Model ty_Model_ok nm_Model hown hK hM hS e29 ((((hL28 40 (by omega)).trans (hL20 40 (by omega))).trans (hL14 40 (by omega))).trans (hL8 40 (by omega))) rfl 6 (by decide) (hts _ m_551) rfl hin rfl (ty_Model_ok 6 (by decide)) rfl rfl (Nat.le_of_ble_eq_true rfl) d_Model_init_41 (fun κ33 H locs e33 hk33 hM hS => ?_)
  have e33 : κ33 40 = some (.inr (4, [.int (iI 0), .ref (L8 41), .int (iI 0), .int (iI (-1)), .ref (L14 42), .ref (L20 43), .ref (L28 44), .int (iI 0), .int (iI 0), .null, .null, .null, .null, .null, .int (iI 0), .int (iI 0), .int (iI 0), .null, .null, .null, .null, .null, .int (iI 0)])) := e33
  have e34 := (hk33 41 (by omega)).trans e30
  have e35 := (hk33 42 (by omega)).trans e31
  have e36 := (hk33 43 (by omega)).trans e32
  have e37 := (hk33 44 (by omega)).trans e28
  refine lv_aload_n hx hb d_Model_init_44 rfl (lv_at hl 0 rfl) ?_
  refine lv_sipush (v := iI (1000)) hx hb d_Model_init_45 (by decide) ?_
  refine mw_newaK (atype := .int) (a0 := (1000, .inl (fun _ => iI 0))) (a := 1000) hx hb (hts _ m_159) (ty := .int) rfl hM hS 45 rfl (fun cA => rfl) (by decide) (by decide) (Nat.le_of_ble_eq_true rfl) (Nat.le_of_ble_eq_true rfl) d_Model_init_48 (fun L38 κ38 cA38 H hA38 hZ38 e38 hk38 hL38 hM hS => ?_)
  have hc38 : cA38 = g 1 := Option.some.inj (hZ38.symm.trans (hK.2 1 _ rfl).2)
  subst hc38
  have e38 : κ38 45 = some (.inl (g 1, 1000, .inl (fun x => iI ((fun _ => (0 : Int)) x)))) := e38
  have e39 := (hk38 40 (by omega)).trans e33
  have e40 := (hk38 41 (by omega)).trans e34
  have e41 := (hk38 42 (by omega)).trans e35
  have e42 := (hk38 43 (by omega)).trans e36
  have e43 := (hk38 44 (by omega)).trans e37
  refine mw_putF (ci := 4) (i := 40) (v := .ref (L38 45)) (C := R_Model) (T := T_Model) (N := 23) hx hb hts in_Model ty_Model ty_Model_ok nm_Model hown hK hM hS e39 (((((hL38 40 (by omega)).trans (hL28 40 (by omega))).trans (hL20 40 (by omega))).trans (hL14 40 (by omega))).trans (hL8 40 (by omega))) rfl 9 (by decide) (hts _ m_554) rfl hin rfl (ty_Model_ok 9 (by decide)) rfl rfl (Nat.le_of_ble_eq_true rfl) d_Model_init_50 (fun κ44 H locs e44 hk44 hM hS => ?_)
  have e44 : κ44 40 = some (.inr (4, [.int (iI 0), .ref (L8 41), .int (iI 0), .int (iI (-1)), .ref (L14 42), .ref (L20 43), .ref (L28 44), .int (iI 0), .int (iI 0), .ref (L38 45), .null, .null, .null, .null, .int (iI 0), .int (iI 0), .int (iI 0), .null, .null, .null, .null, .null, .int (iI 0)])) := e44
  have e45 := (hk44 41 (by omega)).trans e40
  have e46 := (hk44 42 (by omega)).trans e41
  have e47 := (hk44 43 (by omega)).trans e42
  have e48 := (hk44 44 (by omega)).trans e43
  have e49 := (hk44 45 (by omega)).trans e38
  refine lv_aload_n hx hb d_Model_init_53 rfl (lv_at hl 0 rfl) ?_
  refine lv_sipush (v := iI (1000)) hx hb d_Model_init_54 (by decide) ?_
  refine mw_newaK (atype := .int) (a0 := (1000, .inl (fun _ => iI 0))) (a := 1000) hx hb (hts _ m_159) (ty := .int) rfl hM hS 46 rfl (fun cA => rfl) (by decide) (by decide) (Nat.le_of_ble_eq_true rfl) (Nat.le_of_ble_eq_true rfl) d_Model_init_57 (fun L50 κ50 cA50 H hA50 hZ50 e50 hk50 hL50 hM hS => ?_)
  have hc50 : cA50 = g 1 := Option.some.inj (hZ50.symm.trans (hK.2 1 _ rfl).2)
  subst hc50
  have e50 : κ50 46 = some (.inl (g 1, 1000, .inl (fun x => iI ((fun _ => (0 : Int)) x)))) := e50
  have e51 := (hk50 40 (by omega)).trans e44
  have e52 := (hk50 41 (by omega)).trans e45
  have e53 := (hk50 42 (by omega)).trans e46
  have e54 := (hk50 43 (by omega)).trans e47
  have e55 := (hk50 44 (by omega)).trans e48
  have e56 := (hk50 45 (by omega)).trans e49
  refine mw_putF (ci := 4) (i := 40) (v := .ref (L50 46)) (C := R_Model) (T := T_Model) (N := 23) hx hb hts in_Model ty_Model ty_Model_ok nm_Model hown hK hM hS e51 ((((((hL50 40 (by omega)).trans (hL38 40 (by omega))).trans (hL28 40 (by omega))).trans (hL20 40 (by omega))).trans (hL14 40 (by omega))).trans (hL8 40 (by omega))) rfl 10 (by decide) (hts _ m_555) rfl hin rfl (ty_Model_ok 10 (by decide)) rfl rfl (Nat.le_of_ble_eq_true rfl) d_Model_init_59 (fun κ57 H locs e57 hk57 hM hS => ?_)
  have e57 : κ57 40 = some (.inr (4, [.int (iI 0), .ref (L8 41), .int (iI 0), .int (iI (-1)), .ref (L14 42), .ref (L20 43), .ref (L28 44), .int (iI 0), .int (iI 0), .ref (L38 45), .ref (L50 46), .null, .null, .null, .int (iI 0), .int (iI 0), .int (iI 0), .null, .null, .null, .null, .null, .int (iI 0)])) := e57
  have e58 := (hk57 41 (by omega)).trans e52
  have e59 := (hk57 42 (by omega)).trans e53
  have e60 := (hk57 43 (by omega)).trans e54
  have e61 := (hk57 44 (by omega)).trans e55
  have e62 := (hk57 45 (by omega)).trans e56
  have e63 := (hk57 46 (by omega)).trans e50
  refine lv_aload_n hx hb d_Model_init_62 rfl (lv_at hl 0 rfl) ?_
  refine lv_sipush (v := iI (1000)) hx hb d_Model_init_63 (by decide) ?_
  refine mw_newaK (atype := .int) (a0 := (1000, .inl (fun _ => iI 0))) (a := 1000) hx hb (hts _ m_159) (ty := .int) rfl hM hS 47 rfl (fun cA => rfl) (by decide) (by decide) (Nat.le_of_ble_eq_true rfl) (Nat.le_of_ble_eq_true rfl) d_Model_init_66 (fun L64 κ64 cA64 H hA64 hZ64 e64 hk64 hL64 hM hS => ?_)
  have hc64 : cA64 = g 1 := Option.some.inj (hZ64.symm.trans (hK.2 1 _ rfl).2)
  subst hc64
  have e64 : κ64 47 = some (.inl (g 1, 1000, .inl (fun x => iI ((fun _ => (0 : Int)) x)))) := e64
  have e65 := (hk64 40 (by omega)).trans e57
  have e66 := (hk64 41 (by omega)).trans e58
  have e67 := (hk64 42 (by omega)).trans e59
  have e68 := (hk64 43 (by omega)).trans e60
  have e69 := (hk64 44 (by omega)).trans e61
  have e70 := (hk64 45 (by omega)).trans e62
  have e71 := (hk64 46 (by omega)).trans e63
  refine mw_putF (ci := 4) (i := 40) (v := .ref (L64 47)) (C := R_Model) (T := T_Model) (N := 23) hx hb hts in_Model ty_Model ty_Model_ok nm_Model hown hK hM hS e65 (((((((hL64 40 (by omega)).trans (hL50 40 (by omega))).trans (hL38 40 (by omega))).trans (hL28 40 (by omega))).trans (hL20 40 (by omega))).trans (hL14 40 (by omega))).trans (hL8 40 (by omega))) rfl 11 (by decide) (hts _ m_556) rfl hin rfl (ty_Model_ok 11 (by decide)) rfl rfl (Nat.le_of_ble_eq_true rfl) d_Model_init_68 (fun κ72 H locs e72 hk72 hM hS => ?_)
  have e72 : κ72 40 = some (.inr (4, [.int (iI 0), .ref (L8 41), .int (iI 0), .int (iI (-1)), .ref (L14 42), .ref (L20 43), .ref (L28 44), .int (iI 0), .int (iI 0), .ref (L38 45), .ref (L50 46), .ref (L64 47), .null, .null, .int (iI 0), .int (iI 0), .int (iI 0), .null, .null, .null, .null, .null, .int (iI 0)])) := e72
  have e73 := (hk72 41 (by omega)).trans e66
  have e74 := (hk72 42 (by omega)).trans e67
  have e75 := (hk72 43 (by omega)).trans e68
  have e76 := (hk72 44 (by omega)).trans e69
  have e77 := (hk72 45 (by omega)).trans e70
  have e78 := (hk72 46 (by omega)).trans e71
  have e79 := (hk72 47 (by omega)).trans e64
  refine lv_aload_n hx hb d_Model_init_71 rfl (lv_at hl 0 rfl) ?_
  refine lv_sipush (v := iI (1000)) hx hb d_Model_init_72 (by decide) ?_
  refine mw_newaK (atype := .int) (a0 := (1000, .inl (fun _ => iI 0))) (a := 1000) hx hb (hts _ m_159) (ty := .int) rfl hM hS 48 rfl (fun cA => rfl) (by decide) (by decide) (Nat.le_of_ble_eq_true rfl) (Nat.le_of_ble_eq_true rfl) d_Model_init_75 (fun L80 κ80 cA80 H hA80 hZ80 e80 hk80 hL80 hM hS => ?_)
  have hc80 : cA80 = g 1 := Option.some.inj (hZ80.symm.trans (hK.2 1 _ rfl).2)
  subst hc80
  have e80 : κ80 48 = some (.inl (g 1, 1000, .inl (fun x => iI ((fun _ => (0 : Int)) x)))) := e80
  have e81 := (hk80 40 (by omega)).trans e72
  have e82 := (hk80 41 (by omega)).trans e73
  have e83 := (hk80 42 (by omega)).trans e74
  have e84 := (hk80 43 (by omega)).trans e75
  have e85 := (hk80 44 (by omega)).trans e76
  have e86 := (hk80 45 (by omega)).trans e77
  have e87 := (hk80 46 (by omega)).trans e78
  have e88 := (hk80 47 (by omega)).trans e79
  refine mw_putF (ci := 4) (i := 40) (v := .ref (L80 48)) (C := R_Model) (T := T_Model) (N := 23) hx hb hts in_Model ty_Model ty_Model_ok nm_Model hown hK hM hS e81 ((((((((hL80 40 (by omega)).trans (hL64 40 (by omega))).trans (hL50 40 (by omega))).trans (hL38 40 (by omega))).trans (hL28 40 (by omega))).trans (hL20 40 (by omega))).trans (hL14 40 (by omega))).trans (hL8 40 (by omega))) rfl 12 (by decide) (hts _ m_557) rfl hin rfl (ty_Model_ok 12 (by decide)) rfl rfl (Nat.le_of_ble_eq_true rfl) d_Model_init_77 (fun κ89 H locs e89 hk89 hM hS => ?_)
  have e89 : κ89 40 = some (.inr (4, [.int (iI 0), .ref (L8 41), .int (iI 0), .int (iI (-1)), .ref (L14 42), .ref (L20 43), .ref (L28 44), .int (iI 0), .int (iI 0), .ref (L38 45), .ref (L50 46), .ref (L64 47), .ref (L80 48), .null, .int (iI 0), .int (iI 0), .int (iI 0), .null, .null, .null, .null, .null, .int (iI 0)])) := e89
  have e90 := (hk89 41 (by omega)).trans e82
  have e91 := (hk89 42 (by omega)).trans e83
  have e92 := (hk89 43 (by omega)).trans e84
  have e93 := (hk89 44 (by omega)).trans e85
  have e94 := (hk89 45 (by omega)).trans e86
  have e95 := (hk89 46 (by omega)).trans e87
  have e96 := (hk89 47 (by omega)).trans e88
  have e97 := (hk89 48 (by omega)).trans e80
  refine lv_aload_n hx hb d_Model_init_80 rfl (lv_at hl 0 rfl) ?_
  refine lv_sipush (v := iI (1000)) hx hb d_Model_init_81 (by decide) ?_
  refine mw_newaK (atype := .int) (a0 := (1000, .inl (fun _ => iI 0))) (a := 1000) hx hb (hts _ m_159) (ty := .int) rfl hM hS 49 rfl (fun cA => rfl) (by decide) (by decide) (Nat.le_of_ble_eq_true rfl) (Nat.le_of_ble_eq_true rfl) d_Model_init_84 (fun L98 κ98 cA98 H hA98 hZ98 e98 hk98 hL98 hM hS => ?_)
  have hc98 : cA98 = g 1 := Option.some.inj (hZ98.symm.trans (hK.2 1 _ rfl).2)
  subst hc98
  have e98 : κ98 49 = some (.inl (g 1, 1000, .inl (fun x => iI ((fun _ => (0 : Int)) x)))) := e98
  have e99 := (hk98 40 (by omega)).trans e89
  have e100 := (hk98 41 (by omega)).trans e90
  have e101 := (hk98 42 (by omega)).trans e91
  have e102 := (hk98 43 (by omega)).trans e92
  have e103 := (hk98 44 (by omega)).trans e93
  have e104 := (hk98 45 (by omega)).trans e94
  have e105 := (hk98 46 (by omega)).trans e95
  have e106 := (hk98 47 (by omega)).trans e96
  have e107 := (hk98 48 (by omega)).trans e97
  refine mw_putF (ci := 4) (i := 40) (v := .ref (L98 49)) (C := R_Model) (T := T_Model) (N := 23) hx hb hts in_Model ty_Model ty_Model_ok nm_Model hown hK hM hS e99 (((((((((hL98 40 (by omega)).trans (hL80 40 (by omega))).trans (hL64 40 (by omega))).trans (hL50 40 (by omega))).trans (hL38 40 (by omega))).trans (hL28 40 (by omega))).trans (hL20 40 (by omega))).trans (hL14 40 (by omega))).trans (hL8 40 (by omega))) rfl 13 (by decide) (hts _ m_558) rfl hin rfl (ty_Model_ok 13 (by decide)) rfl rfl (Nat.le_of_ble_eq_true rfl) d_Model_init_86 (fun κ108 H locs e108 hk108 hM hS => ?_)
  have e108 : κ108 40 = some (.inr (4, [.int (iI 0), .ref (L8 41), .int (iI 0), .int (iI (-1)), .ref (L14 42), .ref (L20 43), .ref (L28 44), .int (iI 0), .int (iI 0), .ref (L38 45), .ref (L50 46), .ref (L64 47), .ref (L80 48), .ref (L98 49), .int (iI 0), .int (iI 0), .int (iI 0), .null, .null, .null, .null, .null, .int (iI 0)])) := e108
  have e109 := (hk108 41 (by omega)).trans e100
  have e110 := (hk108 42 (by omega)).trans e101
  have e111 := (hk108 43 (by omega)).trans e102
  have e112 := (hk108 44 (by omega)).trans e103
  have e113 := (hk108 45 (by omega)).trans e104
  have e114 := (hk108 46 (by omega)).trans e105
  have e115 := (hk108 47 (by omega)).trans e106
  have e116 := (hk108 48 (by omega)).trans e107
  have e117 := (hk108 49 (by omega)).trans e98
  refine lv_aload_n hx hb d_Model_init_89 rfl (lv_at hl 0 rfl) ?_
  refine lv_bipush (v := iI (20)) hx hb d_Model_init_90 (by decide) ?_
  refine mw_newaK (atype := .int) (a0 := (20, .inl (fun _ => iI 0))) (a := 20) hx hb (hts _ m_159) (ty := .int) rfl hM hS 50 rfl (fun cA => rfl) (by decide) (by decide) (Nat.le_of_ble_eq_true rfl) (Nat.le_of_ble_eq_true rfl) d_Model_init_92 (fun L118 κ118 cA118 H hA118 hZ118 e118 hk118 hL118 hM hS => ?_)
  have hc118 : cA118 = g 1 := Option.some.inj (hZ118.symm.trans (hK.2 1 _ rfl).2)
  subst hc118
  have e118 : κ118 50 = some (.inl (g 1, 20, .inl (fun x => iI ((fun _ => (0 : Int)) x)))) := e118
  have e119 := (hk118 40 (by omega)).trans e108
  have e120 := (hk118 41 (by omega)).trans e109
  have e121 := (hk118 42 (by omega)).trans e110
  have e122 := (hk118 43 (by omega)).trans e111
  have e123 := (hk118 44 (by omega)).trans e112
  have e124 := (hk118 45 (by omega)).trans e113
  have e125 := (hk118 46 (by omega)).trans e114
  have e126 := (hk118 47 (by omega)).trans e115
  have e127 := (hk118 48 (by omega)).trans e116
  have e128 := (hk118 49 (by omega)).trans e117
  refine mw_putF (ci := 4) (i := 40) (v := .ref (L118 50)) (C := R_Model) (T := T_Model) (N := 23) hx hb hts in_Model ty_Model ty_Model_ok nm_Model hown hK hM hS e119 ((((((((((hL118 40 (by omega)).trans (hL98 40 (by omega))).trans (hL80 40 (by omega))).trans (hL64 40 (by omega))).trans (hL50 40 (by omega))).trans (hL38 40 (by omega))).trans (hL28 40 (by omega))).trans (hL20 40 (by omega))).trans (hL14 40 (by omega))).trans (hL8 40 (by omega))) rfl 17 (by decide) (hts _ m_562) rfl hin rfl (ty_Model_ok 17 (by decide)) rfl rfl (Nat.le_of_ble_eq_true rfl) d_Model_init_94 (fun κ129 H locs e129 hk129 hM hS => ?_)
  have e129 : κ129 40 = some (.inr (4, [.int (iI 0), .ref (L8 41), .int (iI 0), .int (iI (-1)), .ref (L14 42), .ref (L20 43), .ref (L28 44), .int (iI 0), .int (iI 0), .ref (L38 45), .ref (L50 46), .ref (L64 47), .ref (L80 48), .ref (L98 49), .int (iI 0), .int (iI 0), .int (iI 0), .ref (L118 50), .null, .null, .null, .null, .int (iI 0)])) := e129
  have e130 := (hk129 41 (by omega)).trans e120
  have e131 := (hk129 42 (by omega)).trans e121
  have e132 := (hk129 43 (by omega)).trans e122
  have e133 := (hk129 44 (by omega)).trans e123
  have e134 := (hk129 45 (by omega)).trans e124
  have e135 := (hk129 46 (by omega)).trans e125
  have e136 := (hk129 47 (by omega)).trans e126
  have e137 := (hk129 48 (by omega)).trans e127
  have e138 := (hk129 49 (by omega)).trans e128
  have e139 := (hk129 50 (by omega)).trans e118
  refine lv_aload_n hx hb d_Model_init_97 rfl (lv_at hl 0 rfl) ?_
  refine lv_bipush (v := iI (20)) hx hb d_Model_init_98 (by decide) ?_
  refine mw_newaK (atype := .int) (a0 := (20, .inl (fun _ => iI 0))) (a := 20) hx hb (hts _ m_159) (ty := .int) rfl hM hS 51 rfl (fun cA => rfl) (by decide) (by decide) (Nat.le_of_ble_eq_true rfl) (Nat.le_of_ble_eq_true rfl) d_Model_init_100 (fun L140 κ140 cA140 H hA140 hZ140 e140 hk140 hL140 hM hS => ?_)
  have hc140 : cA140 = g 1 := Option.some.inj (hZ140.symm.trans (hK.2 1 _ rfl).2)
  subst hc140
  have e140 : κ140 51 = some (.inl (g 1, 20, .inl (fun x => iI ((fun _ => (0 : Int)) x)))) := e140
  have e141 := (hk140 40 (by omega)).trans e129
  have e142 := (hk140 41 (by omega)).trans e130
  have e143 := (hk140 42 (by omega)).trans e131
  have e144 := (hk140 43 (by omega)).trans e132
  have e145 := (hk140 44 (by omega)).trans e133
  have e146 := (hk140 45 (by omega)).trans e134
  have e147 := (hk140 46 (by omega)).trans e135
  have e148 := (hk140 47 (by omega)).trans e136
  have e149 := (hk140 48 (by omega)).trans e137
  have e150 := (hk140 49 (by omega)).trans e138
  have e151 := (hk140 50 (by omega)).trans e139
  refine mw_putF (ci := 4) (i := 40) (v := .ref (L140 51)) (C := R_Model) (T := T_Model) (N := 23) hx hb hts in_Model ty_Model ty_Model_ok nm_Model hown hK hM hS e141 (((((((((((hL140 40 (by omega)).trans (hL118 40 (by omega))).trans (hL98 40 (by omega))).trans (hL80 40 (by omega))).trans (hL64 40 (by omega))).trans (hL50 40 (by omega))).trans (hL38 40 (by omega))).trans (hL28 40 (by omega))).trans (hL20 40 (by omega))).trans (hL14 40 (by omega))).trans (hL8 40 (by omega))) rfl 18 (by decide) (hts _ m_563) rfl hin rfl (ty_Model_ok 18 (by decide)) rfl rfl (Nat.le_of_ble_eq_true rfl) d_Model_init_102 (fun κ152 H locs e152 hk152 hM hS => ?_)
  have e152 : κ152 40 = some (.inr (4, [.int (iI 0), .ref (L8 41), .int (iI 0), .int (iI (-1)), .ref (L14 42), .ref (L20 43), .ref (L28 44), .int (iI 0), .int (iI 0), .ref (L38 45), .ref (L50 46), .ref (L64 47), .ref (L80 48), .ref (L98 49), .int (iI 0), .int (iI 0), .int (iI 0), .ref (L118 50), .ref (L140 51), .null, .null, .null, .int (iI 0)])) := e152
  have e153 := (hk152 41 (by omega)).trans e142
  have e154 := (hk152 42 (by omega)).trans e143
  have e155 := (hk152 43 (by omega)).trans e144
  have e156 := (hk152 44 (by omega)).trans e145
  have e157 := (hk152 45 (by omega)).trans e146
  have e158 := (hk152 46 (by omega)).trans e147
  have e159 := (hk152 47 (by omega)).trans e148
  have e160 := (hk152 48 (by omega)).trans e149
  have e161 := (hk152 49 (by omega)).trans e150
  have e162 := (hk152 50 (by omega)).trans e151
  have e163 := (hk152 51 (by omega)).trans e140
  refine lv_aload_n hx hb d_Model_init_105 rfl (lv_at hl 0 rfl) ?_
  refine lv_bipush (v := iI (20)) hx hb d_Model_init_106 (by decide) ?_
  refine mw_newaK (atype := .int) (a0 := (20, .inl (fun _ => iI 0))) (a := 20) hx hb (hts _ m_159) (ty := .int) rfl hM hS 52 rfl (fun cA => rfl) (by decide) (by decide) (Nat.le_of_ble_eq_true rfl) (Nat.le_of_ble_eq_true rfl) d_Model_init_108 (fun L164 κ164 cA164 H hA164 hZ164 e164 hk164 hL164 hM hS => ?_)
  have hc164 : cA164 = g 1 := Option.some.inj (hZ164.symm.trans (hK.2 1 _ rfl).2)
  subst hc164
  have e164 : κ164 52 = some (.inl (g 1, 20, .inl (fun x => iI ((fun _ => (0 : Int)) x)))) := e164
  have e165 := (hk164 40 (by omega)).trans e152
  have e166 := (hk164 41 (by omega)).trans e153
  have e167 := (hk164 42 (by omega)).trans e154
  have e168 := (hk164 43 (by omega)).trans e155
  have e169 := (hk164 44 (by omega)).trans e156
  have e170 := (hk164 45 (by omega)).trans e157
  have e171 := (hk164 46 (by omega)).trans e158
  have e172 := (hk164 47 (by omega)).trans e159
  have e173 := (hk164 48 (by omega)).trans e160
  have e174 := (hk164 49 (by omega)).trans e161
  have e175 := (hk164 50 (by omega)).trans e162
  have e176 := (hk164 51 (by omega)).trans e163
  refine mw_putF (ci := 4) (i := 40) (v := .ref (L164 52)) (C := R_Model) (T := T_Model) (N := 23) hx hb hts in_Model ty_Model ty_Model_ok nm_Model hown hK hM hS e165 ((((((((((((hL164 40 (by omega)).trans (hL140 40 (by omega))).trans (hL118 40 (by omega))).trans (hL98 40 (by omega))).trans (hL80 40 (by omega))).trans (hL64 40 (by omega))).trans (hL50 40 (by omega))).trans (hL38 40 (by omega))).trans (hL28 40 (by omega))).trans (hL20 40 (by omega))).trans (hL14 40 (by omega))).trans (hL8 40 (by omega))) rfl 19 (by decide) (hts _ m_564) rfl hin rfl (ty_Model_ok 19 (by decide)) rfl rfl (Nat.le_of_ble_eq_true rfl) d_Model_init_110 (fun κ177 H locs e177 hk177 hM hS => ?_)
  have e177 : κ177 40 = some (.inr (4, [.int (iI 0), .ref (L8 41), .int (iI 0), .int (iI (-1)), .ref (L14 42), .ref (L20 43), .ref (L28 44), .int (iI 0), .int (iI 0), .ref (L38 45), .ref (L50 46), .ref (L64 47), .ref (L80 48), .ref (L98 49), .int (iI 0), .int (iI 0), .int (iI 0), .ref (L118 50), .ref (L140 51), .ref (L164 52), .null, .null, .int (iI 0)])) := e177
  have e178 := (hk177 41 (by omega)).trans e166
  have e179 := (hk177 42 (by omega)).trans e167
  have e180 := (hk177 43 (by omega)).trans e168
  have e181 := (hk177 44 (by omega)).trans e169
  have e182 := (hk177 45 (by omega)).trans e170
  have e183 := (hk177 46 (by omega)).trans e171
  have e184 := (hk177 47 (by omega)).trans e172
  have e185 := (hk177 48 (by omega)).trans e173
  have e186 := (hk177 49 (by omega)).trans e174
  have e187 := (hk177 50 (by omega)).trans e175
  have e188 := (hk177 51 (by omega)).trans e176
  have e189 := (hk177 52 (by omega)).trans e164
  refine lv_aload_n hx hb d_Model_init_113 rfl (lv_at hl 0 rfl) ?_
  refine lv_bipush (v := iI (20)) hx hb d_Model_init_114 (by decide) ?_
  refine mw_newaK (atype := .int) (a0 := (20, .inl (fun _ => iI 0))) (a := 20) hx hb (hts _ m_159) (ty := .int) rfl hM hS 53 rfl (fun cA => rfl) (by decide) (by decide) (Nat.le_of_ble_eq_true rfl) (Nat.le_of_ble_eq_true rfl) d_Model_init_116 (fun L190 κ190 cA190 H hA190 hZ190 e190 hk190 hL190 hM hS => ?_)
  have hc190 : cA190 = g 1 := Option.some.inj (hZ190.symm.trans (hK.2 1 _ rfl).2)
  subst hc190
  have e190 : κ190 53 = some (.inl (g 1, 20, .inl (fun x => iI ((fun _ => (0 : Int)) x)))) := e190
  have e191 := (hk190 40 (by omega)).trans e177
  have e192 := (hk190 41 (by omega)).trans e178
  have e193 := (hk190 42 (by omega)).trans e179
  have e194 := (hk190 43 (by omega)).trans e180
  have e195 := (hk190 44 (by omega)).trans e181
  have e196 := (hk190 45 (by omega)).trans e182
  have e197 := (hk190 46 (by omega)).trans e183
  have e198 := (hk190 47 (by omega)).trans e184
  have e199 := (hk190 48 (by omega)).trans e185
  have e200 := (hk190 49 (by omega)).trans e186
  have e201 := (hk190 50 (by omega)).trans e187
  have e202 := (hk190 51 (by omega)).trans e188
  have e203 := (hk190 52 (by omega)).trans e189
  refine mw_putF (ci := 4) (i := 40) (v := .ref (L190 53)) (C := R_Model) (T := T_Model) (N := 23) hx hb hts in_Model ty_Model ty_Model_ok nm_Model hown hK hM hS e191 (((((((((((((hL190 40 (by omega)).trans (hL164 40 (by omega))).trans (hL140 40 (by omega))).trans (hL118 40 (by omega))).trans (hL98 40 (by omega))).trans (hL80 40 (by omega))).trans (hL64 40 (by omega))).trans (hL50 40 (by omega))).trans (hL38 40 (by omega))).trans (hL28 40 (by omega))).trans (hL20 40 (by omega))).trans (hL14 40 (by omega))).trans (hL8 40 (by omega))) rfl 20 (by decide) (hts _ m_565) rfl hin rfl (ty_Model_ok 20 (by decide)) rfl rfl (Nat.le_of_ble_eq_true rfl) d_Model_init_118 (fun κ204 H locs e204 hk204 hM hS => ?_)
  have e204 : κ204 40 = some (.inr (4, [.int (iI 0), .ref (L8 41), .int (iI 0), .int (iI (-1)), .ref (L14 42), .ref (L20 43), .ref (L28 44), .int (iI 0), .int (iI 0), .ref (L38 45), .ref (L50 46), .ref (L64 47), .ref (L80 48), .ref (L98 49), .int (iI 0), .int (iI 0), .int (iI 0), .ref (L118 50), .ref (L140 51), .ref (L164 52), .ref (L190 53), .null, .int (iI 0)])) := e204
  have e205 := (hk204 41 (by omega)).trans e192
  have e206 := (hk204 42 (by omega)).trans e193
  have e207 := (hk204 43 (by omega)).trans e194
  have e208 := (hk204 44 (by omega)).trans e195
  have e209 := (hk204 45 (by omega)).trans e196
  have e210 := (hk204 46 (by omega)).trans e197
  have e211 := (hk204 47 (by omega)).trans e198
  have e212 := (hk204 48 (by omega)).trans e199
  have e213 := (hk204 49 (by omega)).trans e200
  have e214 := (hk204 50 (by omega)).trans e201
  have e215 := (hk204 51 (by omega)).trans e202
  have e216 := (hk204 52 (by omega)).trans e203
  have e217 := (hk204 53 (by omega)).trans e190
  refine lv_aload_n hx hb d_Model_init_121 rfl (lv_at hl 0 rfl) ?_
  refine lv_sipush (v := iI (4200)) hx hb d_Model_init_122 (by decide) ?_
  refine mw_newaK (atype := .int) (a0 := (4200, .inl (fun _ => iI 0))) (a := 4200) hx hb (hts _ m_159) (ty := .int) rfl hM hS 54 rfl (fun cA => rfl) (by decide) (by decide) (Nat.le_of_ble_eq_true rfl) (Nat.le_of_ble_eq_true rfl) d_Model_init_125 (fun L218 κ218 cA218 H hA218 hZ218 e218 hk218 hL218 hM hS => ?_)
  have hc218 : cA218 = g 1 := Option.some.inj (hZ218.symm.trans (hK.2 1 _ rfl).2)
  subst hc218
  have e218 : κ218 54 = some (.inl (g 1, 4200, .inl (fun x => iI ((fun _ => (0 : Int)) x)))) := e218
  have e219 := (hk218 40 (by omega)).trans e204
  have e220 := (hk218 41 (by omega)).trans e205
  have e221 := (hk218 42 (by omega)).trans e206
  have e222 := (hk218 43 (by omega)).trans e207
  have e223 := (hk218 44 (by omega)).trans e208
  have e224 := (hk218 45 (by omega)).trans e209
  have e225 := (hk218 46 (by omega)).trans e210
  have e226 := (hk218 47 (by omega)).trans e211
  have e227 := (hk218 48 (by omega)).trans e212
  have e228 := (hk218 49 (by omega)).trans e213
  have e229 := (hk218 50 (by omega)).trans e214
  have e230 := (hk218 51 (by omega)).trans e215
  have e231 := (hk218 52 (by omega)).trans e216
  have e232 := (hk218 53 (by omega)).trans e217
  refine mw_putF (ci := 4) (i := 40) (v := .ref (L218 54)) (C := R_Model) (T := T_Model) (N := 23) hx hb hts in_Model ty_Model ty_Model_ok nm_Model hown hK hM hS e219 ((((((((((((((hL218 40 (by omega)).trans (hL190 40 (by omega))).trans (hL164 40 (by omega))).trans (hL140 40 (by omega))).trans (hL118 40 (by omega))).trans (hL98 40 (by omega))).trans (hL80 40 (by omega))).trans (hL64 40 (by omega))).trans (hL50 40 (by omega))).trans (hL38 40 (by omega))).trans (hL28 40 (by omega))).trans (hL20 40 (by omega))).trans (hL14 40 (by omega))).trans (hL8 40 (by omega))) rfl 21 (by decide) (hts _ m_566) rfl hin rfl (ty_Model_ok 21 (by decide)) rfl rfl (Nat.le_of_ble_eq_true rfl) d_Model_init_127 (fun κ233 H locs e233 hk233 hM hS => ?_)
  have e233 : κ233 40 = some (.inr (4, [.int (iI 0), .ref (L8 41), .int (iI 0), .int (iI (-1)), .ref (L14 42), .ref (L20 43), .ref (L28 44), .int (iI 0), .int (iI 0), .ref (L38 45), .ref (L50 46), .ref (L64 47), .ref (L80 48), .ref (L98 49), .int (iI 0), .int (iI 0), .int (iI 0), .ref (L118 50), .ref (L140 51), .ref (L164 52), .ref (L190 53), .ref (L218 54), .int (iI 0)])) := e233
  have e234 := (hk233 41 (by omega)).trans e220
  have e235 := (hk233 42 (by omega)).trans e221
  have e236 := (hk233 43 (by omega)).trans e222
  have e237 := (hk233 44 (by omega)).trans e223
  have e238 := (hk233 45 (by omega)).trans e224
  have e239 := (hk233 46 (by omega)).trans e225
  have e240 := (hk233 47 (by omega)).trans e226
  have e241 := (hk233 48 (by omega)).trans e227
  have e242 := (hk233 49 (by omega)).trans e228
  have e243 := (hk233 50 (by omega)).trans e229
  have e244 := (hk233 51 (by omega)).trans e230
  have e245 := (hk233 52 (by omega)).trans e231
  have e246 := (hk233 53 (by omega)).trans e232
  have e247 := (hk233 54 (by omega)).trans e218
  refine lv_iconst (v := iI (0)) hx hb d_Model_init_130 rfl ?_
  refine lv_istore_n (lv' := [(1, .int (iI 0)), (0, .ref (L 40))]) hx hb d_Model_init_131 rfl hl (by decide) rfl (fun ls hl => ?_)
  have hX : ∀ q, q < 14 → κ233 (41 + q) = some (.inl (g 1, mdSz q, .inl (fun x => iI (mA0 0 q x)))) := fun q hq => by
    rw [show (fun x => iI (mA0 0 q x)) = fun x => iI ((fun _ => (0 : Int)) x) from funext fun x => by rw [mA0_z]]
    rcases (show q = 0 ∨ q = 1 ∨ q = 2 ∨ q = 3 ∨ q = 4 ∨ q = 5 ∨ q = 6 ∨ q = 7 ∨ q = 8 ∨ q = 9 ∨ q = 10 ∨ q = 11 ∨ q = 12 ∨ q = 13 by omega) with rfl | rfl | rfl | rfl | rfl | rfl | rfl | rfl | rfl | rfl | rfl | rfl | rfl | rfl
    · exact e234
    · exact e235
    · exact e236
    · exact e237
    · exact e238
    · exact e239
    · exact e240
    · exact e241
    · exact e242
    · exact e243
    · exact e244
    · exact e245
    · exact e246
    · exact e247
  refine W.widen (k := 14) (n := 31688) (Nat.le_of_ble_eq_true rfl) (Nat.le_of_ble_eq_true rfl) ?_
  exact loop132 _ 0 κ233 L218 (Nat.lt_succ_self _) (by omega) (by unfold mdFs; rw [show L218 41 = L8 41 from (((((((((((((hL218 41 (by omega)).trans (hL190 41 (by omega))).trans (hL164 41 (by omega))).trans (hL140 41 (by omega))).trans (hL118 41 (by omega))).trans (hL98 41 (by omega))).trans (hL80 41 (by omega))).trans (hL64 41 (by omega))).trans (hL50 41 (by omega))).trans (hL38 41 (by omega))).trans (hL28 41 (by omega))).trans (hL20 41 (by omega))).trans (hL14 41 (by omega))), show L218 42 = L14 42 from ((((((((((((hL218 42 (by omega)).trans (hL190 42 (by omega))).trans (hL164 42 (by omega))).trans (hL140 42 (by omega))).trans (hL118 42 (by omega))).trans (hL98 42 (by omega))).trans (hL80 42 (by omega))).trans (hL64 42 (by omega))).trans (hL50 42 (by omega))).trans (hL38 42 (by omega))).trans (hL28 42 (by omega))).trans (hL20 42 (by omega))), show L218 43 = L20 43 from (((((((((((hL218 43 (by omega)).trans (hL190 43 (by omega))).trans (hL164 43 (by omega))).trans (hL140 43 (by omega))).trans (hL118 43 (by omega))).trans (hL98 43 (by omega))).trans (hL80 43 (by omega))).trans (hL64 43 (by omega))).trans (hL50 43 (by omega))).trans (hL38 43 (by omega))).trans (hL28 43 (by omega))), show L218 44 = L28 44 from ((((((((((hL218 44 (by omega)).trans (hL190 44 (by omega))).trans (hL164 44 (by omega))).trans (hL140 44 (by omega))).trans (hL118 44 (by omega))).trans (hL98 44 (by omega))).trans (hL80 44 (by omega))).trans (hL64 44 (by omega))).trans (hL50 44 (by omega))).trans (hL38 44 (by omega))), show L218 45 = L38 45 from (((((((((hL218 45 (by omega)).trans (hL190 45 (by omega))).trans (hL164 45 (by omega))).trans (hL140 45 (by omega))).trans (hL118 45 (by omega))).trans (hL98 45 (by omega))).trans (hL80 45 (by omega))).trans (hL64 45 (by omega))).trans (hL50 45 (by omega))), show L218 46 = L50 46 from ((((((((hL218 46 (by omega)).trans (hL190 46 (by omega))).trans (hL164 46 (by omega))).trans (hL140 46 (by omega))).trans (hL118 46 (by omega))).trans (hL98 46 (by omega))).trans (hL80 46 (by omega))).trans (hL64 46 (by omega))), show L218 47 = L64 47 from (((((((hL218 47 (by omega)).trans (hL190 47 (by omega))).trans (hL164 47 (by omega))).trans (hL140 47 (by omega))).trans (hL118 47 (by omega))).trans (hL98 47 (by omega))).trans (hL80 47 (by omega))), show L218 48 = L80 48 from ((((((hL218 48 (by omega)).trans (hL190 48 (by omega))).trans (hL164 48 (by omega))).trans (hL140 48 (by omega))).trans (hL118 48 (by omega))).trans (hL98 48 (by omega))), show L218 49 = L98 49 from (((((hL218 49 (by omega)).trans (hL190 49 (by omega))).trans (hL164 49 (by omega))).trans (hL140 49 (by omega))).trans (hL118 49 (by omega))), show L218 50 = L118 50 from ((((hL218 50 (by omega)).trans (hL190 50 (by omega))).trans (hL164 50 (by omega))).trans (hL140 50 (by omega))), show L218 51 = L140 51 from (((hL218 51 (by omega)).trans (hL190 51 (by omega))).trans (hL164 51 (by omega))), show L218 52 = L164 52 from ((hL218 52 (by omega)).trans (hL190 52 (by omega))), show L218 53 = L190 53 from (hL218 53 (by omega))]; exact e233) hX (fun r h1 => by rw [hL218 r (by omega), hL190 r (by omega), hL164 r (by omega), hL140 r (by omega), hL118 r (by omega), hL98 r (by omega), hL80 r (by omega), hL64 r (by omega), hL50 r (by omega), hL38 r (by omega), hL28 r (by omega), hL20 r (by omega), hL14 r (by omega), hL8 r (by omega)]) (fun r h1 => by rw [hk233 r (by omega), hk218 r (by omega), hk204 r (by omega), hk190 r (by omega), hk177 r (by omega), hk164 r (by omega), hk152 r (by omega), hk140 r (by omega), hk129 r (by omega), hk118 r (by omega), hk108 r (by omega), hk98 r (by omega), hk89 r (by omega), hk80 r (by omega), hk72 r (by omega), hk64 r (by omega), hk57 r (by omega), hk50 r (by omega), hk44 r (by omega), hk38 r (by omega), hk33 r (by omega), hk28 r (by omega), hk24 r (by omega), hk20 r (by omega), hk17 r (by omega), hk14 r (by omega), hk12 r (by omega), hk10 r (by omega), hk8 r (by omega)]) _ _ ls hM hS (lv_sub hl [0, 1] rfl)
