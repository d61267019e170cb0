set_option maxHeartbeats 4000000 in
set_option maxRecDepth 100000 in
theorem c_Doc_init (l : Launch) (D : va_G) (g : Nat → ClassId) (lo : Nat) (L : Nat → Nat) (κ : Nat → Option va_E) (he : κ 0 = some (.inr (dbC, [.null, .null, .null, .null, .null, .int (iI 0), .int (iI 0)]))) : Met l y_Doc_init w_Doc_init ({ frames := 5, cells := 46, slots := 37673, locals := 128 }) (mwPA D vwCl (tyL g) lo L κ [.ref (L 0)]) (mwQ D vwCl lo (fun v L1 κ1 => v = none ∧ (∀ r, (r = 0 ∨ 33 < r) → L1 r = L r) ∧ dbs g L1 κ1 (-1) (-1) 0 (fun _ => (0 : Int)) 0 (fun _ => (0 : Int)) (fun _ _ => (0 : Int)) 0 2 (fun _ => 5) (fun _ => eB) ∧ ∀ r, 33 < r → κ1 r = κ r)) 46 37673 (fun q => lo ≤ q) := by
  refine Met.ofW (cc := b_Doc_init) (maxL := 2) (ret := (Option.none : Option Jvm.ClassFile.FieldType)) (by decide) rfl ?_
  intro p e s m args below meth c s₁ B hml hpre
  obtain ⟨⟨hargs, hM, hK⟩, hAO⟩ := hpre
  have hx := B.exec
  have hb := B.bytes
  have hr := B.returns
  have hts : ∀ w ∈ wA, w.before args s = true := fun w h => atoms_spec (ws := w_Doc_init) B.pre w (List.mem_cons_of_mem _ h)
  have hown : s.vm.findClass R_Doc = some m.cls := findClass_of_methodNamed B.named
  have hlocks := B.notSynchronized
  have hin : meth.name = "<init>" := (name_of_methodNamed B.named B.method).1
  have hS : va_S (fun q => lo ≤ q) s.heap s.heap [] := va_S.rf
  have loop43 : ∀ (N : Nat) (k : Int) (L1 : Nat → Nat) (κ1 : Nat → Option va_E) (fA : Nat → Option Nat) (nT : Nat) (nF : Nat), (8 - k).toNat < N → (0 ≤ k ∧ k ≤ 8) → (κ1 0 = some (.inr (dbC, [.ref (L1 2), .ref (L1 1), .ref (L1 4), .null, .null, .int (iI 0), .int (iI 0)]))) → (κ1 1 = some (.inl (g 2, 8, .inr (.inr (.inr (.inr fA)))))) → (∀ q, q < k.toNat → fA q = some (L1 (16 + 2 * q))) → (bxs g L1 κ1 2 3 2000 nT 0 (fun _ => (0 : Int))) → (bxs g L1 κ1 4 5 2005 nF 0 (fun _ => (0 : Int))) → (∀ q, q < k.toNat → ∃ n, bxs g L1 κ1 (16 + 2 * q) (17 + 2 * q) 2000 n 5 eB) → (∀ r, (r = 0 ∨ 33 < r) → L1 r = L r) → (∀ r, 33 < r → κ1 r = κ r) → ∀ (cu su : Nat), cu ≤ 5 + 4 * k.toNat → su ≤ 142 + 4077 * k.toNat → ∀ (H : Heap) (locs : List Loc) (ls : Array Slot), mw D vwCl lo L1 κ1 H → va_S (fun q => lo ≤ q) s.heap H locs → lv_has ls 2 [(1, .int (iI k)), (0, .ref (L 0))] → W p l e (headSpec w_Doc_init ({ frames := 5, cells := 46, slots := 37673, locals := 128 })).room s m args below meth c H locs cu su (MQ below (mwQ D vwCl lo (fun v L1 κ1 => v = none ∧ (∀ r, (r = 0 ∨ 33 < r) → L1 r = L r) ∧ dbs g L1 κ1 (-1) (-1) 0 (fun _ => (0 : Int)) 0 (fun _ => (0 : Int)) (fun _ _ => (0 : Int)) 0 2 (fun _ => 5) (fun _ => eB) ∧ ∀ r, 33 < r → κ1 r = κ r)) args s 46 37673 (fun q => lo ≤ q)) (F0 m 43 ls []) := by
    intro N
    induction N with
    | zero => intro k L1 κ1 fA nT nF hms; exact absurd hms (Nat.not_lt_zero _)
    | succ N ih =>
      intro k L1 κ1 fA nT nF hms hk hO hA hA2 hT hW hF hLr hKr cu su hcu hsu H locs ls hM hS hl
      refine lv_iload_n hx hb d_Doc_init_43 rfl (lv_at hl 0 rfl) ?_
      refine lv_bipush (v := iI (8)) hx hb d_Doc_init_44 (by decide) ?_
      refine ia_icmp_ge (a := k) (b := 8) (tgt := 80) hx hb d_Doc_init_46 (by decide) (by omega) (by omega) (fun c1 => ?_) (fun c1 => ?_)
      · refine lv_aload_n hx hb d_Doc_init_80 rfl (lv_at hl 1 rfl) ?_
        refine mw_newobj (C := R_Nodes) (T := T_Nodes) (N := 9) (ci := 1) (fs := [.null, .null, .null, .null, .null, .null, .null, .null, .int (iI 0)]) hx hb hts in_Nodes ty_Nodes ty_Nodes_ok hown (hts _ m_125) (hts _ m_126) (hts _ m_56) hK hM hS 6 rfl (by intro z hz; rcases (show z = 0 ∨ z = 1 ∨ z = 2 ∨ z = 3 ∨ z = 4 ∨ z = 5 ∨ z = 6 ∨ z = 7 ∨ z = 8 by omega) with rfl | rfl | rfl | rfl | rfl | rfl | rfl | rfl | rfl <;> rfl) (Nat.le_trans (m := 46) (by omega) (Nat.le_of_ble_eq_true rfl)) (Nat.le_trans (m := 37673) (by omega) (Nat.le_of_ble_eq_true rfl)) d_Doc_init_81 (fun L2 κ2 H e2 hk2 hL2 hM hS => ?_)
        have hB3 := bxs_keep hT (hk2 2 (by omega)) (hk2 3 (by omega)) (hL2 3 (by omega))
        have hB4 := bxs_keep hW (hk2 4 (by omega)) (hk2 5 (by omega)) (hL2 5 (by omega))
        have e5 := (hk2 0 (by omega)).trans hO
        have e6 := (hk2 1 (by omega)).trans hA
        refine lv_dup hx hb d_Doc_init_84 rfl ?_
        refine lv_aload_n hx hb d_Doc_init_85 rfl (lv_at hl 1 rfl) ?_
        refine mw_get (ci := 3) (i := 0) (v := .ref (L1 2)) (C := R_Doc) (T := T_Doc) (N := 7) hx hb hts in_Doc hown hK hM e5 ((hL2 0 (by omega)).trans (hLr 0 (by omega))) rfl 0 (by decide) (hts _ m_185) rfl d_Doc_init_86 ?_
        refine mw_callI (b := L2 6) (As := [.ref (L2 2)]) (rest := [.ref (L2 6), .ref (L 0)]) ⟨hx, hb, hml, hown, hts⟩ hK hM hS (c_Nodes_init l D g lo L2 κ2 e2) (cwI 1 hts (gW m_129) rfl rfl rfl (hts _ m_56) (hts _ m_127) (hts _ m_128) rfl (by decide +kernel) ⟨Nat.le_of_ble_eq_true rfl, Nat.le_of_ble_eq_true rfl⟩) rfl hl.1 (by rw [show L2 2 = L1 2 from (hL2 2 (by omega))]; rfl) (Nat.le_of_ble_eq_true rfl) d_Doc_init_89 ⟨(Nat.le_trans (m := 46) (by omega) (Nat.le_of_ble_eq_true rfl)), (Nat.le_trans (m := 37673) (by omega) (Nat.le_of_ble_eq_true rfl))⟩ (fun v7 L7 κ7 H locs hp7 hM hS => ?_)
        obtain ⟨rfl, hL7, hN7, hk7⟩ := hp7
        have hB8 := bxs_keep hB3 (hk7 2 (by omega)) (hk7 3 (by omega)) (hL7 3 (by omega))
        have hB9 := bxs_keep hB4 (hk7 4 (by omega)) (hk7 5 (by omega)) (hL7 5 (by omega))
        have e10 := (hk7 0 (by omega)).trans e5
        have e11 := (hk7 1 (by omega)).trans e6
        refine mw_putF (ci := 3) (i := 0) (v := .ref (L2 6)) (C := R_Doc) (T := T_Doc) (N := 7) hx hb hts in_Doc ty_Doc ty_Doc_ok nm_Doc hown hK hM hS e10 (((hL7 0 (by omega)).trans (hL2 0 (by omega))).trans (hLr 0 (by omega))) rfl 3 (by decide) (hts _ m_188) rfl hin rfl (ty_Doc_ok 3 (by decide)) rfl rfl (Nat.le_of_ble_eq_true rfl) d_Doc_init_92 (fun κ12 H locs e12 hk12 hM hS => ?_)
        have e12 : κ12 0 = some (.inr (3, [.ref (L1 2), .ref (L1 1), .ref (L1 4), .ref (L2 6), .null, .int (iI 0), .int (iI 0)])) := e12
        have hB13 := bxs_keep hB8 (hk12 2 (by omega)) (hk12 3 (by omega)) rfl
        have hB14 := bxs_keep hB9 (hk12 4 (by omega)) (hk12 5 (by omega)) rfl
        have hN15 := nds_keep hN7 (fun r h1 h2 => hk12 r (by omega)) (fun r h1 h2 => rfl) rfl
        have e16 := (hk12 1 (by omega)).trans e11
        refine lv_aload_n hx hb d_Doc_init_95 rfl (lv_at hl 1 rfl) ?_
        refine mw_newobj (C := R_Reader) (T := T_Reader) (N := 6) (ci := 2) (fs := [.null, .null, .int (iI 0), .int (iI 0), .int (iI 0), .int (iI 0)]) hx hb hts in_Reader ty_Reader ty_Reader_ok hown (hts _ m_160) (hts _ m_161) (hts _ m_57) hK hM hS 14 rfl (by intro z hz; rcases (show z = 0 ∨ z = 1 ∨ z = 2 ∨ z = 3 ∨ z = 4 ∨ z = 5 by omega) with rfl | rfl | rfl | rfl | rfl | rfl <;> rfl) (Nat.le_trans (m := 46) (by omega) (Nat.le_of_ble_eq_true rfl)) (Nat.le_trans (m := 37673) (by omega) (Nat.le_of_ble_eq_true rfl)) d_Doc_init_96 (fun L17 κ17 H e17 hk17 hL17 hM hS => ?_)
        have hB18 := bxs_keep hB13 (hk17 2 (by omega)) (hk17 3 (by omega)) (hL17 3 (by omega))
        have hB19 := bxs_keep hB14 (hk17 4 (by omega)) (hk17 5 (by omega)) (hL17 5 (by omega))
        have hN20 := nds_keep hN15 (fun r h1 h2 => hk17 r (by omega)) (fun r h1 h2 => hL17 r (by omega)) (hL17 2 (by omega))
        have e21 := (hk17 0 (by omega)).trans e12
        have e22 := (hk17 1 (by omega)).trans e16
        refine lv_dup hx hb d_Doc_init_99 rfl ?_
        refine lv_aload_n hx hb d_Doc_init_100 rfl (lv_at hl 1 rfl) ?_
        refine mw_get (ci := 3) (i := 0) (v := .ref (L2 6)) (C := R_Doc) (T := T_Doc) (N := 7) hx hb hts in_Doc hown hK hM e21 ((((hL17 0 (by omega)).trans (hL7 0 (by omega))).trans (hL2 0 (by omega))).trans (hLr 0 (by omega))) rfl 3 (by decide) (hts _ m_188) rfl d_Doc_init_101 ?_
        refine lv_aload_n hx hb d_Doc_init_104 rfl (lv_at hl 1 rfl) ?_
        refine mw_get (ci := 3) (i := 0) (v := .ref (L1 2)) (C := R_Doc) (T := T_Doc) (N := 7) hx hb hts in_Doc hown hK hM e21 ((((hL17 0 (by omega)).trans (hL7 0 (by omega))).trans (hL2 0 (by omega))).trans (hLr 0 (by omega))) rfl 0 (by decide) (hts _ m_185) rfl d_Doc_init_105 ?_
        refine mw_callI (b := L17 14) (As := [.ref (L17 6), .ref (L17 2)]) (rest := [.ref (L17 14), .ref (L 0)]) ⟨hx, hb, hml, hown, hts⟩ hK hM hS (c_Reader_init l D g lo L17 κ17 e17) (cwI 2 hts (gW m_164) rfl rfl rfl (hts _ m_57) (hts _ m_162) (hts _ m_163) rfl (by decide +kernel) ⟨Nat.le_of_ble_eq_true rfl, Nat.le_of_ble_eq_true rfl⟩) rfl hl.1 (by rw [show L17 6 = L2 6 from ((hL17 6 (by omega)).trans (hL7 6 (by omega))), show L17 2 = L1 2 from (((hL17 2 (by omega)).trans (hL7 2 (by omega))).trans (hL2 2 (by omega)))]; rfl) (Nat.le_of_ble_eq_true rfl) d_Doc_init_108 ⟨(Nat.le_trans (m := 46) (by omega) (Nat.le_of_ble_eq_true rfl)), (Nat.le_trans (m := 37673) (by omega) (Nat.le_of_ble_eq_true rfl))⟩ (fun v23 L23 κ23 H locs hp23 hM hS => ?_)
        obtain ⟨rfl, rfl, hR23, hk23⟩ := hp23
        have hB24 := bxs_keep hB18 (hk23 2 (by omega)) (hk23 3 (by omega)) rfl
        have hB25 := bxs_keep hB19 (hk23 4 (by omega)) (hk23 5 (by omega)) rfl
        have hN26 := nds_keep hN20 (fun r h1 h2 => hk23 r (by omega)) (fun r h1 h2 => rfl) rfl
        have e27 := (hk23 0 (by omega)).trans e21
        have e28 := (hk23 1 (by omega)).trans e22
        refine mw_putF (ci := 3) (i := 0) (v := .ref (L17 14)) (C := R_Doc) (T := T_Doc) (N := 7) hx hb hts in_Doc ty_Doc ty_Doc_ok nm_Doc hown hK hM hS e27 ((((hL17 0 (by omega)).trans (hL7 0 (by omega))).trans (hL2 0 (by omega))).trans (hLr 0 (by omega))) rfl 4 (by decide) (hts _ m_189) rfl hin rfl (ty_Doc_ok 4 (by decide)) rfl rfl (Nat.le_of_ble_eq_true rfl) d_Doc_init_111 (fun κ29 H locs e29 hk29 hM hS => ?_)
        have e29 : κ29 0 = some (.inr (3, [.ref (L1 2), .ref (L1 1), .ref (L1 4), .ref (L2 6), .ref (L17 14), .int (iI 0), .int (iI 0)])) := e29
        have hB30 := bxs_keep hB24 (hk29 2 (by omega)) (hk29 3 (by omega)) rfl
        have hB31 := bxs_keep hB25 (hk29 4 (by omega)) (hk29 5 (by omega)) rfl
        have hN32 := nds_keep hN26 (fun r h1 h2 => hk29 r (by omega)) (fun r h1 h2 => rfl) rfl
        have e33 := (hk29 1 (by omega)).trans e28
        have e34 := (hk29 14 (by omega)).trans hR23
        refine lv_aload_n hx hb d_Doc_init_114 rfl (lv_at hl 1 rfl) ?_
        refine lv_iconst (v := iI (-1)) hx hb d_Doc_init_115 rfl ?_
        refine mw_put (ci := 3) (i := 0) (v := .int (iI (-1))) (C := R_Doc) (T := T_Doc) (N := 7) hx hb hts in_Doc ty_Doc ty_Doc_ok nm_Doc hown hK hM hS e29 ((((hL17 0 (by omega)).trans (hL7 0 (by omega))).trans (hL2 0 (by omega))).trans (hLr 0 (by omega))) rfl 5 (by decide) (hts _ m_190) rfl (ty_Doc_ok 5 (by decide)) rfl rfl (Nat.le_of_ble_eq_true rfl) d_Doc_init_116 (fun κ35 H locs e35 hk35 hM hS => ?_)
        have e35 : κ35 0 = some (.inr (3, [.ref (L1 2), .ref (L1 1), .ref (L1 4), .ref (L2 6), .ref (L17 14), .int (iI (-1)), .int (iI 0)])) := e35
        have hB36 := bxs_keep hB30 (hk35 2 (by omega)) (hk35 3 (by omega)) rfl
        have hB37 := bxs_keep hB31 (hk35 4 (by omega)) (hk35 5 (by omega)) rfl
        have hN38 := nds_keep hN32 (fun r h1 h2 => hk35 r (by omega)) (fun r h1 h2 => rfl) rfl
        have e39 := (hk35 1 (by omega)).trans e33
        have e40 := (hk35 14 (by omega)).trans e34
        refine lv_aload_n hx hb d_Doc_init_119 rfl (lv_at hl 1 rfl) ?_
        refine lv_iconst (v := iI (-1)) hx hb d_Doc_init_120 rfl ?_
        refine mw_put (ci := 3) (i := 0) (v := .int (iI (-1))) (C := R_Doc) (T := T_Doc) (N := 7) hx hb hts in_Doc ty_Doc ty_Doc_ok nm_Doc hown hK hM hS e35 ((((hL17 0 (by omega)).trans (hL7 0 (by omega))).trans (hL2 0 (by omega))).trans (hLr 0 (by omega))) rfl 6 (by decide) (hts _ m_191) rfl (ty_Doc_ok 6 (by decide)) rfl rfl (Nat.le_of_ble_eq_true rfl) d_Doc_init_121 (fun κ41 H locs e41 hk41 hM hS => ?_)
        have e41 : κ41 0 = some (.inr (3, [.ref (L1 2), .ref (L1 1), .ref (L1 4), .ref (L2 6), .ref (L17 14), .int (iI (-1)), .int (iI (-1))])) := e41
        have hB42 := bxs_keep hB36 (hk41 2 (by omega)) (hk41 3 (by omega)) rfl
        have hB43 := bxs_keep hB37 (hk41 4 (by omega)) (hk41 5 (by omega)) rfl
        have hN44 := nds_keep hN38 (fun r h1 h2 => hk41 r (by omega)) (fun r h1 h2 => rfl) rfl
        have e45 := (hk41 1 (by omega)).trans e39
        have e46 := (hk41 14 (by omega)).trans e40
        have hX1 : ∀ q, q < 8 → ∃ n, bxs g L17 κ41 (16 + 2 * q) (17 + 2 * q) 2000 n 5 eB := fun q hq => (hF q (by omega)).elim fun n h => ⟨n, bxs_keep h (by rw [hk41 (16 + 2 * q) (by omega), hk35 (16 + 2 * q) (by omega), hk29 (16 + 2 * q) (by omega), hk23 (16 + 2 * q) (by omega), hk17 (16 + 2 * q) (by omega), hk12 (16 + 2 * q) (by omega), hk7 (16 + 2 * q) (by omega), hk2 (16 + 2 * q) (by omega)]) (by rw [hk41 (17 + 2 * q) (by omega), hk35 (17 + 2 * q) (by omega), hk29 (17 + 2 * q) (by omega), hk23 (17 + 2 * q) (by omega), hk17 (17 + 2 * q) (by omega), hk12 (17 + 2 * q) (by omega), hk7 (17 + 2 * q) (by omega), hk2 (17 + 2 * q) (by omega)]) (by rw [hL17 (17 + 2 * q) (by omega), hL7 (17 + 2 * q) (by omega), hL2 (17 + 2 * q) (by omega)])⟩
        refine W.widen (k := 46) (n := 37673) (by omega) (by omega) ?_
        exact mw_vret hx hb hr hM hS hlocks d_Doc_init_124 ⟨rfl, fun r h1 => by rw [hL17 r (by omega), hL7 r (by omega), hL2 r (by omega), hLr r h1], ⟨by unfold dob; rw [show L17 2 = L1 2 from (((hL17 2 (by omega)).trans (hL7 2 (by omega))).trans (hL2 2 (by omega))), show L17 1 = L1 1 from (((hL17 1 (by omega)).trans (hL7 1 (by omega))).trans (hL2 1 (by omega))), show L17 4 = L1 4 from (((hL17 4 (by omega)).trans (hL7 4 (by omega))).trans (hL2 4 (by omega))), show L17 6 = L2 6 from ((hL17 6 (by omega)).trans (hL7 6 (by omega)))]; exact e41, ⟨_, e45, fun q hq => by rw [hL17 (16 + 2 * q) (by omega), hL7 (16 + 2 * q) (by omega), hL2 (16 + 2 * q) (by omega)]; exact hA2 q (by omega)⟩, ⟨_, hB42⟩, ⟨_, hB43⟩, hN44, ⟨0, -1, 0, -1, by unfold rds; exact e46⟩, ⟨fun k => if h : k < 8 then (hX1 k h).choose else 0, fun k h => by dsimp only; rw [dif_pos h]; exact (hX1 k h).choose_spec⟩, fun h => absurd h (by decide), Or.inl rfl⟩, fun r h1 => by rw [hk41 r (by omega), hk35 r (by omega), hk29 r (by omega), hk23 r (by omega), hk17 r (by omega), hk12 r (by omega), hk7 r (by omega), hk2 r (by omega), hKr r h1]⟩
      · refine lv_aload_n hx hb d_Doc_init_49 rfl (lv_at hl 1 rfl) ?_
        refine mw_get (ci := 3) (i := 0) (v := .ref (L1 1)) (C := R_Doc) (T := T_Doc) (N := 7) hx hb hts in_Doc hown hK hM hO (hLr 0 (by omega)) rfl 1 (by decide) (hts _ m_186) rfl d_Doc_init_50 ?_
        refine lv_iload_n hx hb d_Doc_init_53 rfl (lv_at hl 0 rfl) ?_
        refine mw_newobj (C := R_Bytes) (T := T_Bytes) (N := 3) (ci := 0) (fs := [.int (iI 0), .null, .int (iI 0)]) hx hb hts in_Bytes ty_Bytes ty_Bytes_ok hown (hts _ m_69) (hts _ m_70) (hts _ m_52) hK hM hS (16 + 2 * (k : Int).toNat) rfl (by intro z hz; rcases (show z = 0 ∨ z = 1 ∨ z = 2 by omega) with rfl | rfl | rfl <;> rfl) (Nat.le_trans (m := 46) (by omega) (Nat.le_of_ble_eq_true rfl)) (Nat.le_trans (m := 37673) (by omega) (Nat.le_of_ble_eq_true rfl)) d_Doc_init_54 (fun L47 κ47 H e47 hk47 hL47 hM hS => ?_)
        have hB48 := bxs_keep hT (hk47 2 (by omega)) (hk47 3 (by omega)) (hL47 3 (by omega))
        have hB49 := bxs_keep hW (hk47 4 (by omega)) (hk47 5 (by omega)) (hL47 5 (by omega))
        have e50 := (hk47 0 (by omega)).trans hO
        have e51 := (hk47 1 (by omega)).trans hA
        refine lv_dup hx hb d_Doc_init_57 rfl ?_
        refine lv_sipush (v := iI (2000)) hx hb d_Doc_init_58 (by decide) ?_
        refine mw_callI (b := L47 (16 + 2 * (k : Int).toNat)) (As := [.int (iI 2000)]) (rest := [.ref (L47 (16 + 2 * (k : Int).toNat)), .int (iI k), .ref (L1 1)]) ⟨hx, hb, hml, hown, hts⟩ hK hM hS (c_Bytes_init l D g lo L47 κ47 (16 + 2 * (k : Int).toNat) (17 + 2 * (k : Int).toNat) 2000 (by omega) (by omega) e47) (cwI 1 hts (gW m_73) rfl rfl rfl (hts _ m_52) (hts _ m_71) (hts _ m_72) rfl (by decide +kernel) ⟨Nat.le_of_ble_eq_true rfl, Nat.le_of_ble_eq_true rfl⟩) rfl hl.1 rfl (Nat.le_of_ble_eq_true rfl) d_Doc_init_61 ⟨(Nat.le_trans (m := 46) (by omega) (Nat.le_of_ble_eq_true rfl)), (Nat.le_trans (m := 37673) (by omega) (Nat.le_of_ble_eq_true rfl))⟩ (fun v52 L52 κ52 H locs hp52 hM hS => ?_)
        obtain ⟨n52, rfl, hL52, hB52, hk52⟩ := hp52
        have r53 := hB52.2.2.1
        have hB54 := bxs_keep hB48 (hk52 2 (by omega) (by omega)) (hk52 3 (by omega) (by omega)) (hL52 3 (by omega))
        have hB55 := bxs_keep hB49 (hk52 4 (by omega) (by omega)) (hk52 5 (by omega) (by omega)) (hL52 5 (by omega))
        have e56 := (hk52 0 (by omega) (by omega)).trans e50
        have e57 := (hk52 1 (by omega) (by omega)).trans e51
        refine mw_astq (a := k) (i := 1) (j := 16 + 2 * (k : Int).toNat) (r := (R_Bytes, T_Bytes, 3)) hx hb hK hM hS 2 0 e57 rfl hB52.1 rfl ((hL52 1 (by omega)).trans (hL47 1 (by omega))) (hL52 (16 + 2 * (k : Int).toNat) (by omega)) (by omega) (by omega) d_Doc_init_64 (fun κ58 H locs e58 hk58 hM hS => ?_)
        have hB59 := bxs_keep hB54 (hk58 2 (by omega)) (hk58 3 (by omega)) rfl
        have hB60 := bxs_keep hB55 (hk58 4 (by omega)) (hk58 5 (by omega)) rfl
        have hB61 := bxs_keep hB52 (hk58 (16 + 2 * (k : Int).toNat) (by omega)) (hk58 (17 + 2 * (k : Int).toNat) (by omega)) rfl
        have e62 := (hk58 0 (by omega)).trans e56
        refine lv_aload_n hx hb d_Doc_init_65 rfl (lv_at hl 1 rfl) ?_
        refine mw_get (ci := 3) (i := 0) (v := .ref (L1 1)) (C := R_Doc) (T := T_Doc) (N := 7) hx hb hts in_Doc hown hK hM e62 (((hL52 0 (by omega)).trans (hL47 0 (by omega))).trans (hLr 0 (by omega))) rfl 1 (by decide) (hts _ m_186) rfl d_Doc_init_66 ?_
        refine lv_iload_n hx hb d_Doc_init_69 rfl (lv_at hl 0 rfl) ?_
        refine mw_aldq (a := k) (i := 1) hx hb hK hM 2 e58 ((hL52 1 (by omega)).trans (hL47 1 (by omega))) rfl (by omega) (by omega) (va_up_self _ _ _) d_Doc_init_70 ?_
        refine mw_callV (i := 16 + 2 * (k : Int).toNat) (As := []) (rest := []) ⟨hx, hb, hml, hown, hts⟩ hK hM hS rfl hB61.1 rfl (c_Bytes_appendEmptyDocument l D g lo L52 κ58 (16 + 2 * (k : Int).toNat) (17 + 2 * (k : Int).toNat) 2000 n52 0 ((fun _ => (0 : Int))) hB61 (by omega)) (cwV 0 hts (gV m_87 m_88 m_89 m_52 m_90) rfl rfl rfl (by decide +kernel) ⟨Nat.le_of_ble_eq_true rfl, Nat.le_of_ble_eq_true rfl⟩) rfl hl.1 rfl (Nat.le_of_ble_eq_true rfl) d_Doc_init_71 ⟨(Nat.le_trans (m := 46) (by omega) (Nat.le_of_ble_eq_true rfl)), (Nat.le_trans (m := 37673) (by omega) (Nat.le_of_ble_eq_true rfl))⟩ (fun v63 L63 κ63 H locs hp63 hM hS => ?_)
        obtain ⟨n63, rfl, hL63, hB63, hk63⟩ := hp63
        have hB63 : bxs g L63 κ63 (16 + 2 * (k : Int).toNat) (17 + 2 * (k : Int).toNat) 2000 n63 (0 + 4 + 1) (bAppNum (bAppNum ((fun _ => (0 : Int))) 0 5 4) (0 + 4) 0 1) := hB63
        have r64 := hB63.2.2.1
        have hB65 := bxs_keep hB59 (hk63 2 (by omega) (by omega)) (hk63 3 (by omega) (by omega)) (hL63 3 (by omega))
        have hB66 := bxs_keep hB60 (hk63 4 (by omega) (by omega)) (hk63 5 (by omega) (by omega)) (hL63 5 (by omega))
        have e67 := (hk63 0 (by omega) (by omega)).trans e62
        have e68 := (hk63 1 (by omega) (by omega)).trans e58
        refine lv_iinc (v := iI (k + 1)) (lv' := [(1, .int (iI (k + 1))), (0, .ref (L 0))]) hx hb d_Doc_init_74 hl (k := 0) rfl (iI_inc _ _) (by decide) rfl (fun ls hl => ?_)
        refine lv_goto (tgt := 43) hx hb d_Doc_init_77 (by decide) ?_
        have hX1 : ∀ q, q < k.toNat → ∃ n, bxs g L63 κ63 (16 + 2 * q) (17 + 2 * q) 2000 n 5 eB := fun q hq => (hF q hq).elim fun n h => ⟨n, bxs_keep h (by rw [hk63 (16 + 2 * q) (by omega) (by omega), hk58 (16 + 2 * q) (by omega), hk52 (16 + 2 * q) (by omega) (by omega), hk47 (16 + 2 * q) (by omega)]) (by rw [hk63 (17 + 2 * q) (by omega) (by omega), hk58 (17 + 2 * q) (by omega), hk52 (17 + 2 * q) (by omega) (by omega), hk47 (17 + 2 * q) (by omega)]) (by rw [hL63 (17 + 2 * q) (by omega), hL52 (17 + 2 * q) (by omega), hL47 (17 + 2 * q) (by omega)])⟩
        have hX2 : ∀ q, q < (k + 1).toNat → ∃ n, bxs g L63 κ63 (16 + 2 * q) (17 + 2 * q) 2000 n 5 eB := fun q hq => by
          by_cases hqk : q = k.toNat
          · rw [hqk]; exact ⟨_, hB63⟩
          · exact hX1 q (by omega)
        have hX3 : ∀ q, q < (k + 1).toNat → (va_up fA (k : Int).toNat (some (L52 (16 + 2 * (k : Int).toNat)))) q = some (L63 (16 + 2 * q)) := fun q hq => by
          by_cases hqk : q = k.toNat
          · rw [hqk, va_up_self, show L63 (16 + 2 * k.toNat) = L52 (16 + 2 * k.toNat) from (hL63 (16 + 2 * (k : Int).toNat) (by omega))]
          · rw [va_up_ne _ _ hqk, hL63 (16 + 2 * q) (by omega), hL52 (16 + 2 * q) (by omega), hL47 (16 + 2 * q) (by omega)]; exact hA2 q (by omega)
        exact ih (k + 1) L63 κ63 (va_up fA (k : Int).toNat (some (L52 (16 + 2 * (k : Int).toNat)))) nT nF (by omega) (by omega) (by rw [show L63 2 = L1 2 from (((hL63 2 (by omega)).trans (hL52 2 (by omega))).trans (hL47 2 (by omega))), show L63 1 = L1 1 from (((hL63 1 (by omega)).trans (hL52 1 (by omega))).trans (hL47 1 (by omega))), show L63 4 = L1 4 from (((hL63 4 (by omega)).trans (hL52 4 (by omega))).trans (hL47 4 (by omega)))]; exact e67) e68 hX3 hB65 hB66 hX2 (fun r h1 => by rw [hL63 r (by omega), hL52 r (by omega), hL47 r (by omega), hLr r h1]) (fun r h1 => by rw [hk63 r (by omega) (by omega), hk58 r (by omega), hk52 r (by omega) (by omega), hk47 r (by omega), hKr r h1]) _ _ (by omega) (by omega) _ _ ls hM hS (lv_sub hl [0, 1] rfl)
  obtain ⟨ls, hls, hl⟩ := mw_entry (m := m) [.ref (L 0)] (n := 2) (Nat.le_of_ble_eq_true rfl) hargs
  refine W.eq hls ?_
  have hl : lv_has ls 2 [(0, .ref (L 0))] := hl
  refine lv_aload_n hx hb d_Doc_init_0 rfl (lv_at hl 0 rfl) ?_
  refine W.objInit hx hb hown (hts _ m_66) (hts _ m_67) (hts _ m_68) rfl (by rw [hml]; exact hl.1) rfl d_Doc_init_1 (Nat.le_of_ble_eq_true rfl) (Nat.le_of_ble_eq_true rfl) ?_
  refine W.eq (g2 := F0 m 4 ls []) rfl ?_
  refine lv_aload_n hx hb d_Doc_init_4 rfl (lv_at hl 0 rfl) ?_
  refine mw_newobj (C := R_Bytes) (T := T_Bytes) (N := 3) (ci := 0) (fs := [.int (iI 0), .null, .int (iI 0)]) hx hb hts in_Bytes ty_Bytes ty_Bytes_ok hown (hts _ m_69) (hts _ m_70) (hts _ m_52) hK hM hS 2 rfl (by intro z hz; rcases (show z = 0 ∨ z = 1 ∨ z = 2 by omega) with rfl | rfl | rfl <;> rfl) (Nat.le_of_ble_eq_true rfl) (Nat.le_of_ble_eq_true rfl) d_Doc_init_5 (fun L69 κ69 H e69 hk69 hL69 hM hS => ?_)
  have e70 := (hk69 0 (by omega)).trans he
  refine lv_dup hx hb d_Doc_init_8 rfl ?_
  refine lv_sipush (v := iI (2000)) hx hb d_Doc_init_9 (by decide) ?_
  refine mw_callI (b := L69 2) (As := [.int (iI 2000)]) (rest := [.ref (L69 2), .ref (L 0)]) ⟨hx, hb, hml, hown, hts⟩ hK hM hS (c_Bytes_init l D g lo L69 κ69 2 3 2000 (by omega) (by omega) e69) (cwI 1 hts (gW m_73) rfl rfl rfl (hts _ m_52) (hts _ m_71) (hts _ m_72) rfl (by decide +kernel) ⟨Nat.le_of_ble_eq_true rfl, Nat.le_of_ble_eq_true rfl⟩) rfl hl.1 rfl (Nat.le_of_ble_eq_true rfl) d_Doc_init_12 ⟨Nat.le_of_ble_eq_true rfl, Nat.le_of_ble_eq_true rfl⟩ (fun v71 L71 κ71 H locs hp71 hM hS => ?_)
  obtain ⟨n71, rfl, hL71, hB71, hk71⟩ := hp71
  have r72 := hB71.2.2.1
  have e73 := (hk71 0 (by omega) (by omega)).trans e70
  refine mw_putF (ci := 3) (i := 0) (v := .ref (L69 2)) (C := R_Doc) (T := T_Doc) (N := 7) hx hb hts in_Doc ty_Doc ty_Doc_ok nm_Doc hown hK hM hS e73 ((hL71 0 (by omega)).trans (hL69 0 (by omega))) rfl 0 (by decide) (hts _ m_185) rfl hin rfl (ty_Doc_ok 0 (by decide)) rfl rfl (Nat.le_of_ble_eq_true rfl) d_Doc_init_15 (fun κ74 H locs e74 hk74 hM hS => ?_)
  have e74 : κ74 0 = some (.inr (3, [.ref (L69 2), .null, .null, .null, .null, .int (iI 0), .int (iI 0)])) := e74
  have hB75 := bxs_keep hB71 (hk74 2 (by omega)) (hk74 3 (by omega)) rfl
  refine lv_aload_n hx hb d_Doc_init_18 rfl (lv_at hl 0 rfl) ?_
  refine mw_newobj (C := R_Bytes) (T := T_Bytes) (N := 3) (ci := 0) (fs := [.int (iI 0), .null, .int (iI 0)]) hx hb hts in_Bytes ty_Bytes ty_Bytes_ok hown (hts _ m_69) (hts _ m_70) (hts _ m_52) hK hM hS 4 rfl (by intro z hz; rcases (show z = 0 ∨ z = 1 ∨ z = 2 by omega) with rfl | rfl | rfl <;> rfl) (Nat.le_of_ble_eq_true rfl) (Nat.le_of_ble_eq_true rfl) d_Doc_init_19 (fun L76 κ76 H e76 hk76 hL76 hM hS => ?_)
  have hB77 := bxs_keep hB75 (hk76 2 (by omega)) (hk76 3 (by omega)) (hL76 3 (by omega))
  have e78 := (hk76 0 (by omega)).trans e74
  refine lv_dup hx hb d_Doc_init_22 rfl ?_
  refine lv_sipush (v := iI (2005)) hx hb d_Doc_init_23 (by decide) ?_
  refine mw_callI (b := L76 4) (As := [.int (iI 2005)]) (rest := [.ref (L76 4), .ref (L 0)]) ⟨hx, hb, hml, hown, hts⟩ hK hM hS (c_Bytes_init l D g lo L76 κ76 4 5 2005 (by omega) (by omega) e76) (cwI 1 hts (gW m_73) rfl rfl rfl (hts _ m_52) (hts _ m_71) (hts _ m_72) rfl (by decide +kernel) ⟨Nat.le_of_ble_eq_true rfl, Nat.le_of_ble_eq_true rfl⟩) rfl hl.1 rfl (Nat.le_of_ble_eq_true rfl) d_Doc_init_26 ⟨Nat.le_of_ble_eq_true rfl, Nat.le_of_ble_eq_true rfl⟩ (fun v79 L79 κ79 H locs hp79 hM hS => ?_)
  obtain ⟨n79, rfl, hL79, hB79, hk79⟩ := hp79
  have r80 := hB79.2.2.1
  have hB81 := bxs_keep hB77 (hk79 2 (by omega) (by omega)) (hk79 3 (by omega) (by omega)) (hL79 3 (by omega))
  have e82 := (hk79 0 (by omega) (by omega)).trans e78
  refine mw_putF (ci := 3) (i := 0) (v := .ref (L76 4)) (C := R_Doc) (T := T_Doc) (N := 7) hx hb hts in_Doc ty_Doc ty_Doc_ok nm_Doc hown hK hM hS e82 ((((hL79 0 (by omega)).trans (hL76 0 (by omega))).trans (hL71 0 (by omega))).trans (hL69 0 (by omega))) rfl 2 (by decide) (hts _ m_187) rfl hin rfl (ty_Doc_ok 2 (by decide)) rfl rfl (Nat.le_of_ble_eq_true rfl) d_Doc_init_29 (fun κ83 H locs e83 hk83 hM hS => ?_)
  have e83 : κ83 0 = some (.inr (3, [.ref (L69 2), .null, .ref (L76 4), .null, .null, .int (iI 0), .int (iI 0)])) := e83
  have hB84 := bxs_keep hB81 (hk83 2 (by omega)) (hk83 3 (by omega)) rfl
  have hB85 := bxs_keep hB79 (hk83 4 (by omega)) (hk83 5 (by omega)) rfl
  refine lv_aload_n hx hb d_Doc_init_32 rfl (lv_at hl 0 rfl) ?_
  refine lv_bipush (v := iI (8)) hx hb d_Doc_init_33 (by decide) ?_
  refine mw_newq (C := "DocumentBytes$Bytes") (a := 8) hx hb hown (hts _ m_69) hAO hM hS 1 (by decide) (by decide) (Nat.le_of_ble_eq_true rfl) (Nat.le_of_ble_eq_true rfl) d_Doc_init_35 (fun L86 κ86 cA86 H hZ86 e86 hk86 hL86 hM hS => ?_)
  obtain ⟨kA86, co86, -, -, -, hY86⟩ := (hK.2 2 _ rfl).2
  have hc86 : cA86 = g 2 := Option.some.inj (hZ86.symm.trans hY86)
  subst hc86
  have e86 : κ86 1 = some (.inl (g 2, 8, .inr (.inr (.inr (.inr (fun _ => none)))))) := e86
  have hB87 := bxs_keep hB84 (hk86 2 (by omega)) (hk86 3 (by omega)) (hL86 3 (by omega))
  have hB88 := bxs_keep hB85 (hk86 4 (by omega)) (hk86 5 (by omega)) (hL86 5 (by omega))
  have e89 := (hk86 0 (by omega)).trans e83
  refine mw_putF (ci := 3) (i := 0) (v := .ref (L86 1)) (C := R_Doc) (T := T_Doc) (N := 7) hx hb hts in_Doc ty_Doc ty_Doc_ok nm_Doc hown hK hM hS e89 (((((hL86 0 (by omega)).trans (hL79 0 (by omega))).trans (hL76 0 (by omega))).trans (hL71 0 (by omega))).trans (hL69 0 (by omega))) rfl 1 (by decide) (hts _ m_186) rfl hin rfl (ty_Doc_ok 1 (by decide)) rfl rfl (Nat.le_of_ble_eq_true rfl) d_Doc_init_38 (fun κ90 H locs e90 hk90 hM hS => ?_)
  have e90 : κ90 0 = some (.inr (3, [.ref (L69 2), .ref (L86 1), .ref (L76 4), .null, .null, .int (iI 0), .int (iI 0)])) := e90
  have hB91 := bxs_keep hB87 (hk90 2 (by omega)) (hk90 3 (by omega)) rfl
  have hB92 := bxs_keep hB88 (hk90 4 (by omega)) (hk90 5 (by omega)) rfl
  have e93 := (hk90 1 (by omega)).trans e86
  refine lv_iconst (v := iI (0)) hx hb d_Doc_init_41 rfl ?_
  refine lv_istore_n (lv' := [(1, .int (iI 0)), (0, .ref (L 0))]) hx hb d_Doc_init_42 rfl hl (by decide) rfl (fun ls hl => ?_)
  exact loop43 _ 0 L86 κ90 (fun _ => none) n71 n79 (Nat.lt_succ_self _) (by omega) (by rw [show L86 2 = L69 2 from ((((hL86 2 (by omega)).trans (hL79 2 (by omega))).trans (hL76 2 (by omega))).trans (hL71 2 (by omega))), show L86 4 = L76 4 from ((hL86 4 (by omega)).trans (hL79 4 (by omega)))]; exact e90) e93 (fun q hq => by omega) hB91 hB92 (fun q hq => by omega) (fun r h1 => by rw [hL86 r (by omega), hL79 r (by omega), hL76 r (by omega), hL71 r (by omega), hL69 r (by omega)]) (fun r h1 => by rw [hk90 r (by omega), hk86 r (by omega), hk83 r (by omega), hk79 r (by omega) (by omega), hk76 r (by omega), hk74 r (by omega), hk71 r (by omega) (by omega), hk69 r (by omega)]) _ _ (by decide) (by decide) _ _ ls hM hS (lv_sub hl [0, 1] rfl)
