set_option maxHeartbeats 4000000 in
theorem lb_feed {p : Program} {e : Env} {s : State} {m : MethodId} {below : List Frame} {meth : Method} {c : Code} (l : Launch) {b N : Nat} {xs : Nat → Int32} (hN : N ≤ 4096) (C0 : lw_At p s m meth c b N xs) {D : va_G} {g : Nat → ClassId} (hK : va_K D vwCl (tyL g) s) {q0 q1 : Nat} {H : Heap} {locs : List Loc} (hI0 : lwI D g s q0 q1 H locs) {k : Int} (hk : 0 ≤ k ∧ k + 8 ≤ N) {ls : Array Slot} (hl : lv_has ls 4 [(3, .int (iI k)), (2, .ref q1), (1, .ref q0), (0, .ref b)]) {cells slots : Nat} (hc : cells + 5 ≤ 600000 ∧ slots + 10025 ≤ 7302250) (kk : ∀ (H1 : Heap) (locs1 : List Loc), lwI D g s q0 q1 H1 locs1 → W p l e room_1 s m #[Value.ref b] below meth c H1 locs1 (cells + 5) (slots + 10025) (lw_Z below #[Value.ref b] s) (F0 m 740 ls [])) : W p l e room_1 s m #[Value.ref b] below meth c H locs cells slots (lw_Z below #[Value.ref b] s) (F0 m 100 ls []) := by
  obtain ⟨hx, hb, hr, hml, hown, hts0, hX, hbl, hlocks, hgv⟩ := id C0
  have hts : ∀ w ∈ wA, w.before #[Value.ref b] s = true := fun w h => hts0 w (wA_in h)
  have hbA : ¬ s.heap.size ≤ b := Nat.not_le.mpr hbl
  obtain ⟨L, κ, S, hM, hS, ⟨scn, fpl, zT, bT, zF, bF, T, cnt, d, zS, bS, hW, hI⟩, hm, hq0, hq1⟩ := hI0
  obtain ⟨hR, hF⟩ := Rg_of hW hm
  have hO : κ 0 = some (.inr (dbC, [.ref (L 2), .ref (L 1), .ref (L 4), .ref (L 6), .ref (L 14), .int (iI scn), .int (iI fpl)])) := hW.1
  have hsc := hI.2.2.2.1
  have ht0 : 0 ≤ S.f 0 ∧ S.f 0 ≤ 2000 := by have h1 := hI.1.1; have h2 := hI.1.2.1; omega
  refine lv_aload_n hx hb d_Law_100 rfl (lv_at hl 2 rfl) ?_
  refine lv_aload_n hx hb d_Law_101 rfl (lv_at hl 3 rfl) ?_
  refine lv_iload_n hx hb d_Law_102 rfl (lv_at hl 0 rfl) ?_
  refine lv_iconst (v := iI (1)) hx hb d_Law_103 rfl ?_
  refine ia_add hx hb d_Law_104 ?_
  refine ia_sld (a := k + 1) hx hb hX hbl hbA hS (by omega) (by omega) d_Law_105 ?_
  have r1 := iI_r (xs (k + 1 : Int).toNat)
  refine lv_aload_n hx hb d_Law_106 rfl (lv_at hl 3 rfl) ?_
  refine lv_iload_n hx hb d_Law_107 rfl (lv_at hl 0 rfl) ?_
  refine lv_iconst (v := iI (2)) hx hb d_Law_108 rfl ?_
  refine ia_add hx hb d_Law_109 ?_
  refine ia_sld (a := k + 2) hx hb hX hbl hbA hS (by omega) (by omega) d_Law_110 ?_
  have r2 := iI_r (xs (k + 2 : Int).toNat)
  refine lv_aload_n hx hb d_Law_111 rfl (lv_at hl 3 rfl) ?_
  refine lv_iload_n hx hb d_Law_112 rfl (lv_at hl 0 rfl) ?_
  refine lv_iconst (v := iI (3)) hx hb d_Law_113 rfl ?_
  refine ia_add hx hb d_Law_114 ?_
  refine ia_sld (a := k + 3) hx hb hX hbl hbA hS (by omega) (by omega) d_Law_115 ?_
  have r3 := iI_r (xs (k + 3 : Int).toNat)
  refine lv_aload_n hx hb d_Law_116 rfl (lv_at hl 3 rfl) ?_
  refine lv_iload_n hx hb d_Law_117 rfl (lv_at hl 0 rfl) ?_
  refine lv_iconst (v := iI (4)) hx hb d_Law_118 rfl ?_
  refine ia_add hx hb d_Law_119 ?_
  refine ia_sld (a := k + 4) hx hb hX hbl hbA hS (by omega) (by omega) d_Law_120 ?_
  have r4 := iI_r (xs (k + 4 : Int).toNat)
  refine lv_aload_n hx hb d_Law_121 rfl (lv_at hl 3 rfl) ?_
  refine lv_iload_n hx hb d_Law_122 rfl (lv_at hl 0 rfl) ?_
  refine lv_iconst (v := iI (5)) hx hb d_Law_123 rfl ?_
  refine ia_add hx hb d_Law_124 ?_
  refine ia_sld (a := k + 5) hx hb hX hbl hbA hS (by omega) (by omega) d_Law_125 ?_
  have r5 := iI_r (xs (k + 5 : Int).toNat)
  refine mw_callV (i := 0) (As := [.int (iI ((xs (k + 1 : Int).toNat).toInt)), .int (iI ((xs (k + 2 : Int).toNat).toInt)), .int (iI ((xs (k + 3 : Int).toNat).toInt)), .int (iI ((xs (k + 4 : Int).toNat).toInt)), .int (iI ((xs (k + 5 : Int).toNat).toInt))]) (rest := []) ⟨hx, hb, hml, hown, hts⟩ hK hM hS hq0 hO rfl (c_Doc_feed l D g s.heap.size L κ scn fpl zT bT zF bF T cnt d zS bS hW hsc ((xs (k + 1 : Int).toNat).toInt) ((xs (k + 2 : Int).toNat).toInt) ((xs (k + 3 : Int).toNat).toInt) ((xs (k + 4 : Int).toNat).toInt) ((xs (k + 5 : Int).toNat).toInt) (by omega) (by omega) (by omega) (by omega) (by omega) ) (cwV 5 hts (gV m_207 m_208 m_209 m_51 m_210) rfl rfl rfl (by decide +kernel) ⟨Nat.le_of_ble_eq_true rfl, Nat.le_of_ble_eq_true rfl⟩) rfl hl.1 rfl (Nat.le_of_ble_eq_true rfl) d_Law_126 ⟨Nat.le_trans (m := 600000) (by omega) (Nat.le_of_ble_eq_true rfl), Nat.le_trans (m := 7302250) (by omega) (Nat.le_of_ble_eq_true rfl)⟩ (fun v1 L1 κ1 H locs hp hM hS => ?_)
  obtain ⟨rfl, hJ1, hf0, hfL, hfk⟩ := q_feed hI hR hF ((xs (k + 1 : Int).toNat).toInt) ((xs (k + 2 : Int).toNat).toInt) ((xs (k + 3 : Int).toNat).toInt) ((xs (k + 4 : Int).toNat).toInt) ((xs (k + 5 : Int).toNat).toInt) hp
  have hm1 := mds_keep hm hfL hfk
  refine lv_aload_n hx hb d_Law_129 rfl (lv_at hl 1 rfl) ?_
  refine lv_aload_n hx hb d_Law_130 rfl (lv_at hl 3 rfl) ?_
  refine lv_iload_n hx hb d_Law_131 rfl (lv_at hl 0 rfl) ?_
  refine lv_iconst (v := iI (1)) hx hb d_Law_132 rfl ?_
  refine ia_add hx hb d_Law_133 ?_
  refine ia_sld (a := k + 1) hx hb hX hbl hbA hS (by omega) (by omega) d_Law_134 ?_
  have r6 := iI_r (xs (k + 1 : Int).toNat)
  refine lv_aload_n hx hb d_Law_135 rfl (lv_at hl 3 rfl) ?_
  refine lv_iload_n hx hb d_Law_136 rfl (lv_at hl 0 rfl) ?_
  refine lv_iconst (v := iI (2)) hx hb d_Law_137 rfl ?_
  refine ia_add hx hb d_Law_138 ?_
  refine ia_sld (a := k + 2) hx hb hX hbl hbA hS (by omega) (by omega) d_Law_139 ?_
  have r7 := iI_r (xs (k + 2 : Int).toNat)
  refine lv_aload_n hx hb d_Law_140 rfl (lv_at hl 3 rfl) ?_
  refine lv_iload_n hx hb d_Law_141 rfl (lv_at hl 0 rfl) ?_
  refine lv_iconst (v := iI (3)) hx hb d_Law_142 rfl ?_
  refine ia_add hx hb d_Law_143 ?_
  refine ia_sld (a := k + 3) hx hb hX hbl hbA hS (by omega) (by omega) d_Law_144 ?_
  have r8 := iI_r (xs (k + 3 : Int).toNat)
  refine lv_aload_n hx hb d_Law_145 rfl (lv_at hl 3 rfl) ?_
  refine lv_iload_n hx hb d_Law_146 rfl (lv_at hl 0 rfl) ?_
  refine lv_iconst (v := iI (4)) hx hb d_Law_147 rfl ?_
  refine ia_add hx hb d_Law_148 ?_
  refine ia_sld (a := k + 4) hx hb hX hbl hbA hS (by omega) (by omega) d_Law_149 ?_
  have r9 := iI_r (xs (k + 4 : Int).toNat)
  refine lv_aload_n hx hb d_Law_150 rfl (lv_at hl 3 rfl) ?_
  refine lv_iload_n hx hb d_Law_151 rfl (lv_at hl 0 rfl) ?_
  refine lv_iconst (v := iI (5)) hx hb d_Law_152 rfl ?_
  refine ia_add hx hb d_Law_153 ?_
  refine ia_sld (a := k + 5) hx hb hX hbl hbA hS (by omega) (by omega) d_Law_154 ?_
  have r10 := iI_r (xs (k + 5 : Int).toNat)
  refine mw_callV (i := 40) (As := [.int (iI ((xs (k + 1 : Int).toNat).toInt)), .int (iI ((xs (k + 2 : Int).toNat).toInt)), .int (iI ((xs (k + 3 : Int).toNat).toInt)), .int (iI ((xs (k + 4 : Int).toNat).toInt)), .int (iI ((xs (k + 5 : Int).toNat).toInt))]) (rest := [.int (iI ((mFeed ((xs (k + 1 : Int).toNat).toInt) ((xs (k + 2 : Int).toNat).toInt) ((xs (k + 3 : Int).toNat).toInt) ((xs (k + 4 : Int).toNat).toInt) ((xs (k + 5 : Int).toNat).toInt) S).1))]) ⟨hx, hb, hml, hown, hts⟩ hK hM hS ((hfL 40 (by decide)).trans hq1) hm1.1 rfl (c_Model_feed l D g s.heap.size L1 κ1 S hm1 ((xs (k + 1 : Int).toNat).toInt) ((xs (k + 2 : Int).toNat).toInt) ((xs (k + 3 : Int).toNat).toInt) ((xs (k + 4 : Int).toNat).toInt) ((xs (k + 5 : Int).toNat).toInt) (by omega) (by omega) (by omega) (by omega) (by omega) ht0.1) (cwV 5 hts (gV m_615 m_616 m_617 m_58 m_618) rfl rfl rfl (by decide +kernel) ⟨Nat.le_of_ble_eq_true rfl, Nat.le_of_ble_eq_true rfl⟩) rfl hl.1 rfl (Nat.le_of_ble_eq_true rfl) d_Law_155 ⟨Nat.le_trans (m := 600000) (by omega) (Nat.le_of_ble_eq_true rfl), Nat.le_trans (m := 7302250) (by omega) (Nat.le_of_ble_eq_true rfl)⟩ (fun v2 L2 κ2 H locs hp hM hS => ?_)
  obtain ⟨rfl, rfl, hm2, hk2⟩ := hp
  refine lv_icmp_eq (tgt := 740) hx hb d_Law_158 (by decide) (fun _ => ?_) (fun h => absurd rfl h)
  refine W.widen (k := cells + 5) (n := slots + 10025) (by omega) (by omega) ?_
  exact kk _ _ ⟨L1, κ2, _, hM, hS, JJ_keep hJ1 (fun r h => hk2 r (Or.inl h)), hm2, hf0.trans hq0, (hfL 40 (by decide)).trans hq1⟩
