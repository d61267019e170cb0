set_option maxHeartbeats 4000000 in
theorem lb_set {p : Program} {e : Env} {s : State} {m : MethodId} {below : List Frame} {meth : Method} {c : Code} (l : Launch) {b N : Nat} {xs : Nat → Int32} (hN : N ≤ 4096) (C0 : lw_At p s m meth c b N xs) {D : va_G} {g : Nat → ClassId} (hK : va_K D vwCl (tyL g) s) {q0 q1 : Nat} {H : Heap} {locs : List Loc} (hI0 : lwI D g s q0 q1 H locs) {k : Int} (hk : 0 ≤ k ∧ k + 8 ≤ N) {ls : Array Slot} (hl : lv_has ls 4 [(3, .int (iI k)), (2, .ref q1), (1, .ref q0), (0, .ref b)]) {cells slots : Nat} (hc : cells + 5 ≤ 600000 ∧ slots + 10025 ≤ 7302250) (kk : ∀ (H1 : Heap) (locs1 : List Loc), lwI D g s q0 q1 H1 locs1 → W p l e room_1 s m #[Value.ref b] below meth c H1 locs1 (cells + 5) (slots + 10025) (lw_Z below #[Value.ref b] s) (F0 m 740 ls [])) : W p l e room_1 s m #[Value.ref b] below meth c H locs cells slots (lw_Z below #[Value.ref b] s) (F0 m 634 ls []) := by
  obtain ⟨hx, hb, hr, hml, hown, hts0, hX, hbl, hlocks, hgv⟩ := id C0
  have hts : ∀ w ∈ wA, w.before #[Value.ref b] s = true := fun w h => hts0 w (wA_in h)
  have hbA : ¬ s.heap.size ≤ b := Nat.not_le.mpr hbl
  obtain ⟨L, κ, S, hM, hS, ⟨scn, fpl, zT, bT, zF, bF, T, cnt, d, zS, bS, hW, hI⟩, hm, hq0, hq1⟩ := hI0
  obtain ⟨hR, hF⟩ := Rg_of hW hm
  have hO : κ 0 = some (.inr (dbC, [.ref (L 2), .ref (L 1), .ref (L 4), .ref (L 6), .ref (L 14), .int (iI scn), .int (iI fpl)])) := hW.1
  have hsc := hI.2.2.2.1
  have ht0 : 0 ≤ S.f 0 ∧ S.f 0 ≤ 2000 := by have h1 := hI.1.1; have h2 := hI.1.2.1; omega
  refine lv_aload_n hx hb d_Law_634 rfl (lv_at hl 2 rfl) ?_
  refine lv_aload_n hx hb d_Law_635 rfl (lv_at hl 3 rfl) ?_
  refine lv_iload_n hx hb d_Law_636 rfl (lv_at hl 0 rfl) ?_
  refine lv_iconst (v := iI (1)) hx hb d_Law_637 rfl ?_
  refine ia_add hx hb d_Law_638 ?_
  refine ia_sld (a := k + 1) hx hb hX hbl hbA hS (by omega) (by omega) d_Law_639 ?_
  have r1 := iI_r (xs (k + 1 : Int).toNat)
  refine lv_aload_n hx hb d_Law_640 rfl (lv_at hl 3 rfl) ?_
  refine lv_iload_n hx hb d_Law_641 rfl (lv_at hl 0 rfl) ?_
  refine lv_iconst (v := iI (2)) hx hb d_Law_642 rfl ?_
  refine ia_add hx hb d_Law_643 ?_
  refine ia_sld (a := k + 2) hx hb hX hbl hbA hS (by omega) (by omega) d_Law_644 ?_
  have r2 := iI_r (xs (k + 2 : Int).toNat)
  refine lv_aload_n hx hb d_Law_645 rfl (lv_at hl 3 rfl) ?_
  refine lv_iload_n hx hb d_Law_646 rfl (lv_at hl 0 rfl) ?_
  refine lv_iconst (v := iI (3)) hx hb d_Law_647 rfl ?_
  refine ia_add hx hb d_Law_648 ?_
  refine ia_sld (a := k + 3) hx hb hX hbl hbA hS (by omega) (by omega) d_Law_649 ?_
  have r3 := iI_r (xs (k + 3 : Int).toNat)
  refine ia_i2l hx hb (by omega) d_Law_650 ?_
  refine lv_bipush (v := iI (32)) hx hb d_Law_651 (by decide) ?_
  refine ia_lshl32 hx hb d_Law_653 ?_
  refine lv_aload_n hx hb d_Law_654 rfl (lv_at hl 3 rfl) ?_
  refine lv_iload_n hx hb d_Law_655 rfl (lv_at hl 0 rfl) ?_
  refine lv_iconst (v := iI (4)) hx hb d_Law_656 rfl ?_
  refine ia_add hx hb d_Law_657 ?_
  refine ia_sld (a := k + 4) hx hb hX hbl hbA hS (by omega) (by omega) d_Law_658 ?_
  have r4 := iI_r (xs (k + 4 : Int).toNat)
  refine ia_i2l hx hb (by omega) d_Law_659 ?_
  refine lv_ldc2 (v := 4294967295) hx hb hown (hts _ m_825) d_Law_660 ?_
  refine W.eq (g2 := F0 m 663 ls (.long (lI 4294967295) :: .long (lI ((xs (k + 4 : Int).toNat).toInt)) :: .long (lI (((xs (k + 3 : Int).toNat).toInt) * 4294967296)) :: .int (iI ((xs (k + 2 : Int).toNat).toInt)) :: .int (iI ((xs (k + 1 : Int).toNat).toInt)) :: .ref q0 :: [])) (by rfl) ?_
  refine ia_land32 hx hb d_Law_663 ?_
  refine ia_lor32 hx hb (by omega) d_Law_664 ?_
  refine mw_callV (i := 0) (As := [.int (iI ((xs (k + 1 : Int).toNat).toInt)), .int (iI ((xs (k + 2 : Int).toNat).toInt)), .long (lI (((xs (k + 3 : Int).toNat).toInt) * 4294967296 + (((xs (k + 4 : Int).toNat).toInt) % 4294967296)))]) (rest := []) ⟨hx, hb, hml, hown, hts⟩ hK hM hS hq0 hO rfl (c_Doc_set l D g s.heap.size L κ scn fpl zT bT zF bF T cnt d zS bS hW hsc ((xs (k + 1 : Int).toNat).toInt) ((xs (k + 2 : Int).toNat).toInt) (((xs (k + 3 : Int).toNat).toInt) * 4294967296 + (((xs (k + 4 : Int).toNat).toInt) % 4294967296)) (by omega) (by omega) (by omega) (Inv_dTab (d := d) hI hR ((xs (k + 1 : Int).toNat).toInt)).1) (cwV 3 hts (gV m_524 m_525 m_526 m_51 m_527) rfl rfl rfl (by decide +kernel) ⟨Nat.le_of_ble_eq_true rfl, Nat.le_of_ble_eq_true rfl⟩) rfl hl.1 rfl (Nat.le_of_ble_eq_true rfl) d_Law_665 ⟨Nat.le_trans (m := 600000) (by omega) (Nat.le_of_ble_eq_true rfl), Nat.le_trans (m := 7302250) (by omega) (Nat.le_of_ble_eq_true rfl)⟩ (fun v1 L1 κ1 H locs hp hM hS => ?_)
  obtain ⟨rfl, hJ1, hf0, hfL, hfk⟩ := q_set hI hR hF ((xs (k + 1 : Int).toNat).toInt) ((xs (k + 2 : Int).toNat).toInt) (((xs (k + 3 : Int).toNat).toInt) * 4294967296 + (((xs (k + 4 : Int).toNat).toInt) % 4294967296)) hp
  have hm1 := mds_keep hm hfL hfk
  refine lv_aload_n hx hb d_Law_668 rfl (lv_at hl 1 rfl) ?_
  refine lv_aload_n hx hb d_Law_669 rfl (lv_at hl 3 rfl) ?_
  refine lv_iload_n hx hb d_Law_670 rfl (lv_at hl 0 rfl) ?_
  refine lv_iconst (v := iI (1)) hx hb d_Law_671 rfl ?_
  refine ia_add hx hb d_Law_672 ?_
  refine ia_sld (a := k + 1) hx hb hX hbl hbA hS (by omega) (by omega) d_Law_673 ?_
  have r5 := iI_r (xs (k + 1 : Int).toNat)
  refine lv_aload_n hx hb d_Law_674 rfl (lv_at hl 3 rfl) ?_
  refine lv_iload_n hx hb d_Law_675 rfl (lv_at hl 0 rfl) ?_
  refine lv_iconst (v := iI (2)) hx hb d_Law_676 rfl ?_
  refine ia_add hx hb d_Law_677 ?_
  refine ia_sld (a := k + 2) hx hb hX hbl hbA hS (by omega) (by omega) d_Law_678 ?_
  have r6 := iI_r (xs (k + 2 : Int).toNat)
  refine lv_aload_n hx hb d_Law_679 rfl (lv_at hl 3 rfl) ?_
  refine lv_iload_n hx hb d_Law_680 rfl (lv_at hl 0 rfl) ?_
  refine lv_iconst (v := iI (3)) hx hb d_Law_681 rfl ?_
  refine ia_add hx hb d_Law_682 ?_
  refine ia_sld (a := k + 3) hx hb hX hbl hbA hS (by omega) (by omega) d_Law_683 ?_
  have r7 := iI_r (xs (k + 3 : Int).toNat)
  refine ia_i2l hx hb (by omega) d_Law_684 ?_
  refine lv_bipush (v := iI (32)) hx hb d_Law_685 (by decide) ?_
  refine ia_lshl32 hx hb d_Law_687 ?_
  refine lv_aload_n hx hb d_Law_688 rfl (lv_at hl 3 rfl) ?_
  refine lv_iload_n hx hb d_Law_689 rfl (lv_at hl 0 rfl) ?_
  refine lv_iconst (v := iI (4)) hx hb d_Law_690 rfl ?_
  refine ia_add hx hb d_Law_691 ?_
  refine ia_sld (a := k + 4) hx hb hX hbl hbA hS (by omega) (by omega) d_Law_692 ?_
  have r8 := iI_r (xs (k + 4 : Int).toNat)
  refine ia_i2l hx hb (by omega) d_Law_693 ?_
  refine lv_ldc2 (v := 4294967295) hx hb hown (hts _ m_825) d_Law_694 ?_
  refine W.eq (g2 := F0 m 697 ls (.long (lI 4294967295) :: .long (lI ((xs (k + 4 : Int).toNat).toInt)) :: .long (lI (((xs (k + 3 : Int).toNat).toInt) * 4294967296)) :: .int (iI ((xs (k + 2 : Int).toNat).toInt)) :: .int (iI ((xs (k + 1 : Int).toNat).toInt)) :: .ref q1 :: .int (iI (bI ((mSet ((xs (k + 1 : Int).toNat).toInt) ((xs (k + 2 : Int).toNat).toInt) (((xs (k + 3 : Int).toNat).toInt) * 4294967296 + (((xs (k + 4 : Int).toNat).toInt) % 4294967296)) S).1))) :: [])) (by rfl) ?_
  refine ia_land32 hx hb d_Law_697 ?_
  refine ia_lor32 hx hb (by omega) d_Law_698 ?_
  refine mw_callV (i := 40) (As := [.int (iI ((xs (k + 1 : Int).toNat).toInt)), .int (iI ((xs (k + 2 : Int).toNat).toInt)), .long (lI (((xs (k + 3 : Int).toNat).toInt) * 4294967296 + (((xs (k + 4 : Int).toNat).toInt) % 4294967296)))]) (rest := [.int (iI (bI ((mSet ((xs (k + 1 : Int).toNat).toInt) ((xs (k + 2 : Int).toNat).toInt) (((xs (k + 3 : Int).toNat).toInt) * 4294967296 + (((xs (k + 4 : Int).toNat).toInt) % 4294967296)) S).1)))]) ⟨hx, hb, hml, hown, hts⟩ hK hM hS ((hfL 40 (by decide)).trans hq1) hm1.1 rfl (c_Model_set l D g s.heap.size L1 κ1 S hm1 ((xs (k + 1 : Int).toNat).toInt) ((xs (k + 2 : Int).toNat).toInt) (((xs (k + 3 : Int).toNat).toInt) * 4294967296 + (((xs (k + 4 : Int).toNat).toInt) % 4294967296)) (by omega) (by omega) (by omega) (Inv_ldOK hI hR ((xs (k + 1 : Int).toNat).toInt)).1 (Inv_szs hI) (Inv_ldOK hI hR ((xs (k + 1 : Int).toNat).toInt)).2) (cwV 3 hts (gV m_805 m_806 m_807 m_58 m_808) rfl rfl rfl (by decide +kernel) ⟨Nat.le_of_ble_eq_true rfl, Nat.le_of_ble_eq_true rfl⟩) rfl hl.1 rfl (Nat.le_of_ble_eq_true rfl) d_Law_699 ⟨Nat.le_trans (m := 600000) (by omega) (Nat.le_of_ble_eq_true rfl), Nat.le_trans (m := 7302250) (by omega) (Nat.le_of_ble_eq_true rfl)⟩ (fun v2 L2 κ2 H locs hp hM hS => ?_)
  obtain ⟨rfl, rfl, hm2, hk2⟩ := hp
  refine lv_icmp_eq (tgt := 740) hx hb d_Law_702 (by decide) (fun _ => ?_) (fun h => absurd rfl h)
  refine W.widen (k := cells + 5) (n := slots + 10025) (by omega) (by omega) ?_
  exact kk _ _ ⟨L1, κ2, _, hM, hS, JJ_keep hJ1 (fun r h => hk2 r (Or.inl h)), hm2, hf0.trans hq0, (hfL 40 (by decide)).trans hq1⟩
