set_option maxHeartbeats 4000000 in
theorem lb_add {p : Program} {e : Env} {s : State} {m : MethodId} {below : List Frame} {meth : Method} {c : Code} (l : Launch) {b N : Nat} {xs : Nat → Int32} (hN : N ≤ 4096) (C0 : lw_At p s m meth c b N xs) {D : va_G} {g : Nat → ClassId} (hK : va_K D vwCl (tyL g) s) {q0 q1 : Nat} {H : Heap} {locs : List Loc} (hI0 : lwI D g s q0 q1 H locs) {k : Int} (hk : 0 ≤ k ∧ k + 8 ≤ N) {ls : Array Slot} (hl : lv_has ls 4 [(3, .int (iI k)), (2, .ref q1), (1, .ref q0), (0, .ref b)]) {cells slots : Nat} (hc : cells + 5 ≤ 600000 ∧ slots + 10025 ≤ 7302250) (kk : ∀ (H1 : Heap) (locs1 : List Loc), lwI D g s q0 q1 H1 locs1 → W p l e room_1 s m #[Value.ref b] below meth c H1 locs1 (cells + 5) (slots + 10025) (lw_Z below #[Value.ref b] s) (F0 m 740 ls [])) : W p l e room_1 s m #[Value.ref b] below meth c H locs cells slots (lw_Z below #[Value.ref b] s) (F0 m 464 ls []) := by
  obtain ⟨hx, hb, hr, hml, hown, hts0, hX, hbl, hlocks, hgv⟩ := id C0
  have hts : ∀ w ∈ wA, w.before #[Value.ref b] s = true := fun w h => hts0 w (wA_in h)
  have hbA : ¬ s.heap.size ≤ b := Nat.not_le.mpr hbl
  obtain ⟨L, κ, S, hM, hS, ⟨scn, fpl, zT, bT, zF, bF, T, cnt, d, zS, bS, hW, hI⟩, hm, hq0, hq1⟩ := hI0
  obtain ⟨hR, hF⟩ := Rg_of hW hm
  have hO : κ 0 = some (.inr (dbC, [.ref (L 2), .ref (L 1), .ref (L 4), .ref (L 6), .ref (L 14), .int (iI scn), .int (iI fpl)])) := hW.1
  have hsc := hI.2.2.2.1
  have ht0 : 0 ≤ S.f 0 ∧ S.f 0 ≤ 2000 := by have h1 := hI.1.1; have h2 := hI.1.2.1; omega
  refine lv_aload_n hx hb d_Law_464 rfl (lv_at hl 2 rfl) ?_
  refine lv_aload_n hx hb d_Law_465 rfl (lv_at hl 3 rfl) ?_
  refine lv_iload_n hx hb d_Law_466 rfl (lv_at hl 0 rfl) ?_
  refine lv_iconst (v := iI (1)) hx hb d_Law_467 rfl ?_
  refine ia_add hx hb d_Law_468 ?_
  refine ia_sld (a := k + 1) hx hb hX hbl hbA hS (by omega) (by omega) d_Law_469 ?_
  have r1 := iI_r (xs (k + 1 : Int).toNat)
  refine lv_aload_n hx hb d_Law_470 rfl (lv_at hl 3 rfl) ?_
  refine lv_iload_n hx hb d_Law_471 rfl (lv_at hl 0 rfl) ?_
  refine lv_iconst (v := iI (2)) hx hb d_Law_472 rfl ?_
  refine ia_add hx hb d_Law_473 ?_
  refine ia_sld (a := k + 2) hx hb hX hbl hbA hS (by omega) (by omega) d_Law_474 ?_
  have r2 := iI_r (xs (k + 2 : Int).toNat)
  refine lv_aload_n hx hb d_Law_475 rfl (lv_at hl 3 rfl) ?_
  refine lv_iload_n hx hb d_Law_476 rfl (lv_at hl 0 rfl) ?_
  refine lv_iconst (v := iI (3)) hx hb d_Law_477 rfl ?_
  refine ia_add hx hb d_Law_478 ?_
  refine ia_sld (a := k + 3) hx hb hX hbl hbA hS (by omega) (by omega) d_Law_479 ?_
  have r3 := iI_r (xs (k + 3 : Int).toNat)
  refine lv_aload_n hx hb d_Law_480 rfl (lv_at hl 3 rfl) ?_
  refine lv_iload_n hx hb d_Law_481 rfl (lv_at hl 0 rfl) ?_
  refine lv_iconst (v := iI (4)) hx hb d_Law_482 rfl ?_
  refine ia_add hx hb d_Law_483 ?_
  refine ia_sld (a := k + 4) hx hb hX hbl hbA hS (by omega) (by omega) d_Law_484 ?_
  have r4 := iI_r (xs (k + 4 : Int).toNat)
  refine ia_i2l hx hb (by omega) d_Law_485 ?_
  refine lv_bipush (v := iI (32)) hx hb d_Law_486 (by decide) ?_
  refine ia_lshl32 hx hb d_Law_488 ?_
  refine lv_aload_n hx hb d_Law_489 rfl (lv_at hl 3 rfl) ?_
  refine lv_iload_n hx hb d_Law_490 rfl (lv_at hl 0 rfl) ?_
  refine lv_iconst (v := iI (5)) hx hb d_Law_491 rfl ?_
  refine ia_add hx hb d_Law_492 ?_
  refine ia_sld (a := k + 5) hx hb hX hbl hbA hS (by omega) (by omega) d_Law_493 ?_
  have r5 := iI_r (xs (k + 5 : Int).toNat)
  refine ia_i2l hx hb (by omega) d_Law_494 ?_
  refine lv_ldc2 (v := 4294967295) hx hb hown (hts _ m_825) d_Law_495 ?_
  refine W.eq (g2 := F0 m 498 ls (.long (lI 4294967295) :: .long (lI ((xs (k + 5 : Int).toNat).toInt)) :: .long (lI (((xs (k + 4 : Int).toNat).toInt) * 4294967296)) :: .int (iI ((xs (k + 3 : Int).toNat).toInt)) :: .int (iI ((xs (k + 2 : Int).toNat).toInt)) :: .int (iI ((xs (k + 1 : Int).toNat).toInt)) :: .ref q0 :: [])) (by rfl) ?_
  refine ia_land32 hx hb d_Law_498 ?_
  refine ia_lor32 hx hb (by omega) d_Law_499 ?_
  refine lv_aload_n hx hb d_Law_500 rfl (lv_at hl 3 rfl) ?_
  refine lv_iload_n hx hb d_Law_501 rfl (lv_at hl 0 rfl) ?_
  refine lv_bipush (v := iI (6)) hx hb d_Law_502 (by decide) ?_
  refine ia_add hx hb d_Law_504 ?_
  refine ia_sld (a := k + 6) hx hb hX hbl hbA hS (by omega) (by omega) d_Law_505 ?_
  have r6 := iI_r (xs (k + 6 : Int).toNat)
  refine lv_aload_n hx hb d_Law_506 rfl (lv_at hl 3 rfl) ?_
  refine lv_iload_n hx hb d_Law_507 rfl (lv_at hl 0 rfl) ?_
  refine lv_bipush (v := iI (7)) hx hb d_Law_508 (by decide) ?_
  refine ia_add hx hb d_Law_510 ?_
  refine ia_sld (a := k + 7) hx hb hX hbl hbA hS (by omega) (by omega) d_Law_511 ?_
  have r7 := iI_r (xs (k + 7 : Int).toNat)
  refine mw_callV (i := 0) (As := [.int (iI ((xs (k + 1 : Int).toNat).toInt)), .int (iI ((xs (k + 2 : Int).toNat).toInt)), .int (iI ((xs (k + 3 : Int).toNat).toInt)), .long (lI (((xs (k + 4 : Int).toNat).toInt) * 4294967296 + (((xs (k + 5 : Int).toNat).toInt) % 4294967296))), .int (iI ((xs (k + 6 : Int).toNat).toInt)), .int (iI ((xs (k + 7 : Int).toNat).toInt))]) (rest := []) ⟨hx, hb, hml, hown, hts⟩ hK hM hS hq0 hO rfl (c_Doc_add l D g s.heap.size L κ scn fpl zT bT zF bF T cnt d zS bS hW hsc ((xs (k + 1 : Int).toNat).toInt) ((xs (k + 2 : Int).toNat).toInt) ((xs (k + 3 : Int).toNat).toInt) (((xs (k + 4 : Int).toNat).toInt) * 4294967296 + (((xs (k + 5 : Int).toNat).toInt) % 4294967296)) ((xs (k + 6 : Int).toNat).toInt) ((xs (k + 7 : Int).toNat).toInt) (by omega) (by omega) (by omega) (by omega) (by omega) (by omega) (Inv_dTab (d := d) hI hR ((xs (k + 1 : Int).toNat).toInt)).1 (dLa_in (d := d) hI hR ((xs (k + 1 : Int).toNat).toInt) ((xs (k + 2 : Int).toNat).toInt))) (cwV 6 hts (gV m_458 m_459 m_460 m_51 m_461) rfl rfl rfl (by decide +kernel) ⟨Nat.le_of_ble_eq_true rfl, Nat.le_of_ble_eq_true rfl⟩) rfl hl.1 rfl (Nat.le_of_ble_eq_true rfl) d_Law_512 ⟨Nat.le_trans (m := 600000) (by omega) (Nat.le_of_ble_eq_true rfl), Nat.le_trans (m := 7302250) (by omega) (Nat.le_of_ble_eq_true rfl)⟩ (fun v1 L1 κ1 H locs hp hM hS => ?_)
  obtain ⟨rfl, hJ1, hf0, hfL, hfk⟩ := q_add hI hR hF ((xs (k + 1 : Int).toNat).toInt) ((xs (k + 2 : Int).toNat).toInt) ((xs (k + 3 : Int).toNat).toInt) (((xs (k + 4 : Int).toNat).toInt) * 4294967296 + (((xs (k + 5 : Int).toNat).toInt) % 4294967296)) ((xs (k + 6 : Int).toNat).toInt) ((xs (k + 7 : Int).toNat).toInt) hp
  have hm1 := mds_keep hm hfL hfk
  refine lv_aload_n hx hb d_Law_515 rfl (lv_at hl 1 rfl) ?_
  refine lv_aload_n hx hb d_Law_516 rfl (lv_at hl 3 rfl) ?_
  refine lv_iload_n hx hb d_Law_517 rfl (lv_at hl 0 rfl) ?_
  refine lv_iconst (v := iI (1)) hx hb d_Law_518 rfl ?_
  refine ia_add hx hb d_Law_519 ?_
  refine ia_sld (a := k + 1) hx hb hX hbl hbA hS (by omega) (by omega) d_Law_520 ?_
  have r8 := iI_r (xs (k + 1 : Int).toNat)
  refine lv_aload_n hx hb d_Law_521 rfl (lv_at hl 3 rfl) ?_
  refine lv_iload_n hx hb d_Law_522 rfl (lv_at hl 0 rfl) ?_
  refine lv_iconst (v := iI (2)) hx hb d_Law_523 rfl ?_
  refine ia_add hx hb d_Law_524 ?_
  refine ia_sld (a := k + 2) hx hb hX hbl hbA hS (by omega) (by omega) d_Law_525 ?_
  have r9 := iI_r (xs (k + 2 : Int).toNat)
  refine lv_aload_n hx hb d_Law_526 rfl (lv_at hl 3 rfl) ?_
  refine lv_iload_n hx hb d_Law_527 rfl (lv_at hl 0 rfl) ?_
  refine lv_iconst (v := iI (3)) hx hb d_Law_528 rfl ?_
  refine ia_add hx hb d_Law_529 ?_
  refine ia_sld (a := k + 3) hx hb hX hbl hbA hS (by omega) (by omega) d_Law_530 ?_
  have r10 := iI_r (xs (k + 3 : Int).toNat)
  refine lv_aload_n hx hb d_Law_531 rfl (lv_at hl 3 rfl) ?_
  refine lv_iload_n hx hb d_Law_532 rfl (lv_at hl 0 rfl) ?_
  refine lv_iconst (v := iI (4)) hx hb d_Law_533 rfl ?_
  refine ia_add hx hb d_Law_534 ?_
  refine ia_sld (a := k + 4) hx hb hX hbl hbA hS (by omega) (by omega) d_Law_535 ?_
  have r11 := iI_r (xs (k + 4 : Int).toNat)
  refine ia_i2l hx hb (by omega) d_Law_536 ?_
  refine lv_bipush (v := iI (32)) hx hb d_Law_537 (by decide) ?_
  refine ia_lshl32 hx hb d_Law_539 ?_
  refine lv_aload_n hx hb d_Law_540 rfl (lv_at hl 3 rfl) ?_
  refine lv_iload_n hx hb d_Law_541 rfl (lv_at hl 0 rfl) ?_
  refine lv_iconst (v := iI (5)) hx hb d_Law_542 rfl ?_
  refine ia_add hx hb d_Law_543 ?_
  refine ia_sld (a := k + 5) hx hb hX hbl hbA hS (by omega) (by omega) d_Law_544 ?_
  have r12 := iI_r (xs (k + 5 : Int).toNat)
  refine ia_i2l hx hb (by omega) d_Law_545 ?_
  refine lv_ldc2 (v := 4294967295) hx hb hown (hts _ m_825) d_Law_546 ?_
  refine W.eq (g2 := F0 m 549 ls (.long (lI 4294967295) :: .long (lI ((xs (k + 5 : Int).toNat).toInt)) :: .long (lI (((xs (k + 4 : Int).toNat).toInt) * 4294967296)) :: .int (iI ((xs (k + 3 : Int).toNat).toInt)) :: .int (iI ((xs (k + 2 : Int).toNat).toInt)) :: .int (iI ((xs (k + 1 : Int).toNat).toInt)) :: .ref q1 :: .int (iI ((mAdd ((xs (k + 1 : Int).toNat).toInt) ((xs (k + 2 : Int).toNat).toInt) ((xs (k + 3 : Int).toNat).toInt) (((xs (k + 4 : Int).toNat).toInt) * 4294967296 + (((xs (k + 5 : Int).toNat).toInt) % 4294967296)) ((xs (k + 6 : Int).toNat).toInt) ((xs (k + 7 : Int).toNat).toInt) S).1)) :: [])) (by rfl) ?_
  refine ia_land32 hx hb d_Law_549 ?_
  refine ia_lor32 hx hb (by omega) d_Law_550 ?_
  refine lv_aload_n hx hb d_Law_551 rfl (lv_at hl 3 rfl) ?_
  refine lv_iload_n hx hb d_Law_552 rfl (lv_at hl 0 rfl) ?_
  refine lv_bipush (v := iI (6)) hx hb d_Law_553 (by decide) ?_
  refine ia_add hx hb d_Law_555 ?_
  refine ia_sld (a := k + 6) hx hb hX hbl hbA hS (by omega) (by omega) d_Law_556 ?_
  have r13 := iI_r (xs (k + 6 : Int).toNat)
  refine lv_aload_n hx hb d_Law_557 rfl (lv_at hl 3 rfl) ?_
  refine lv_iload_n hx hb d_Law_558 rfl (lv_at hl 0 rfl) ?_
  refine lv_bipush (v := iI (7)) hx hb d_Law_559 (by decide) ?_
  refine ia_add hx hb d_Law_561 ?_
  refine ia_sld (a := k + 7) hx hb hX hbl hbA hS (by omega) (by omega) d_Law_562 ?_
  have r14 := iI_r (xs (k + 7 : Int).toNat)
  refine mw_callV (i := 40) (As := [.int (iI ((xs (k + 1 : Int).toNat).toInt)), .int (iI ((xs (k + 2 : Int).toNat).toInt)), .int (iI ((xs (k + 3 : Int).toNat).toInt)), .long (lI (((xs (k + 4 : Int).toNat).toInt) * 4294967296 + (((xs (k + 5 : Int).toNat).toInt) % 4294967296))), .int (iI ((xs (k + 6 : Int).toNat).toInt)), .int (iI ((xs (k + 7 : Int).toNat).toInt))]) (rest := [.int (iI ((mAdd ((xs (k + 1 : Int).toNat).toInt) ((xs (k + 2 : Int).toNat).toInt) ((xs (k + 3 : Int).toNat).toInt) (((xs (k + 4 : Int).toNat).toInt) * 4294967296 + (((xs (k + 5 : Int).toNat).toInt) % 4294967296)) ((xs (k + 6 : Int).toNat).toInt) ((xs (k + 7 : Int).toNat).toInt) S).1))]) ⟨hx, hb, hml, hown, hts⟩ hK hM hS ((hfL 40 (by decide)).trans hq1) hm1.1 rfl (c_Model_add l D g s.heap.size L1 κ1 S hm1 ((xs (k + 1 : Int).toNat).toInt) ((xs (k + 2 : Int).toNat).toInt) ((xs (k + 3 : Int).toNat).toInt) (((xs (k + 4 : Int).toNat).toInt) * 4294967296 + (((xs (k + 5 : Int).toNat).toInt) % 4294967296)) ((xs (k + 6 : Int).toNat).toInt) ((xs (k + 7 : Int).toNat).toInt) (by omega) (by omega) (by omega) (by omega) (by omega) (by omega) (Inv_ldOK hI hR ((xs (k + 1 : Int).toNat).toInt)).1 (Inv_szs hI) ht0 (Inv_ldOK hI hR ((xs (k + 1 : Int).toNat).toInt)).2) (cwV 6 hts (gV m_754 m_755 m_756 m_58 m_757) rfl rfl rfl (by decide +kernel) ⟨Nat.le_of_ble_eq_true rfl, Nat.le_of_ble_eq_true rfl⟩) rfl hl.1 rfl (Nat.le_of_ble_eq_true rfl) d_Law_563 ⟨Nat.le_trans (m := 600000) (by omega) (Nat.le_of_ble_eq_true rfl), Nat.le_trans (m := 7302250) (by omega) (Nat.le_of_ble_eq_true rfl)⟩ (fun v2 L2 κ2 H locs hp hM hS => ?_)
  obtain ⟨rfl, rfl, hm2, hk2⟩ := hp
  refine lv_icmp_eq (tgt := 740) hx hb d_Law_566 (by decide) (fun _ => ?_) (fun h => absurd rfl h)
  refine W.widen (k := cells + 5) (n := slots + 10025) (by omega) (by omega) ?_
  exact kk _ _ ⟨L1, κ2, _, hM, hS, JJ_keep hJ1 (fun r h => hk2 r (Or.inl h)), hm2, hf0.trans hq0, (hfL 40 (by decide)).trans hq1⟩
