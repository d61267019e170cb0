theorem JJ_keep2 {g : Nat → ClassId} {L L1 : Nat → Nat} {κ κ1 : Nat → Option va_E} {S : MS} (h : JJ g L κ S) (hk : ∀ r, r < 40 → κ1 r = κ r) (hL : ∀ r, r < 40 → L1 r = L r) : JJ g L1 κ1 S := by
  obtain ⟨scn, fpl, zT, bT, zF, bF, T, cnt, d, zS, bS, ⟨q1, ⟨fA, q2, q3⟩, ⟨nT, q4⟩, ⟨nF, q5⟩, q6, ⟨ra, ri, rf, rp, q7⟩, ⟨nS, q8⟩, q9, q10⟩, hI⟩ := h
  have hd40 : d < 40 := by
    rcases q10 with h | ⟨k, h1, h2⟩ <;> omega
  exact ⟨scn, fpl, zT, bT, zF, bF, T, cnt, d, zS, bS, ⟨dob_keep q1 (hk 0 (by decide)) (hL 2 (by decide)) (hL 1 (by decide)) (hL 4 (by decide)) (hL 6 (by decide)) (hL 14 (by decide)), ⟨fA, (hk 1 (by decide)).trans q2, fun k h8 => by rw [hL _ (by omega)]; exact q3 k h8⟩, ⟨nT, bxs_keep q4 (hk 2 (by decide)) (hk 3 (by decide)) (hL 3 (by decide))⟩, ⟨nF, bxs_keep q5 (hk 4 (by decide)) (hk 5 (by decide)) (hL 5 (by decide))⟩, nds_keep q6 (fun r _ h2 => hk r (by omega)) (fun r _ h2 => hL r (by omega)) (hL d hd40), ⟨ra, ri, rf, rp, rds_keep q7 (hk 14 (by decide)) (hL 6 (by decide)) (hL 2 (by decide))⟩, ⟨nS, fun k hk8 => bxs_keep (q8 k hk8) (hk _ (by omega)) (hk _ (by omega)) (hL _ (by omega))⟩, q9, q10⟩, hI⟩
set_option maxHeartbeats 4000000 in
theorem law_loop {p : Program} {e : Env} {s : State} {m : MethodId} {below : List Frame} {meth : Method} {c : Code} (l : Launch) {b N : Nat} {xs : Nat → Int32} (hN : N ≤ 4096) (C0 : lw_At p s m meth c b N xs) {D : va_G} {g : Nat → ClassId} (hK : va_K D vwCl (tyL g) s) {q0 q1 : Nat} : ∀ (n j : Nat) (H : Heap) (locs : List Loc) (ls : Array Slot), N < 8 * j + n → 8 * j ≤ N → lwI D g s q0 q1 H locs → lv_has ls 4 [(3, .int (iI ((8 * j : Nat) : Int))), (2, .ref q1), (1, .ref q0), (0, .ref b)] → W p l e room_1 s m #[Value.ref b] below meth c H locs (62 + 5 * j) (69391 + 10025 * j) (lw_Z below #[Value.ref b] s) (F0 m 18 ls []) := by
  intro n
  induction n with
  | zero => intro j H locs ls h1 h2; omega
  | succ n ih =>
    intro j H locs ls h1 h2 hI0 hl
    obtain ⟨hx, hb, hr, hml, hown, hts0, hX, hbl, hlocks, hgv⟩ := id C0
    have hts : ∀ w ∈ wA, w.before #[Value.ref b] s = true := fun w h => hts0 w (wA_in h)
    have hbA : ¬ s.heap.size ≤ b := Nat.not_le.mpr hbl
    obtain ⟨L, κ, S, hM, hS, hZ⟩ := id hI0
    obtain ⟨k, hkj⟩ : ∃ k : Int, k = ((8 * j : Nat) : Int) := ⟨_, rfl⟩
    rw [← hkj] at hl
    have hback : k + 8 ≤ N → ∀ (H1 : Heap) (locs1 : List Loc), lwI D g s q0 q1 H1 locs1 → W p l e room_1 s m #[Value.ref b] below meth c H1 locs1 (62 + 5 * j + 5) (69391 + 10025 * j + 10025) (lw_Z below #[Value.ref b] s) (F0 m 740 ls []) := by
      intro hk8 H1 locs1 hI1
      refine lv_iinc (v := iI (k + 8)) (lv' := [(3, .int (iI (k + 8))), (2, .ref q1), (1, .ref q0), (0, .ref b)]) hx hb d_Law_740 hl (k := 0) rfl (iI_inc _ _) (by decide) rfl (fun ls hl => ?_)
      refine lv_goto (tgt := 18) hx hb d_Law_743 (by decide) ?_
      refine W.widen (k := 62 + 5 * (j + 1)) (n := 69391 + 10025 * (j + 1)) (by omega) (by omega) ?_
      exact ih (j + 1) H1 locs1 ls (by omega) (by omega) hI1 (by rw [show ((8 * (j + 1) : Nat) : Int) = k + 8 by omega]; exact hl)
    refine lv_iload_n hx hb d_Law_18 rfl (lv_at hl 0 rfl) ?_
    refine lv_aload_n hx hb d_Law_19 rfl (lv_at hl 3 rfl) ?_
    refine ia_slen hx hb hX hbl hbA hS d_Law_20 ?_
    refine lv_bipush (v := iI (8)) hx hb d_Law_21 (by decide) ?_
    refine ia_sub hx hb d_Law_23 ?_
    refine ia_icmp_gt (a := k) (b := N - 8) (tgt := 746) hx hb d_Law_24 (by decide) (by omega) (by omega) (fun c1 => ?_) (fun c1 => ?_)
    · refine lv_iconst (v := iI (1)) hx hb d_Law_746 rfl ?_
      refine va_forget hS.2.2 ?_
      refine W.widen (k := 600000) (n := 7302250) (by omega) (by omega) ?_
      exact lw_ret hx hb hr hlocks d_Law_747
    · refine lv_aload_n hx hb d_Law_27 rfl (lv_at hl 3 rfl) ?_
      refine lv_iload_n hx hb d_Law_28 rfl (lv_at hl 0 rfl) ?_
      refine ia_sld (a := k) hx hb hX hbl hbA hS (by omega) (by omega) d_Law_29 ?_
      have r2 := iI_r (xs (k : Int).toNat)
      refine lv_bipush (v := iI (15)) hx hb d_Law_30 (by decide) ?_
      refine ia_and15 hx hb d_Law_32 ?_
      rcases (show ((((xs (k : Int).toNat).toInt) % 16) < 0 ∨ 12 < (((xs (k : Int).toNat).toInt) % 16)) ∨ (((xs (k : Int).toNat).toInt) % 16) = 0 ∨ (((xs (k : Int).toNat).toInt) % 16) = 1 ∨ (((xs (k : Int).toNat).toInt) % 16) = 2 ∨ (((xs (k : Int).toNat).toInt) % 16) = 3 ∨ (((xs (k : Int).toNat).toInt) % 16) = 4 ∨ (((xs (k : Int).toNat).toInt) % 16) = 5 ∨ (((xs (k : Int).toNat).toInt) % 16) = 6 ∨ (((xs (k : Int).toNat).toInt) % 16) = 7 ∨ (((xs (k : Int).toNat).toInt) % 16) = 8 ∨ (((xs (k : Int).toNat).toInt) % 16) = 9 ∨ (((xs (k : Int).toNat).toInt) % 16) = 10 ∨ (((xs (k : Int).toNat).toInt) % 16) = 11 ∨ (((xs (k : Int).toNat).toInt) % 16) = 12 by omega) with c3 | c3 | c3 | c3 | c3 | c3 | c3 | c3 | c3 | c3 | c3 | c3 | c3 | c3
      · refine lv_tableOut (tgt := 740) hx hb d_Law_33 (by rw [iI_toInt (by omega)]; exact c3) (by decide) ?_
        exact W.widen (k := 62 + 5 * j + 5) (n := 69391 + 10025 * j + 10025) (by omega) (by omega) ((hback (by omega)) _ _ hI0)
      · refine lv_tableIn (off := 67) (tgt := 100) hx hb d_Law_33 (by rw [iI_toInt (by omega)]; omega) (by rw [iI_toInt (by omega)]; omega) (by rw [iI_toInt (by omega), c3]; rfl) (by decide) ?_
        exact lb_feed l hN C0 hK hI0 (by omega) hl (by omega) (hback (by omega))
      · refine lv_tableIn (off := 130) (tgt := 163) hx hb d_Law_33 (by rw [iI_toInt (by omega)]; omega) (by rw [iI_toInt (by omega)]; omega) (by rw [iI_toInt (by omega), c3]; rfl) (by decide) ?_
        exact lb_read l hN C0 hK hI0 (by omega) hl (by omega) (hback (by omega))
      · refine lv_tableIn (off := 163) (tgt := 196) hx hb d_Law_33 (by rw [iI_toInt (by omega)]; omega) (by rw [iI_toInt (by omega)]; omega) (by rw [iI_toInt (by omega), c3]; rfl) (by decide) ?_
        exact lb_place l hN C0 hK hI0 (by omega) hl (by omega) (hback (by omega))
      · refine lv_tableIn (off := 176) (tgt := 209) hx hb d_Law_33 (by rw [iI_toInt (by omega)]; omega) (by rw [iI_toInt (by omega)]; omega) (by rw [iI_toInt (by omega), c3]; rfl) (by decide) ?_
        exact lb_many l hN C0 hK hI0 (by omega) hl (by omega) (hback (by omega))
      · refine lv_tableIn (off := 209) (tgt := 242) hx hb d_Law_33 (by rw [iI_toInt (by omega)]; omega) (by rw [iI_toInt (by omega)]; omega) (by rw [iI_toInt (by omega), c3]; rfl) (by decide) ?_
        exact lb_byteAt l hN C0 hK hI0 (by omega) hl (by omega) (hback (by omega))
      · refine lv_tableIn (off := 242) (tgt := 275) hx hb d_Law_33 (by rw [iI_toInt (by omega)]; omega) (by rw [iI_toInt (by omega)]; omega) (by rw [iI_toInt (by omega), c3]; rfl) (by decide) ?_
        exact lb_look l hN C0 hK hI0 (by omega) hl (by omega) (hback (by omega))
      · refine lv_tableIn (off := 285) (tgt := 318) hx hb d_Law_33 (by rw [iI_toInt (by omega)]; omega) (by rw [iI_toInt (by omega)]; omega) (by rw [iI_toInt (by omega), c3]; rfl) (by decide) ?_
        exact lb_number l hN C0 hK hI0 (by omega) hl (by omega) (hback (by omega))
      · refine lv_tableIn (off := 319) (tgt := 352) hx hb d_Law_33 (by rw [iI_toInt (by omega)]; omega) (by rw [iI_toInt (by omega)]; omega) (by rw [iI_toInt (by omega), c3]; rfl) (by decide) ?_
        exact lb_letter l hN C0 hK hI0 (by omega) hl (by omega) (hback (by omega))
      · refine lv_tableIn (off := 388) (tgt := 421) hx hb d_Law_33 (by rw [iI_toInt (by omega)]; omega) (by rw [iI_toInt (by omega)]; omega) (by rw [iI_toInt (by omega), c3]; rfl) (by decide) ?_
        exact lb_find l hN C0 hK hI0 (by omega) hl (by omega) (hback (by omega))
      · refine lv_tableIn (off := 431) (tgt := 464) hx hb d_Law_33 (by rw [iI_toInt (by omega)]; omega) (by rw [iI_toInt (by omega)]; omega) (by rw [iI_toInt (by omega), c3]; rfl) (by decide) ?_
        exact lb_add l hN C0 hK hI0 (by omega) hl (by omega) (hback (by omega))
      · refine lv_tableIn (off := 538) (tgt := 571) hx hb d_Law_33 (by rw [iI_toInt (by omega)]; omega) (by rw [iI_toInt (by omega)]; omega) (by rw [iI_toInt (by omega), c3]; rfl) (by decide) ?_
        exact lb_graft l hN C0 hK hI0 (by omega) hl (by omega) (hback (by omega))
      · refine lv_tableIn (off := 601) (tgt := 634) hx hb d_Law_33 (by rw [iI_toInt (by omega)]; omega) (by rw [iI_toInt (by omega)]; omega) (by rw [iI_toInt (by omega), c3]; rfl) (by decide) ?_
        exact lb_set l hN C0 hK hI0 (by omega) hl (by omega) (hback (by omega))
      · refine lv_tableIn (off := 674) (tgt := 707) hx hb d_Law_33 (by rw [iI_toInt (by omega)]; omega) (by rw [iI_toInt (by omega)]; omega) (by rw [iI_toInt (by omega), c3]; rfl) (by decide) ?_
        exact lb_drop l hN C0 hK hI0 (by omega) hl (by omega) (hback (by omega))
