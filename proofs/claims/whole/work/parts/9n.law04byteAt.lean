set_option maxHeartbeats 4000000 in
theorem lb_byteAt {p : Program} {e : Env} {s : State} {m : MethodId} {below : List Frame} {meth : Method} {c : Code} (l : Launch) {b N : Nat} {xs : Nat → Int32} (hN : N ≤ 4096) (C0 : lw_At p s m meth c b N xs) {D : va_G} {g : Nat → ClassId} (hK : va_K D vwCl (tyL g) s) {q0 q1 : Nat} {H : Heap} {locs : List Loc} (hI0 : lwI D g s q0 q1 H locs) {k : Int} (hk : 0 ≤ k ∧ k + 8 ≤ N) {ls : Array Slot} (hl : lv_has ls 4 [(3, .int (iI k)), (2, .ref q1), (1, .ref q0), (0, .ref b)]) {cells slots : Nat} (hc : cells + 5 ≤ 600000 ∧ slots + 10025 ≤ 7302250) (kk : ∀ (H1 : Heap) (locs1 : List Loc), lwI D g s q0 q1 H1 locs1 → W p l e room_1 s m #[Value.ref b] below meth c H1 locs1 (cells + 5) (slots + 10025) (lw_Z below #[Value.ref b] s) (F0 m 740 ls [])) : W p l e room_1 s m #[Value.ref b] below meth c H locs cells slots (lw_Z below #[Value.ref b] s) (F0 m 242 ls []) := by
  obtain ⟨hx, hb, hr, hml, hown, hts0, hX, hbl, hlocks, hgv⟩ := id C0
  have hts : ∀ w ∈ wA, w.before #[Value.ref b] s = true := fun w h => hts0 w (wA_in h)
  have hbA : ¬ s.heap.size ≤ b := Nat.not_le.mpr hbl
  obtain ⟨L, κ, S, hM, hS, ⟨scn, fpl, zT, bT, zF, bF, T, cnt, d, zS, bS, hW, hI⟩, hm, hq0, hq1⟩ := hI0
  obtain ⟨hR, hF⟩ := Rg_of hW hm
  have hO : κ 0 = some (.inr (dbC, [.ref (L 2), .ref (L 1), .ref (L 4), .ref (L 6), .ref (L 14), .int (iI scn), .int (iI fpl)])) := hW.1
  have hsc := hI.2.2.2.1
  have ht0 : 0 ≤ S.f 0 ∧ S.f 0 ≤ 2000 := by have h1 := hI.1.1; have h2 := hI.1.2.1; omega
  refine lv_aload_n hx hb d_Law_242 rfl (lv_at hl 2 rfl) ?_
  refine lv_aload_n hx hb d_Law_243 rfl (lv_at hl 3 rfl) ?_
  refine lv_iload_n hx hb d_Law_244 rfl (lv_at hl 0 rfl) ?_
  refine lv_iconst (v := iI (1)) hx hb d_Law_245 rfl ?_
  refine ia_add hx hb d_Law_246 ?_
  refine ia_sld (a := k + 1) hx hb hX hbl hbA hS (by omega) (by omega) d_Law_247 ?_
  have r1 := iI_r (xs (k + 1 : Int).toNat)
  refine lv_aload_n hx hb d_Law_248 rfl (lv_at hl 3 rfl) ?_
  refine lv_iload_n hx hb d_Law_249 rfl (lv_at hl 0 rfl) ?_
  refine lv_iconst (v := iI (2)) hx hb d_Law_250 rfl ?_
  refine ia_add hx hb d_Law_251 ?_
  refine ia_sld (a := k + 2) hx hb hX hbl hbA hS (by omega) (by omega) d_Law_252 ?_
  have r2 := iI_r (xs (k + 2 : Int).toNat)
  refine mw_rdV (i := 0) (As := [.int (iI ((xs (k + 1 : Int).toNat).toInt)), .int (iI ((xs (k + 2 : Int).toNat).toInt))]) (rest := []) ⟨hx, hb, hml, hown, hts⟩ hK hM hS hq0 hO rfl (c_Doc_byteAt l D g s.heap.size L κ scn fpl zT bT zF bF T cnt d zS bS hW hsc ((xs (k + 1 : Int).toNat).toInt) ((xs (k + 2 : Int).toNat).toInt) (by omega) (by omega) ) (cwV 2 hts (gV m_412 m_413 m_414 m_51 m_415) rfl rfl rfl (by decide +kernel) ⟨Nat.le_of_ble_eq_true rfl, Nat.le_of_ble_eq_true rfl⟩) rfl hl.1 rfl (Nat.le_of_ble_eq_true rfl) d_Law_253 ⟨Nat.le_trans (m := 600000) (by omega) (Nat.le_of_ble_eq_true rfl), Nat.le_trans (m := 7302250) (by omega) (Nat.le_of_ble_eq_true rfl)⟩ (fun H locs hM hS => ?_)
  refine lv_aload_n hx hb d_Law_256 rfl (lv_at hl 1 rfl) ?_
  refine lv_aload_n hx hb d_Law_257 rfl (lv_at hl 3 rfl) ?_
  refine lv_iload_n hx hb d_Law_258 rfl (lv_at hl 0 rfl) ?_
  refine lv_iconst (v := iI (1)) hx hb d_Law_259 rfl ?_
  refine ia_add hx hb d_Law_260 ?_
  refine ia_sld (a := k + 1) hx hb hX hbl hbA hS (by omega) (by omega) d_Law_261 ?_
  have r3 := iI_r (xs (k + 1 : Int).toNat)
  refine lv_aload_n hx hb d_Law_262 rfl (lv_at hl 3 rfl) ?_
  refine lv_iload_n hx hb d_Law_263 rfl (lv_at hl 0 rfl) ?_
  refine lv_iconst (v := iI (2)) hx hb d_Law_264 rfl ?_
  refine ia_add hx hb d_Law_265 ?_
  refine ia_sld (a := k + 2) hx hb hX hbl hbA hS (by omega) (by omega) d_Law_266 ?_
  have r4 := iI_r (xs (k + 2 : Int).toNat)
  refine mw_rdV (i := 40) (As := [.int (iI ((xs (k + 1 : Int).toNat).toInt)), .int (iI ((xs (k + 2 : Int).toNat).toInt))]) (rest := [.int (iI (dByte ((xs (k + 1 : Int).toNat).toInt) ((xs (k + 2 : Int).toNat).toInt) zS bS))]) ⟨hx, hb, hml, hown, hts⟩ hK hM hS hq1 hm.1 rfl (c_Model_byteAt l D g s.heap.size L κ S hm ((xs (k + 1 : Int).toNat).toInt) ((xs (k + 2 : Int).toNat).toInt) (by omega) (by omega) (Inv_szs hI)) (cwV 2 hts (gV m_702 m_703 m_704 m_58 m_705) rfl rfl rfl (by decide +kernel) ⟨Nat.le_of_ble_eq_true rfl, Nat.le_of_ble_eq_true rfl⟩) rfl hl.1 rfl (Nat.le_of_ble_eq_true rfl) d_Law_267 ⟨Nat.le_trans (m := 600000) (by omega) (Nat.le_of_ble_eq_true rfl), Nat.le_trans (m := 7302250) (by omega) (Nat.le_of_ble_eq_true rfl)⟩ (fun H locs hM hS => ?_)
  refine lv_icmp_eq (tgt := 740) hx hb d_Law_270 (by decide) (fun _ => ?_) (fun h => absurd (congrArg iI (r_byte hI _ _)) h)
  refine W.widen (k := cells + 5) (n := slots + 10025) (by omega) (by omega) ?_
  exact kk _ _ ⟨L, κ, S, hM, hS, ⟨scn, fpl, zT, bT, zF, bF, T, cnt, d, zS, bS, hW, hI⟩, hm, hq0, hq1⟩
