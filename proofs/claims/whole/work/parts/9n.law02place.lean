set_option maxHeartbeats 4000000 in
theorem lb_place {p : Program} {e : Env} {s : State} {m : MethodId} {below : List Frame} {meth : Method} {c : Code} (l : Launch) {b N : Nat} {xs : Nat → Int32} (hN : N ≤ 4096) (C0 : lw_At p s m meth c b N xs) {D : va_G} {g : Nat → ClassId} (hK : va_K D vwCl (tyL g) s) {q0 q1 : Nat} {H : Heap} {locs : List Loc} (hI0 : lwI D g s q0 q1 H locs) {k : Int} (hk : 0 ≤ k ∧ k + 8 ≤ N) {ls : Array Slot} (hl : lv_has ls 4 [(3, .int (iI k)), (2, .ref q1), (1, .ref q0), (0, .ref b)]) {cells slots : Nat} (hc : cells + 5 ≤ 600000 ∧ slots + 10025 ≤ 7302250) (kk : ∀ (H1 : Heap) (locs1 : List Loc), lwI D g s q0 q1 H1 locs1 → W p l e room_1 s m #[Value.ref b] below meth c H1 locs1 (cells + 5) (slots + 10025) (lw_Z below #[Value.ref b] s) (F0 m 740 ls [])) : W p l e room_1 s m #[Value.ref b] below meth c H locs cells slots (lw_Z below #[Value.ref b] s) (F0 m 196 ls []) := by
  obtain ⟨hx, hb, hr, hml, hown, hts0, hX, hbl, hlocks, hgv⟩ := id C0
  have hts : ∀ w ∈ wA, w.before #[Value.ref b] s = true := fun w h => hts0 w (wA_in h)
  have hbA : ¬ s.heap.size ≤ b := Nat.not_le.mpr hbl
  obtain ⟨L, κ, S, hM, hS, ⟨scn, fpl, zT, bT, zF, bF, T, cnt, d, zS, bS, hW, hI⟩, hm, hq0, hq1⟩ := hI0
  obtain ⟨hR, hF⟩ := Rg_of hW hm
  have hO : κ 0 = some (.inr (dbC, [.ref (L 2), .ref (L 1), .ref (L 4), .ref (L 6), .ref (L 14), .int (iI scn), .int (iI fpl)])) := hW.1
  have hsc := hI.2.2.2.1
  have ht0 : 0 ≤ S.f 0 ∧ S.f 0 ≤ 2000 := by have h1 := hI.1.1; have h2 := hI.1.2.1; omega
  refine lv_aload_n hx hb d_Law_196 rfl (lv_at hl 2 rfl) ?_
  refine mw_rdV (i := 0) (As := []) (rest := []) ⟨hx, hb, hml, hown, hts⟩ hK hM hS hq0 hO rfl (c_Doc_place l D g s.heap.size L κ scn fpl zT bT zF bF T cnt d zS bS hW hsc   ) (cwV 0 hts (gV m_370 m_371 m_372 m_51 m_373) rfl rfl rfl (by decide +kernel) ⟨Nat.le_of_ble_eq_true rfl, Nat.le_of_ble_eq_true rfl⟩) rfl hl.1 rfl (Nat.le_of_ble_eq_true rfl) d_Law_197 ⟨Nat.le_trans (m := 600000) (by omega) (Nat.le_of_ble_eq_true rfl), Nat.le_trans (m := 7302250) (by omega) (Nat.le_of_ble_eq_true rfl)⟩ (fun H locs hM hS => ?_)
  refine lv_aload_n hx hb d_Law_200 rfl (lv_at hl 1 rfl) ?_
  refine mw_rdV (i := 40) (As := []) (rest := [.int (iI fpl)]) ⟨hx, hb, hml, hown, hts⟩ hK hM hS hq1 hm.1 rfl (c_Model_place l D g s.heap.size L κ S hm   ) (cwV 0 hts (gV m_690 m_691 m_692 m_58 m_693) rfl rfl rfl (by decide +kernel) ⟨Nat.le_of_ble_eq_true rfl, Nat.le_of_ble_eq_true rfl⟩) rfl hl.1 rfl (Nat.le_of_ble_eq_true rfl) d_Law_201 ⟨Nat.le_trans (m := 600000) (by omega) (Nat.le_of_ble_eq_true rfl), Nat.le_trans (m := 7302250) (by omega) (Nat.le_of_ble_eq_true rfl)⟩ (fun H locs hM hS => ?_)
  refine lv_icmp_eq (tgt := 740) hx hb d_Law_204 (by decide) (fun _ => ?_) (fun h => absurd (congrArg iI (hI.2.1.1)) h)
  refine W.widen (k := cells + 5) (n := slots + 10025) (by omega) (by omega) ?_
  exact kk _ _ ⟨L, κ, S, hM, hS, ⟨scn, fpl, zT, bT, zF, bF, T, cnt, d, zS, bS, hW, hI⟩, hm, hq0, hq1⟩
