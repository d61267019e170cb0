set_option maxHeartbeats 4000000 in
theorem whole_start {p : Program} {e : Env} {s : State} {m : MethodId} {below : List Frame} {meth : Method} {c : Code} (l : Launch) {b L : Nat} {xs : Nat → Int32} (hL : L ≤ 4096) (C0 : lw_At p s m meth c b L xs) : W p l e room_1 s m #[Value.ref b] below meth c s.heap [] 0 0 (lw_Z below #[Value.ref b] s) (entryFrame m ([Value.ref b] : List Value).toArray 4) := by
  generalize L = N at hL C0
  obtain ⟨hx, hb, hr, hml, hown, hts0, hX, hbl, hlocks, hgv⟩ := id C0
  have hts : ∀ w ∈ wA, w.before #[Value.ref b] s = true := fun w h => hts0 w (wA_in h)
  have hbA : ¬ s.heap.size ≤ b := Nat.not_le.mpr hbl
  have hAO : va_AO "DocumentBytes$Bytes" s := va_AO.of (hts0 _ m_AO)
  obtain ⟨g, hKa⟩ := ao_K (hts _ m_85) (hts _ m_159) hAO
  obtain ⟨c0, i0, hKn0⟩ := u_known (C := R_Bytes) (T := T_Bytes) (N := 3) (n := 3) hts in_Bytes (hts _ m_70)
  obtain ⟨c1, i1, hKn1⟩ := u_known (C := R_Nodes) (T := T_Nodes) (N := 9) (n := 9) hts in_Nodes (hts _ m_126)
  obtain ⟨c2, i2, hKn2⟩ := u_known (C := R_Reader) (T := T_Reader) (N := 6) (n := 6) hts in_Reader (hts _ m_161)
  obtain ⟨c3, i3, hKn3⟩ := u_known (C := R_Doc) (T := T_Doc) (N := 7) (n := 7) hts in_Doc (hts _ m_62)
  obtain ⟨c4, i4, hKn4⟩ := u_known (C := R_Model) (T := T_Model) (N := 23) (n := 23) hts in_Model (hts _ m_541)
  obtain ⟨D, hKc⟩ : ∃ D : va_G, ∀ (k : Nat) (q : vw_C), vwCl[k]? = some q → u_Kn s q.1 q.2.1 q.2.2 (D.1 k) (D.2 k) := by
    refine ⟨(fun k => if k = 0 then c0 else if k = 1 then c1 else if k = 2 then c2 else if k = 3 then c3 else c4, fun k => if k = 0 then i0 else if k = 1 then i1 else if k = 2 then i2 else if k = 3 then i3 else i4), fun k q hq => ?_⟩
    match k, hq with
    | 0, hq => cases hq; exact hKn0
    | 1, hq => cases hq; exact hKn1
    | 2, hq => cases hq; exact hKn2
    | 3, hq => cases hq; exact hKn3
    | 4, hq => cases hq; exact hKn4
    | k + 5, hq => simp [vwCl] at hq
  have hK : va_K D vwCl (tyL g) s := ⟨hKc, hKa⟩
  have hS : va_S (fun q : Nat => s.heap.size ≤ q) s.heap s.heap [] := va_S.rf
  have hM : mw D vwCl s.heap.size (fun _ => 0) (fun _ => none) s.heap := ⟨Nat.le_refl _, fun i x h => (by cases h), fun i j x y h => (by cases h)⟩
  obtain ⟨L, hL0⟩ : ∃ L : Nat → Nat, L = fun _ => 0 := ⟨_, rfl⟩
  obtain ⟨κ, hk0⟩ : ∃ κ : Nat → Option va_E, κ = fun _ => none := ⟨_, rfl⟩
  rw [← hL0, ← hk0] at hM
  obtain ⟨ls, hls, hl⟩ := mw_entry (m := m) (args := ([Value.ref b] : List Value).toArray) [.ref b] (n := 4) (Nat.le_of_ble_eq_true rfl) rfl
  refine W.eq hls ?_
  have hl : lv_has ls 4 [(0, .ref b)] := hl
  refine mw_newobj (C := R_Doc) (T := T_Doc) (N := 7) (ci := 3) (fs := [.null, .null, .null, .null, .null, .int (iI 0), .int (iI 0)]) hx hb hts in_Doc ty_Doc ty_Doc_ok hown (hts _ m_61) (hts _ m_62) (hts _ m_51) hK hM hS 0 rfl (by intro z hz; rcases (show z = 0 ∨ z = 1 ∨ z = 2 ∨ z = 3 ∨ z = 4 ∨ z = 5 ∨ z = 6 by omega) with rfl | rfl | rfl | rfl | rfl | rfl | rfl <;> rfl) (Nat.le_of_ble_eq_true rfl) (Nat.le_of_ble_eq_true rfl) d_Law_0 (fun L1 κ1 H e1 hk1 hL1 hM hS => ?_)
  refine lv_dup hx hb d_Law_3 rfl ?_
  refine mw_callIA (b := L1 0) (As := []) (rest := [.ref (L1 0)]) ⟨hx, hb, hml, hown, hts⟩ hK hAO hM hS (c_Doc_init l D g s.heap.size L1 κ1 e1) (cwI 0 hts (gW m_65) rfl rfl rfl (hts _ m_51) (hts _ m_63) (hts _ m_64) rfl (by decide +kernel) ⟨Nat.le_of_ble_eq_true rfl, Nat.le_of_ble_eq_true rfl⟩) rfl hl.1 rfl (Nat.le_of_ble_eq_true rfl) d_Law_4 ⟨Nat.le_of_ble_eq_true rfl, Nat.le_of_ble_eq_true rfl⟩ (fun v2 L2 κ2 H locs hp2 hM hS => ?_)
  obtain ⟨rfl, hL2, hd2, hk2⟩ := hp2
  refine lv_astore_n (lv' := [(1, .ref (L1 0)), (0, .ref b)]) hx hb d_Law_7 rfl hl (by decide) rfl (fun ls hl => ?_)
  refine mw_newobj (C := R_Model) (T := T_Model) (N := 23) (ci := 4) (fs := [.int (iI 0), .null, .int (iI 0), .int (iI 0), .null, .null, .null, .int (iI 0), .int (iI 0), .null, .null, .null, .null, .null, .int (iI 0), .int (iI 0), .int (iI 0), .null, .null, .null, .null, .null, .int (iI 0)]) hx hb hts in_Model ty_Model ty_Model_ok hown (hts _ m_540) (hts _ m_541) (hts _ m_58) hK hM hS 40 rfl (by intro z hz; rcases (show z = 0 ∨ z = 1 ∨ z = 2 ∨ z = 3 ∨ z = 4 ∨ z = 5 ∨ z = 6 ∨ z = 7 ∨ z = 8 ∨ z = 9 ∨ z = 10 ∨ z = 11 ∨ z = 12 ∨ z = 13 ∨ z = 14 ∨ z = 15 ∨ z = 16 ∨ z = 17 ∨ z = 18 ∨ z = 19 ∨ z = 20 ∨ z = 21 ∨ z = 22 by omega) with rfl | rfl | rfl | rfl | rfl | rfl | rfl | rfl | rfl | rfl | rfl | rfl | rfl | rfl | rfl | rfl | rfl | rfl | rfl | rfl | rfl | rfl | rfl <;> rfl) (Nat.le_of_ble_eq_true rfl) (Nat.le_of_ble_eq_true rfl) d_Law_8 (fun L3 κ3 H e3 hk3 hL3 hM hS => ?_)
  refine lv_dup hx hb d_Law_11 rfl ?_
  refine mw_callI (b := L3 40) (As := []) (rest := [.ref (L3 40)]) ⟨hx, hb, hml, hown, hts⟩ hK hM hS (c_Model_init l D g s.heap.size L3 κ3 e3) (cwI 0 hts (gW m_544) rfl rfl rfl (hts _ m_58) (hts _ m_542) (hts _ m_543) rfl (by decide +kernel) ⟨Nat.le_of_ble_eq_true rfl, Nat.le_of_ble_eq_true rfl⟩) rfl hl.1 rfl (Nat.le_of_ble_eq_true rfl) d_Law_12 ⟨Nat.le_of_ble_eq_true rfl, Nat.le_of_ble_eq_true rfl⟩ (fun v4 L4 κ4 H locs hp4 hM hS => ?_)
  obtain ⟨rfl, hL4, hd4, hk4⟩ := hp4
  refine lv_astore_n (lv' := [(2, .ref (L3 40)), (1, .ref (L1 0)), (0, .ref b)]) hx hb d_Law_15 rfl hl (by decide) rfl (fun ls hl => ?_)
  refine lv_iconst (v := iI (0)) hx hb d_Law_16 rfl ?_
  refine lv_istore_n (lv' := [(3, .int (iI 0)), (2, .ref (L3 40)), (1, .ref (L1 0)), (0, .ref b)]) hx hb d_Law_17 rfl hl (by decide) rfl (fun ls hl => ?_)
  obtain ⟨nS, q8⟩ := hd2.2.2.2.2.2.2.1
  have hJ : JJ g L2 κ2 mS0 := ⟨_, _, _, _, _, _, _, _, _, _, _, hd2, Inv_init (fun x => (q8 0 (by decide)).2.2.2.1 x)⟩
  have hJ4 : JJ g L4 κ4 mS0 := JJ_keep2 hJ (fun r h => by rw [hk4 r (Or.inl h), hk3 r (by omega)]) (fun r h => by rw [hL4 r (Or.inl (by omega)), hL3 r (by omega)])
  refine W.widen (k := 62 + 5 * 0) (n := 69391 + 10025 * 0) (Nat.le_of_ble_eq_true rfl) (Nat.le_of_ble_eq_true rfl) ?_
  exact law_loop l hL C0 hK (N + 1) 0 H _ ls (by omega) (Nat.zero_le _) ⟨L4, κ4, mS0, hM, hS, hJ4, hd4, (hL4 0 (Or.inl (by decide))).trans ((hL3 0 (by decide)).trans (hL2 0 (Or.inl rfl))), hL4 40 (Or.inl (by decide))⟩ hl
