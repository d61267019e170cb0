/-! THE WORLD: cells by ROLE. L gives a role's address, κ its cell; different roles lie apart; all lie from lo on. -/
def mw (D : va_G) (cl : List vw_C) (lo : Nat) (L : Nat → Nat) (κ : Nat → Option va_E) (H : Heap) : Prop :=
  lo ≤ H.size ∧ (∀ (i : Nat) (x : va_E), κ i = some x → lo ≤ L i ∧ va_at D cl (L i, x) H) ∧ ∀ (i j : Nat) (x y : va_E), κ i = some x → κ j = some y → L i = L j → i = j
theorem mw_one {D : va_G} {cl : List vw_C} {lo : Nat} {L : Nat → Nat} {κ : Nat → Option va_E} {H : Heap} (hM : mw D cl lo L κ H) {i : Nat} {x : va_E} (he : κ i = some x) : va_P D cl [(L i, x)] H := by
  intro k q h
  match k, h with
  | 0, h => cases h; exact (hM.2.1 i x he).2
  | k + 1, h => simp at h
theorem mw_set {D : va_G} {cl : List vw_C} {lo : Nat} {L : Nat → Nat} {κ : Nat → Option va_E} {H H1 : Heap} (hM : mw D cl lo L κ H) {i : Nat} {x x1 : va_E} (he : κ i = some x) (h1 : va_at D cl (L i, x1) H1) (z : H1.size = H.size) (oq : ∀ q : Nat, q ≠ L i → H1[q]? = H[q]?) : mw D cl lo L (va_up κ i (some x1)) H1 := by
  obtain ⟨a1, a2, a3⟩ := hM
  refine ⟨by rw [z]; exact a1, fun j y hj => ?_, fun j k y w hj hk e => ?_⟩
  · by_cases h : j = i
    · subst h
      rw [va_up_self] at hj
      cases hj
      exact ⟨(a2 _ _ he).1, h1⟩
    · rw [va_up_ne _ _ h] at hj
      exact ⟨(a2 j y hj).1, (a2 j y hj).2.kept (oq _ (fun e => h (a3 j i y x hj he e)))⟩
  · have g : ∀ (r : Nat) (v : va_E), va_up κ i (some x1) r = some v → ∃ v2, κ r = some v2 := by
      intro r v hr
      by_cases h : r = i
      · subst h; exact ⟨x, he⟩
      · rw [va_up_ne _ _ h] at hr; exact ⟨v, hr⟩
    obtain ⟨y2, g1⟩ := g j y hj
    obtain ⟨w2, g2⟩ := g k w hk
    exact a3 j k y2 w2 g1 g2 e
/-- a new cell, in a role that is free or given up -/
theorem mw_new {D : va_G} {cl : List vw_C} {lo : Nat} {L : Nat → Nat} {κ : Nat → Option va_E} {H H1 : Heap} (hM : mw D cl lo L κ H) (i : Nat) {x1 : va_E} (h1 : va_at D cl (H.size, x1) H1) (z : H1.size = H.size + 1) (oq : ∀ q : Nat, q < H.size → H1[q]? = H[q]?) : mw D cl lo (va_up L i H.size) (va_up κ i (some x1)) H1 := by
  obtain ⟨a1, a2, a3⟩ := hM
  have key : ∀ (j : Nat) (y : va_E), κ j = some y → L j < H.size := fun j y hj => (a2 j y hj).2.lt
  refine ⟨by omega, fun j y hj => ?_, fun j k y w hj hk e => ?_⟩
  · by_cases h : j = i
    · subst h
      rw [va_up_self] at hj ⊢
      cases hj
      exact ⟨a1, h1⟩
    · rw [va_up_ne _ _ h] at hj ⊢
      exact ⟨(a2 j y hj).1, (a2 j y hj).2.kept (oq _ (key j y hj))⟩
  · by_cases h : j = i
    · by_cases h2 : k = i
      · rw [h, h2]
      · rw [va_up_ne _ _ h2] at hk
        rw [h, va_up_self, va_up_ne _ _ h2] at e
        have := key k w hk
        omega
    · rw [va_up_ne _ _ h] at hj
      by_cases h2 : k = i
      · rw [h2, va_up_self, va_up_ne _ _ h] at e
        have := key j y hj
        omega
      · rw [va_up_ne _ _ h2] at hk
        rw [va_up_ne _ _ h, va_up_ne _ _ h2] at e
        exact a3 j k y w hj hk e
/-- a role takes another one's cell over -/
theorem mw_take {D : va_G} {cl : List vw_C} {lo : Nat} {L : Nat → Nat} {κ : Nat → Option va_E} {H : Heap} (hM : mw D cl lo L κ H) (i t : Nat) {x : va_E} (ht : κ t = some x) (hit : i ≠ t) : mw D cl lo (va_up L i (L t)) (va_up (va_up κ t none) i (some x)) H := by
  obtain ⟨a1, a2, a3⟩ := hM
  have g : ∀ (r : Nat) (v : va_E), va_up (va_up κ t none) i (some x) r = some v → (r = i ∧ v = x) ∨ (r ≠ i ∧ r ≠ t ∧ κ r = some v) := by
    intro r v hr
    by_cases h : r = i
    · subst h
      rw [va_up_self] at hr
      cases hr
      exact Or.inl ⟨rfl, rfl⟩
    · rw [va_up_ne _ _ h] at hr
      by_cases h2 : r = t
      · subst h2; rw [va_up_self] at hr; cases hr
      · rw [va_up_ne _ _ h2] at hr; exact Or.inr ⟨h, h2, hr⟩
  refine ⟨a1, fun j y hj => ?_, fun j k y w hj hk e => ?_⟩
  · rcases g j y hj with ⟨rfl, rfl⟩ | ⟨h1, h2, h3⟩
    · rw [va_up_self]; exact a2 t _ ht
    · rw [va_up_ne _ _ h1]; exact a2 j y h3
  · rcases g j y hj with ⟨rfl, rfl⟩ | ⟨h1, h2, h3⟩
    · rcases g k w hk with ⟨rfl, rfl⟩ | ⟨k1, k2, k3⟩
      · rfl
      · rw [va_up_self, va_up_ne _ _ k1] at e
        exact absurd (a3 t k _ w ht k3 e).symm k2
    · rcases g k w hk with ⟨rfl, rfl⟩ | ⟨k1, k2, k3⟩
      · rw [va_up_self, va_up_ne _ _ h1] at e
        exact absurd (a3 j t y _ h3 ht e) h2
      · rw [va_up_ne _ _ h1, va_up_ne _ _ k1] at e
        exact a3 j k y w h3 k3 e
/-- roles one up: role 0 is free -/
theorem mw_shift {D : va_G} {cl : List vw_C} {lo : Nat} {L : Nat → Nat} {κ : Nat → Option va_E} {H : Heap} (hM : mw D cl lo L κ H) : mw D cl lo (fun r => L (r - 1)) (fun r => if r = 0 then none else κ (r - 1)) H := by
  obtain ⟨a1, a2, a3⟩ := hM
  have g : ∀ (r : Nat) (v : va_E), (if r = 0 then none else κ (r - 1)) = some v → r ≠ 0 ∧ κ (r - 1) = some v := by
    intro r v hr
    by_cases h : r = 0
    · rw [if_pos h] at hr; cases hr
    · rw [if_neg h] at hr; exact ⟨h, hr⟩
  refine ⟨a1, fun j y hj => a2 _ _ (g j y hj).2, fun j k y w hj hk e => ?_⟩
  have := a3 _ _ _ _ (g j y hj).2 (g k w hk).2 e
  have := (g j y hj).1
  have := (g k w hk).1
  omega
theorem mw_unshift {D : va_G} {cl : List vw_C} {lo : Nat} {L : Nat → Nat} {κ : Nat → Option va_E} {H : Heap} (hM : mw D cl lo L κ H) : mw D cl lo (fun r => L (r + 1)) (fun r => κ (r + 1)) H := by
  obtain ⟨a1, a2, a3⟩ := hM
  exact ⟨a1, fun j y hj => a2 _ _ hj, fun j k y w hj hk e => by have := a3 _ _ _ _ hj hk e; omega⟩
/-- fewer cells -/
theorem mw_less {D : va_G} {cl : List vw_C} {lo : Nat} {L L1 : Nat → Nat} {κ κ1 : Nat → Option va_E} {H : Heap} (hM : mw D cl lo L κ H) (h : ∀ (i : Nat) (x : va_E), κ1 i = some x → κ i = some x ∧ L1 i = L i) : mw D cl lo L1 κ1 H := by
  obtain ⟨a1, a2, a3⟩ := hM
  refine ⟨a1, fun j y hj => ?_, fun j k y w hj hk e => ?_⟩
  · rw [(h j y hj).2]; exact a2 _ _ (h j y hj).1
  · rw [(h j y hj).2, (h k w hk).2] at e
    exact a3 j k y w (h j y hj).1 (h k w hk).1 e
/-! contracts: from the world (L, κ) to one with 'post answer L1 κ1' -/
def mwP (D : va_G) (cl : List vw_C) (tys : List (ClassId × FieldType)) (lo : Nat) (L : Nat → Nat) (κ : Nat → Option va_E) (av : List Value) : Array Value → State → Prop := fun v U => v = av.toArray ∧ mw D cl lo L κ U.heap ∧ va_K D cl tys U
def mwQ (D : va_G) (cl : List vw_C) (lo : Nat) (post : Option Value → (Nat → Nat) → (Nat → Option va_E) → Prop) : Array Value → State → Outcome → State → Prop := fun _ st oc t =>
  ∃ (v : Option Value) (L : Nat → Nat) (κ : Nat → Option va_E), oc = .returned v ∧ post v L κ ∧ mw D cl lo L κ t.heap ∧ va_F (fun q => lo ≤ q) st t
theorem mwP_blind {D : va_G} {cl : List vw_C} {tys : List (ClassId × FieldType)} {lo : Nat} {L : Nat → Nat} {κ : Nat → Option va_E} {av : List Value} : FrameBlind (mwP D cl tys lo L κ av) :=
  fun a U g mk q => ⟨q.1, q.2.1, va_K.moved (u := U) (U := U.calling g mk a) (Vm.Alike.refl U.vm) q.2.2⟩
section MW
variable {p : Program} {l : Launch} {e : Env} {R : Room} {s : State} {m : MethodId} {args : Array Value} {below : List Frame} {meth : Method} {c : Code} {H : Heap} {locs : List Loc} {cells slots : Nat} {Q : State → Prop}
variable {cc : ByteArray} {pc : Nat} {ls : Array Slot} {rest : List Value} {D : va_G} {cl : List vw_C} {lo : Nat} {L : Nat → Nat} {κ : Nat → Option va_E} {tys : List (ClassId × FieldType)} {H0 : Heap}
theorem mwP_S (hM : mw D cl lo L κ H) (hK : va_K D cl tys s) {As : List Value} : PreS s H (mwP D cl tys lo L κ As) As :=
  ⟨mwP_blind, fun U hU hW => ⟨rfl, by rw [hU]; exact hM, va_K.moved hW.alike hK⟩⟩
theorem mwP_V (hM : mw D cl lo L κ H) (hK : va_K D cl tys s) {i ci : Nat} {fs : List Value} {r : vw_C} (he : κ i = some (.inr (ci, fs))) (hc : cl[ci]? = some r) {As : List Value} : PreV s H r.1 (L i) (mwP D cl tys lo L κ (.ref (L i) :: As)) As :=
  ⟨mwP_blind, va_recv hK (mw_one hM he) (ci := ci) (q0 := 0) hc rfl, fun U hU hW => ⟨rfl, by rw [hU]; exact hM, va_K.moved hW.alike hK⟩⟩
/-- behind a call -/
theorem mw_back {mc ms : Nat} {st0 : List Value} {a : Array Value} {post : Option Value → (Nat → Nat) → (Nat → Option va_E) → Prop} (hr : va_Run p l e R s m args below meth c H locs cells slots mc ms (F0 m pc ls st0) rest (mwQ D cl lo post a) (fun q => lo ≤ q)) (hS : va_S (fun q => lo ≤ q) H0 H locs)
    (kk : ∀ (v : Option Value) (L1 : Nat → Nat) (κ1 : Nat → Option va_E) (H1 : Heap) (locs1 : List Loc), post v L1 κ1 → mw D cl lo L1 κ1 H1 → va_S (fun q => lo ≤ q) H0 H1 locs1 → W p l e R s m args below meth c H1 locs1 (cells + mc) (slots + ms) Q (F0 m (pc + 3) ls (v.toList ++ rest))) : W p l e R s m args below meth c H locs cells slots Q (F0 m pc ls st0) := by
  intro T hT X
  obtain ⟨v, st₀, t, T', L2, h0, X', hL, e1, e2, ⟨v2, L1, κ1, hv, hp, hb, hz, hk⟩, st⟩ := hr T hT X
  cases hv
  rw [h0] at hz hk
  obtain ⟨t2, a1, b1⟩ := kk v L1 κ1 T'.heap (locs ++ L2) hp (by rw [e1]; exact hb)
    ⟨Nat.le_trans hS.1 (by rw [e1]; exact hz), fun q h1 h2 => by rw [e1, hk q (Nat.lt_of_lt_of_le h1 hS.1) h2]; exact hS.2.1 q h1 h2, fun q hq => by
      rcases List.mem_append.mp hq with h | h
      · exact hS.2.2 q h
      · exact hL q h⟩ T' rfl X'
  exact ⟨t2, st t2 a1, b1⟩
variable {y : MethodName} {bytes : ByteArray} {maxL nL mc ms n index : Nat} {ret : Option FieldType} {ws : List Cond} {rm : Room} {Ts : List Cond} {own C : String} {As st0 : List Value} {post : Option Value → (Nat → Nat) → (Nat → Option va_E) → Prop}
theorem mw_callV (S : CallFix p m c cc nL s args Ts own) (hK : va_K D cl tys s) (hM : mw D cl lo L κ H) (hS : va_S (fun q => lo ≤ q) H0 H locs) {i ci : Nat} {fs : List Value} {r : vw_C} {qa : Nat} (hqa : L i = qa) (he : κ i = some (.inr (ci, fs))) (hc : cl[ci]? = some r)
    (hm : Met l y ws rm (mwP D cl tys lo L κ (.ref (L i) :: As)) (mwQ D cl lo post) mc ms (fun q => lo ≤ q)) (cw : CallW R s args own r.1 index y bytes maxL ret ws rm mc ms n) (hn : As.length = n) (hl : ls.size = nL) (hst : st0 = As.reverse ++ .ref qa :: rest) (hW : (rest.map fun v => v.category).sum ≤ 8) (hdg : decode cc pc = .ok (.invokevirtual index, 3)) (hf : cells + mc ≤ R.cells ∧ slots + ms ≤ R.slots)
    (kk : ∀ (v : Option Value) (L1 : Nat → Nat) (κ1 : Nat → Option va_E) (H1 : Heap) (locs1 : List Loc), post v L1 κ1 → mw D cl lo L1 κ1 H1 → va_S (fun q => lo ≤ q) H0 H1 locs1 → W p l e R s m args below meth c H1 locs1 (cells + mc) (slots + ms) Q (F0 m (pc + 3) ls (v.toList ++ rest))) : W p l e R s m args below meth c H locs cells slots Q (F0 m pc ls st0) := by
  subst hqa
  exact mw_back (va_runV S hm cw (mwP_V hM hK he hc) rfl hn hl hst (lv_room (m := m) (pc := pc) (ls := ls) (rest := st0) hW) hdg hf) hS kk
theorem mw_callS (S : CallFix p m c cc nL s args Ts own) (hK : va_K D cl tys s) (hM : mw D cl lo L κ H) (hS : va_S (fun q => lo ≤ q) H0 H locs)
    (hm : Met l y ws rm (mwP D cl tys lo L κ As) (mwQ D cl lo post) mc ms (fun q => lo ≤ q)) (cw : CallB R s args own index y bytes maxL ret ws rm mc ms n ∧ (Cond.static y).before args s = true) (hn : As.length = n) (hl : ls.size = nL) (hst : st0 = As.reverse ++ rest) (hW : (rest.map fun v => v.category).sum ≤ 8) (hdg : decode cc pc = .ok (.invokestatic index, 3)) (hf : cells + mc ≤ R.cells ∧ slots + ms ≤ R.slots)
    (kk : ∀ (v : Option Value) (L1 : Nat → Nat) (κ1 : Nat → Option va_E) (H1 : Heap) (locs1 : List Loc), post v L1 κ1 → mw D cl lo L1 κ1 H1 → va_S (fun q => lo ≤ q) H0 H1 locs1 → W p l e R s m args below meth c H1 locs1 (cells + mc) (slots + ms) Q (F0 m (pc + 3) ls (v.toList ++ rest))) : W p l e R s m args below meth c H locs cells slots Q (F0 m pc ls st0) :=
  mw_back (va_runS S hm cw (mwP_S hM hK) rfl hn hl hst (lv_room (m := m) (pc := pc) (ls := ls) (rest := st0) hW) hdg hf) hS kk
theorem mw_callI (S : CallFix p m c cc nL s args Ts own) (hK : va_K D cl tys s) (hM : mw D cl lo L κ H) (hS : va_S (fun q => lo ≤ q) H0 H locs) {b : Nat}
    (hm : Met l y ws rm (mwP D cl tys lo L κ (.ref b :: As)) (mwQ D cl lo post) mc ms (fun q => lo ≤ q)) (cw : CallB R s args own index y bytes maxL none ws rm mc ms n ∧ y.name = "<init>" ∧ (Cond.instanceMethod y).before args s = true) (hn : As.length = n) (hl : ls.size = nL) (hst : st0 = As.reverse ++ .ref b :: rest) (hW : (rest.map fun v => v.category).sum ≤ 8) (hdg : decode cc pc = .ok (.invokespecial index, 3)) (hf : cells + mc ≤ R.cells ∧ slots + ms ≤ R.slots)
    (kk : ∀ (v : Option Value) (L1 : Nat → Nat) (κ1 : Nat → Option va_E) (H1 : Heap) (locs1 : List Loc), post v L1 κ1 → mw D cl lo L1 κ1 H1 → va_S (fun q => lo ≤ q) H0 H1 locs1 → W p l e R s m args below meth c H1 locs1 (cells + mc) (slots + ms) Q (F0 m (pc + 3) ls (v.toList ++ rest))) : W p l e R s m args below meth c H locs cells slots Q (F0 m pc ls st0) :=
  mw_back (va_runI S hm cw (mwP_S hM hK) rfl hn hl hst (lv_room (m := m) (pc := pc) (ls := ls) (rest := st0) hW) hdg hf) hS kk
/-! ends -/
theorem mw_iret {v : Int32} (hexec : p.tables.exec = Jvm.exec) (hb : c.code = cc) (hr : meth.sig.returnType = some .int) (hM : mw D cl lo L κ H) (hS : va_S (fun q => lo ≤ q) s.heap H locs) (hlocks : meth.locks = false) (hdg : decode cc pc = .ok (.ireturn, 1)) (hq : post (some (.int v)) L κ) : W p l e R s m args below meth c H locs cells slots (MQ below (mwQ D cl lo post) args s cells slots (fun q => lo ≤ q)) (F0 m pc ls [.int v]) :=
  W.iret hexec hb hr (fun t ht _ => ⟨_, L, κ, rfl, hq, by rw [ht]; exact hM, hS.F ht⟩) hS.2.2 hdg hlocks
theorem mw_zret {v : Bool} (hexec : p.tables.exec = Jvm.exec) (hb : c.code = cc) (hr : meth.sig.returnType = some .boolean) (hM : mw D cl lo L κ H) (hS : va_S (fun q => lo ≤ q) s.heap H locs) (hlocks : meth.locks = false) (hdg : decode cc pc = .ok (.ireturn, 1)) (hq : post (some (.int (iI (bI v)))) L κ) : W p l e R s m args below meth c H locs cells slots (MQ below (mwQ D cl lo post) args s cells slots (fun q => lo ≤ q)) (F0 m pc ls [.int (iI (bI v))]) :=
  W.zret hexec hb hr (by cases v <;> decide) (fun t ht _ => ⟨_, L, κ, rfl, hq, by rw [ht]; exact hM, hS.F ht⟩) hS.2.2 hdg hlocks
theorem mw_lret {v : Int64} (hexec : p.tables.exec = Jvm.exec) (hb : c.code = cc) (hr : meth.sig.returnType = some .long) (hM : mw D cl lo L κ H) (hS : va_S (fun q => lo ≤ q) s.heap H locs) (hlocks : meth.locks = false) (hdg : decode cc pc = .ok (.lreturn, 1)) (hq : post (some (.long v)) L κ) : W p l e R s m args below meth c H locs cells slots (MQ below (mwQ D cl lo post) args s cells slots (fun q => lo ≤ q)) (F0 m pc ls [.long v]) :=
  W.lret hexec hb hr (fun t ht _ => ⟨_, L, κ, rfl, hq, by rw [ht]; exact hM, hS.F ht⟩) hS.2.2 hdg hlocks
theorem mw_vret (hexec : p.tables.exec = Jvm.exec) (hb : c.code = cc) (hr : meth.sig.returnType = none) (hM : mw D cl lo L κ H) (hS : va_S (fun q => lo ≤ q) s.heap H locs) (hlocks : meth.locks = false) (hdg : decode cc pc = .ok (.return_, 1)) (hq : post none L κ) : W p l e R s m args below meth c H locs cells slots (MQ below (mwQ D cl lo post) args s cells slots (fun q => lo ≤ q)) (F0 m pc ls []) :=
  W.vret hexec hb hr (fun t ht _ => ⟨_, L, κ, rfl, hq, by rw [ht]; exact hM, hS.F ht⟩) hS.2.2 hdg hlocks
theorem mw_aret {a : Nat} {rt : FieldType} (hexec : p.tables.exec = Jvm.exec) (hb : c.code = cc) (hr : meth.sig.returnType = some rt) (hrt : (∃ n, rt = .object n) ∨ ∃ t, rt = .array t) (hM : mw D cl lo L κ H) (hS : va_S (fun q => lo ≤ q) s.heap H locs) (hlocks : meth.locks = false) (hdg : decode cc pc = .ok (.areturn, 1)) (hq : post (some (.ref a)) L κ) : W p l e R s m args below meth c H locs cells slots (MQ below (mwQ D cl lo post) args s cells slots (fun q => lo ≤ q)) (F0 m pc ls [.ref a]) :=
  W.aret hexec hb hr hrt (Or.inr ⟨a, rfl⟩) (fun t ht _ => ⟨_, L, κ, rfl, hq, by rw [ht]; exact hM, hS.F ht⟩) hS.2.2 hdg hlocks
end MW
theorem mw_entry {m : MethodId} {args : Array Value} (av : List Value) {n : Nat} (h : (lg_sl av).length ≤ n) (e : args = av.toArray) : ∃ ls, entryFrame m args n = F0 m 0 ls [] ∧ lv_has ls n (lv_args 0 av) := by
  subst e
  rw [lg_entry_eq]
  exact ⟨_, rfl, lv_entry av h⟩
