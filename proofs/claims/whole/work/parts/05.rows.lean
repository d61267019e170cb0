/-! INSTRUCTIONS over the world by roles -/
section MR
variable {p : Program} {l : Launch} {e : Env} {R : Room} {s : State} {m : MethodId} {args : Array Value} {below : List Frame} {meth : Method} {c : Code} {H : Heap} {locs : List Loc} {cells slots : Nat} {Q : State → Prop}
variable {cc : ByteArray} {pc : Nat} {ls : Array Slot} {rest : List Value} {D : va_G} {cl : List vw_C} {lo : Nat} {L : Nat → Nat} {κ : Nat → Option va_E} {tys : List (ClassId × FieldType)} {H0 : Heap}
theorem mw_get (hexec : p.tables.exec = Jvm.exec) (hb : c.code = cc) {own C : String} {T : u_T} {N ci index : Nat} {Ts : List Cond} (hts : ∀ w ∈ Ts, w.before args s = true) (hin : ∀ w ∈ u_ws C T N, w ∈ Ts) (hown : s.vm.findClass own = some m.cls) (hK : va_K D cl tys s) (hM : mw D cl lo L κ H) {qa : Nat} {i : Nat} {fs : List Value} (he : κ i = some (.inr (ci, fs))) (hqa : L i = qa) (hc : cl[ci]? = some (C, T, N)) (k : Nat) (hk : k < N) (hlink : (Cond.fieldLink own index (T k).1 (T k).2.1 (T k).2.2.1).before args s = true) {v : Value} (hv : fs[k]? = some v) (hdg : decode cc pc = .ok (.getfield index, 3))
    (kk : W p l e R s m args below meth c H locs cells slots Q (F0 m (pc + 3) ls (v :: rest))) : W p l e R s m args below meth c H locs cells slots Q (F0 m pc ls (.ref qa :: rest)) := by
  subst hqa
  exact va_get (D := D) hexec hb hts hin hown hK (mw_one hM he) 0 rfl hc k hk hlink (fun _ h => h) hv hdg kk
theorem mw_put (hexec : p.tables.exec = Jvm.exec) (hb : c.code = cc) {own C : String} {T : u_T} {N ci index : Nat} {Ts : List Cond} (hts : ∀ w ∈ Ts, w.before args s = true) (hin : ∀ w ∈ u_ws C T N, w ∈ Ts) (ty0 : Nat → FieldType) (hty : ∀ k, k < N → parseFieldDescriptor (T k).2.2.1 = some (ty0 k)) (hnm : ∀ a, a < N → ∀ b, b < N → a ≠ b → (T a).2.1 ≠ (T b).2.1) (hown : s.vm.findClass own = some m.cls) (hK : va_K D cl tys s) (hM : mw D cl lo L κ H) {qa : Nat} (hS0 : va_S (fun q => lo ≤ q) H0 H locs) {i : Nat} {fs : List Value} (he : κ i = some (.inr (ci, fs))) (hqa : L i = qa) (hc : cl[ci]? = some (C, T, N)) (k : Nat) (hk : k < N) (hlink : (Cond.fieldLink own index (T k).1 (T k).2.1 (T k).2.2.1).before args s = true) (hfin : (T k).2.2.2 = false) {ty : FieldType} {v : Value} (hd : parseFieldDescriptor (T k).2.2.1 = some ty) (hn : narrow ty v = v) (hfit : fits ty v = true) (hl : k < fs.length)
    (hdg : decode cc pc = .ok (.putfield index, 3)) (kk : ∀ (κ1 : Nat → Option va_E) (H1 : Heap) (locs1 : List Loc), κ1 i = some (.inr (ci, fs.set k v)) → (∀ r, r ≠ i → κ1 r = κ r) → mw D cl lo L κ1 H1 → va_S (fun q => lo ≤ q) H0 H1 locs1 → W p l e R s m args below meth c H1 locs1 cells slots Q (F0 m (pc + 3) ls rest)) : W p l e R s m args below meth c H locs cells slots Q (F0 m pc ls (v :: .ref qa :: rest)) := by
  subst hqa
  have hap := va_apart (own := own) hts hin ty0 hty hnm hK hc
  obtain ⟨hlo, r, h1, cell, q1, q2, q3, q4⟩ := hM.2.1 i _ he
  have hr : r = (C, T, N) := Option.some.inj (h1.symm.trans hc)
  subst hr
  obtain ⟨hS, hfc, kC, hkC, hkind⟩ := hK.1 ci _ hc
  obtain ⟨cf, kf, fi, f, hi, hsl⟩ := hS k hk
  have hlay := hts _ (hin _ (u_in_lay hk))
  unfold u_lay at hlay
  rw [if_neg (by rw [hfin]; decide)] at hlay
  have hst := (u_facts hfc hkC (u_lays hts hin hk) hi).1
  have h6 := u_store hfc hkC hkind hlay hi hd hn hfit
  refine W.putK hexec hb (f := f) ⟨hown, hlink, ⟨_, _, _, hi⟩, hst⟩ (by rw [q2]; exact h6) q1 q3 (by rw [hsl]; exact k2_hasslot (q4 k hk)) rfl rfl hdg fun H' e1 e2 e3 => ?_
  rw [hsl] at e1 ⊢
  exact kk _ H' _ (va_up_self _ _ _) (fun r hr => va_up_ne _ _ hr) (mw_set hM he ⟨_, hc, t_OB.to (V := updV (vp_V fs) k v) ⟨_, e1, q2, q3, t_set q4 hap hk v⟩ (fun j _ => vp_updV_set hl v j)⟩ e2 e3) (hS0.put e2 e3 hlo)
theorem mw_putF (hexec : p.tables.exec = Jvm.exec) (hb : c.code = cc) {own C : String} {T : u_T} {N ci index : Nat} {Ts : List Cond} (hts : ∀ w ∈ Ts, w.before args s = true) (hin : ∀ w ∈ u_ws C T N, w ∈ Ts) (ty0 : Nat → FieldType) (hty : ∀ k, k < N → parseFieldDescriptor (T k).2.2.1 = some (ty0 k)) (hnm : ∀ a, a < N → ∀ b, b < N → a ≠ b → (T a).2.1 ≠ (T b).2.1) (hown : s.vm.findClass own = some m.cls) (hK : va_K D cl tys s) (hM : mw D cl lo L κ H) {qa : Nat} (hS0 : va_S (fun q => lo ≤ q) H0 H locs) {i : Nat} {fs : List Value} (he : κ i = some (.inr (ci, fs))) (hqa : L i = qa) (hc : cl[ci]? = some (C, T, N)) (k : Nat) (hk : k < N) (hlink : (Cond.fieldLink own index (T k).1 (T k).2.1 (T k).2.2.1).before args s = true) (hfin : (T k).2.2.2 = true) (hin2 : meth.name = "<init>") (hdecl : (T k).1 = own) {ty : FieldType} {v : Value} (hd : parseFieldDescriptor (T k).2.2.1 = some ty) (hn : narrow ty v = v) (hfit : fits ty v = true) (hl : k < fs.length)
    (hdg : decode cc pc = .ok (.putfield index, 3)) (kk : ∀ (κ1 : Nat → Option va_E) (H1 : Heap) (locs1 : List Loc), κ1 i = some (.inr (ci, fs.set k v)) → (∀ r, r ≠ i → κ1 r = κ r) → mw D cl lo L κ1 H1 → va_S (fun q => lo ≤ q) H0 H1 locs1 → W p l e R s m args below meth c H1 locs1 cells slots Q (F0 m (pc + 3) ls rest)) : W p l e R s m args below meth c H locs cells slots Q (F0 m pc ls (v :: .ref qa :: rest)) := by
  subst hqa
  have hap := va_apart (own := own) hts hin ty0 hty hnm hK hc
  obtain ⟨hlo, r, h1, cell, q1, q2, q3, q4⟩ := hM.2.1 i _ he
  have hr : r = (C, T, N) := Option.some.inj (h1.symm.trans hc)
  subst hr
  obtain ⟨hS, hfc, kC, hkC, hkind⟩ := hK.1 ci _ hc
  obtain ⟨cf, kf, fi, f, hi, hsl⟩ := hS k hk
  have hlay := hts _ (hin _ (u_in_lay hk))
  unfold u_lay at hlay
  rw [if_pos hfin] at hlay
  have hst := (u_facts hfc hkC (u_lays hts hin hk) hi).1
  have hcf : m.cls = cf := by
    obtain ⟨_, _, c', _, _, _, -, -, hf', -, -, -, hown2, -⟩ := Cond.laysFinal_spec hlay
    have e1 : c' = cf := by have := hi.symm.trans hf'; simp at this; exact this.1.symm
    rw [hdecl] at hown2
    rw [← e1]; exact Option.some.inj (hown.symm.trans hown2)
  have h6 := u_fits hfc hkC hkind (Or.inr hlay) hi hd hn hfit
  refine W.putFinK hexec hb hown hlink hi hst hcf hin2 (by rw [q2]; exact h6) q1 q3 (by rw [hsl]; exact k2_hasslot (q4 k hk)) rfl rfl hdg fun H' e1 e2 e3 => ?_
  rw [hsl] at e1 ⊢
  exact kk _ H' _ (va_up_self _ _ _) (fun r hr => va_up_ne _ _ hr) (mw_set hM he ⟨_, hc, t_OB.to (V := updV (vp_V fs) k v) ⟨_, e1, q2, q3, t_set q4 hap hk v⟩ (fun j _ => vp_updV_set hl v j)⟩ e2 e3) (hS0.put e2 e3 hlo)
theorem mw_bald (hexec : p.tables.exec = Jvm.exec) (hb : c.code = cc) (hK : va_K D cl tys s) (hM : mw D cl lo L κ H) {qa : Nat} (t0 : Nat) {i : Nat} {cA : ClassId} {n : Nat} {f : Nat → Int} (he : κ i = some (.inl (cA, n, .inl (fun x => byt (f x))))) (hqa : L i = qa) (ht : tys[t0]? = some (cA, .byte)) {a : Int} (ha : 0 ≤ a ∧ a < n) (hn : n < 2147483648) (hdg : decode cc pc = .ok (.baload, 1))
    (kk : W p l e R s m args below meth c H locs cells slots Q (F0 m (pc + 1) ls (.int (byt (f a.toNat)) :: rest))) : W p l e R s m args below meth c H locs cells slots Q (F0 m pc ls (.int (iI a) :: .ref qa :: rest)) := by
  subst hqa
  refine va_bald (D := D) hexec hb hK (mw_one hM he) 0 t0 rfl ht (iI_in ha hn) hdg ?_
  rw [iI_clamp ⟨ha.1, by omega⟩]
  exact kk
theorem mw_iald (hexec : p.tables.exec = Jvm.exec) (hb : c.code = cc) (hK : va_K D cl tys s) (hM : mw D cl lo L κ H) {qa : Nat} (t0 : Nat) {i : Nat} {cA : ClassId} {n : Nat} {f : Nat → Int} (he : κ i = some (.inl (cA, n, .inl (fun x => iI (f x))))) (hqa : L i = qa) (ht : tys[t0]? = some (cA, .int)) {a : Int} (ha : 0 ≤ a ∧ a < n) (hn : n < 2147483648) (hdg : decode cc pc = .ok (.iaload, 1))
    (kk : W p l e R s m args below meth c H locs cells slots Q (F0 m (pc + 1) ls (.int (iI (f a.toNat)) :: rest))) : W p l e R s m args below meth c H locs cells slots Q (F0 m pc ls (.int (iI a) :: .ref qa :: rest)) := by
  subst hqa
  refine va_iald (D := D) hexec hb hK (mw_one hM he) 0 t0 rfl ht (iI_in ha hn) hdg ?_
  rw [iI_clamp ⟨ha.1, by omega⟩]
  exact kk
theorem mw_aldq (hexec : p.tables.exec = Jvm.exec) (hb : c.code = cc) (hK : va_K D cl tys s) (hM : mw D cl lo L κ H) {qa : Nat} (t0 : Nat) {i : Nat} {cA : ClassId} {C : String} {n : Nat} {f : Nat → Option Nat} (he : κ i = some (.inl (cA, n, .inr (.inr (.inr (.inr f)))))) (hqa : L i = qa) (ht : tys[t0]? = some (cA, .object C)) {a : Int} (ha : 0 ≤ a ∧ a < n) (hn : n < 2147483648) {q : Nat} (hq : f a.toNat = some q) (hdg : decode cc pc = .ok (.aaload, 1))
    (kk : W p l e R s m args below meth c H locs cells slots Q (F0 m (pc + 1) ls (.ref q :: rest))) : W p l e R s m args below meth c H locs cells slots Q (F0 m pc ls (.int (iI a) :: .ref qa :: rest)) := by
  subst hqa
  refine va_aldq (D := D) hexec hb hK (mw_one hM he) 0 t0 rfl ht (iI_in ha hn) hdg ?_
  rw [iI_clamp ⟨ha.1, by omega⟩, hq]
  exact kk
theorem mw_alen (hexec : p.tables.exec = Jvm.exec) (hb : c.code = cc) (hK : va_K D cl tys s) (hM : mw D cl lo L κ H) {qa : Nat} (t0 : Nat) {i : Nat} {cA : ClassId} {x : vp_A} (he : κ i = some (.inl (cA, x))) (hqa : L i = qa) {ty : FieldType} (ht : tys[t0]? = some (cA, ty)) (hdg : decode cc pc = .ok (.arraylength, 1))
    (kk : W p l e R s m args below meth c H locs cells slots Q (F0 m (pc + 1) ls (.int (iI x.1) :: rest))) : W p l e R s m args below meth c H locs cells slots Q (F0 m pc ls (.ref qa :: rest)) := by
  subst hqa
  exact va_alen (D := D) hexec hb hK (mw_one hM he) 0 t0 rfl ht (v := iI x.1) (iI_nat x.1) hdg kk
theorem mw_bast (hexec : p.tables.exec = Jvm.exec) (hb : c.code = cc) (hK : va_K D cl tys s) (hM : mw D cl lo L κ H) {qa : Nat} (hS : va_S (fun q => lo ≤ q) H0 H locs) (t0 : Nat) {i : Nat} {cA : ClassId} {n : Nat} {f : Nat → Int} (he : κ i = some (.inl (cA, n, .inl (fun x => byt (f x))))) (hqa : L i = qa) (ht : tys[t0]? = some (cA, .byte)) {a v : Int} (ha : 0 ≤ a ∧ a < n) (hn : n < 2147483648) (hdg : decode cc pc = .ok (.bastore, 1))
    (kk : ∀ (κ1 : Nat → Option va_E) (H1 : Heap) (locs1 : List Loc), κ1 i = some (.inl (cA, n, .inl (fun x => byt (va_up f a.toNat (v % 256) x)))) → (∀ r, r ≠ i → κ1 r = κ r) → mw D cl lo L κ1 H1 → va_S (fun q => lo ≤ q) H0 H1 locs1 → W p l e R s m args below meth c H1 locs1 cells slots Q (F0 m (pc + 1) ls rest)) : W p l e R s m args below meth c H locs cells slots Q (F0 m pc ls (.int (byt v) :: .int (iI a) :: .ref qa :: rest)) := by
  subst hqa
  have hin := iI_in ha hn
  have hcell : H[L i]? = some (vp_cell cA (n, .inl (fun x => byt (f x)))) := (hM.2.1 i _ he).2
  refine W.bast hexec hb hcell ((hK.2 t0 _ ht).1 n (fun j => .int (byt (f j)))) (fun q => by cases q) (by show ¬ (iI a < 0 ∨ (arrV _ _ _).slots.size ≤ _); rw [arrV_size]; exact hin) rfl rfl hdg fun H1 e z oq => ?_
  refine kk _ H1 _ (va_up_self _ _ _) (fun r hr => va_up_ne _ _ hr) (mw_set hM he ?_ z oq) (hS.put z oq (hM.2.1 i _ he).1)
  show H1[L i]? = some (vp_cell _ _)
  rw [e, vp_cell_i, vp_cell_i, arrV_store, iI_clamp ⟨ha.1, by omega⟩]
  congr 2
  funext q
  by_cases hq : q = a.toNat
  · subst hq
    simp only [updV, va_up, if_pos]
    show narrow .byte (.int (byt v)) = _
    rw [show byt (v % 256) = byt v from byt_ext (by omega)]
    exact pk_nb (iI v)
  · simp [updV, va_up, hq]
theorem mw_iast (hexec : p.tables.exec = Jvm.exec) (hb : c.code = cc) (hK : va_K D cl tys s) (hM : mw D cl lo L κ H) {qa : Nat} (hS : va_S (fun q => lo ≤ q) H0 H locs) (t0 : Nat) {i : Nat} {cA : ClassId} {n : Nat} {f : Nat → Int} (he : κ i = some (.inl (cA, n, .inl (fun x => iI (f x))))) (hqa : L i = qa) (ht : tys[t0]? = some (cA, .int)) {a v : Int} (ha : 0 ≤ a ∧ a < n) (hn : n < 2147483648) (hdg : decode cc pc = .ok (.iastore, 1))
    (kk : ∀ (κ1 : Nat → Option va_E) (H1 : Heap) (locs1 : List Loc), κ1 i = some (.inl (cA, n, .inl (fun x => iI (va_up f a.toNat v x)))) → (∀ r, r ≠ i → κ1 r = κ r) → mw D cl lo L κ1 H1 → va_S (fun q => lo ≤ q) H0 H1 locs1 → W p l e R s m args below meth c H1 locs1 cells slots Q (F0 m (pc + 1) ls rest)) : W p l e R s m args below meth c H locs cells slots Q (F0 m pc ls (.int (iI v) :: .int (iI a) :: .ref qa :: rest)) := by
  subst hqa
  have hin := iI_in ha hn
  have hcell : H[L i]? = some (vp_cell cA (n, .inl (fun x => iI (f x)))) := (hM.2.1 i _ he).2
  refine W.iast hexec hb hcell ((hK.2 t0 _ ht).1 n (fun j => .int (iI (f j)))) (fun q => by cases q) (by show ¬ (iI a < 0 ∨ (arrV _ _ _).slots.size ≤ _); rw [arrV_size]; exact hin) rfl rfl hdg fun H1 e z oq => ?_
  refine kk _ H1 _ (va_up_self _ _ _) (fun r hr => va_up_ne _ _ hr) (mw_set hM he ?_ z oq) (hS.put z oq (hM.2.1 i _ he).1)
  show H1[L i]? = some (vp_cell _ _)
  rw [e, vp_cell_i, vp_cell_i, arrV_store, iI_clamp ⟨ha.1, by omega⟩]
  congr 2
  funext q
  by_cases hq : q = a.toNat
  · subst hq
    simp [updV, va_up]
  · simp [updV, va_up, hq]
theorem mw_astq (hexec : p.tables.exec = Jvm.exec) (hb : c.code = cc) (hK : va_K D cl tys s) (hM : mw D cl lo L κ H) {qa qb : Nat} (hS : va_S (fun q => lo ≤ q) H0 H locs) (t0 ci : Nat) {i j : Nat} {cA : ClassId} {r : vw_C} {n : Nat} {vs : List Value} {f : Nat → Option Nat} (he : κ i = some (.inl (cA, n, .inr (.inr (.inr (.inr f)))))) (ht : tys[t0]? = some (cA, .object r.1)) (hv : κ j = some (.inr (ci, vs))) (hc : cl[ci]? = some r) (hqa : L i = qa) (hqb : L j = qb) {a : Int} (ha : 0 ≤ a ∧ a < n) (hn : n < 2147483648) (hdg : decode cc pc = .ok (.aastore, 1))
    (kk : ∀ (κ1 : Nat → Option va_E) (H1 : Heap) (locs1 : List Loc), κ1 i = some (.inl (cA, n, .inr (.inr (.inr (.inr (va_up f a.toNat (some (L j)))))))) → (∀ r, r ≠ i → κ1 r = κ r) → mw D cl lo L κ1 H1 → va_S (fun q => lo ≤ q) H0 H1 locs1 → W p l e R s m args below meth c H1 locs1 cells slots Q (F0 m (pc + 1) ls rest)) : W p l e R s m args below meth c H locs cells slots Q (F0 m pc ls (.ref qb :: .int (iI a) :: .ref qa :: rest)) := by
  subst hqa
  subst hqb
  have hin := iI_in ha hn
  have hlt : (iI a).toNatClampNeg < n := Nat.not_le.mp fun q => hin (Or.inr q)
  have h0 : ¬ iI a < 0 := fun q => hin (Or.inl q)
  have hcell : H[L i]? = some (vp_cell cA (n, .inr (.inr (.inr (.inr f))))) := (hM.2.1 i _ he).2
  obtain ⟨-, r', hr', cellV, g1, g2, g3, -⟩ := hM.2.1 j _ hv
  have hcls := (hK.1 ci r hc).2
  obtain ⟨kA, comp, k1, k2, k3, -⟩ := (hK.2 t0 _ ht).2
  have hcomp : comp = D.1 ci := Option.some.inj (k3.symm.trans hcls.1)
  subst hcomp
  obtain ⟨kC, hkC, -⟩ := hcls.2
  refine W.aast hexec hb hcell (fun q h => by cases h) (fun h => by cases h) k1 k2 rfl hkC ⟨h0, by show _ < (arrV _ _ _).slots.size; rw [arrV_size]; exact hlt⟩ g1 (fun q h => by rw [g3] at h; cases h) (by rw [g2]; exact hkC) (by rw [g2]; exact va_assign hcls) rfl rfl hdg fun H1 e z oq => ?_
  refine kk _ H1 _ (va_up_self _ _ _) (fun r hr => va_up_ne _ _ hr) (mw_set hM he ?_ z oq) (hS.put z oq (hM.2.1 i _ he).1)
  show H1[L i]? = some (vp_cell _ _)
  rw [e, vp_cell_q, vp_cell_q, arrV_store, iI_clamp ⟨ha.1, by omega⟩]
  congr 2
  funext q
  by_cases hq : q = a.toNat
  · subst hq
    simp [updV, va_up, va_rf]
  · simp [updV, va_up, hq]
theorem mw_newaK (hexec : p.tables.exec = Jvm.exec) (hb : c.code = cc) {atype : ArrayType} (harr : (Cond.arrayClass (newarray.typeOf atype)).before args s = true) {ty : FieldType} (hty : newarray.typeOf atype = ty) (hM : mw D cl lo L κ H) (hS : va_S (fun q => lo ≤ q) H0 H locs) (i : Nat)
    {a : Int} {a0 : vp_A} (hal : a0.1 = a.toNat) (ha0 : ∀ cA : ClassId, vp_cell cA a0 = arrV cA a.toNat (fun _ => defaultValue ty)) (ha : 0 ≤ a ∧ a < 2147483648) (hbytes : a.toNat * componentBytes ty ≤ 536870912) (hcells : cells + 1 ≤ R.cells) (hslots : slots + a.toNat ≤ R.slots) (hdg : decode cc pc = .ok (.newarray atype, 2))
    (kk : ∀ (L1 : Nat → Nat) (κ1 : Nat → Option va_E) (cA : ClassId) (H1 : Heap), ArrOfT s cA ty → s.vm.findClass ("[" ++ ty.toString) = some cA → κ1 i = some (.inl (cA, a0)) → (∀ r, r ≠ i → κ1 r = κ r) → (∀ r, r ≠ i → L1 r = L r) → mw D cl lo L1 κ1 H1 → va_S (fun q => lo ≤ q) H0 H1 locs →
      W p l e R s m args below meth c H1 locs (cells + 1) (slots + a.toNat) Q (F0 m (pc + 2) ls (.ref (L1 i) :: rest))) : W p l e R s m args below meth c H locs cells slots Q (F0 m pc ls (.int (iI a) :: rest)) := by
  subst hty
  refine va_newaK hexec hb harr rfl hdg rfl (iI_nn ha) (iI_clamp ha) hbytes hcells hslots rfl fun H1 cA e1 z1 o1 hAr hNm => ?_
  have hL : (va_up L i H.size) i = H.size := va_up_self _ _ _
  have kk2 := kk (va_up L i H.size) (va_up κ i (some (.inl (cA, a0)))) cA H1 hAr hNm (va_up_self _ _ _) (fun r hr => va_up_ne _ _ hr) (fun r hr => va_up_ne _ _ hr) (mw_new hM i (by show H1[H.size]? = some (vp_cell _ _); rw [ha0]; exact e1) z1 o1) ⟨Nat.le_trans hS.1 (by omega), fun x h1 h2 => (o1 x (Nat.lt_of_lt_of_le h1 hS.1)).trans (hS.2.1 x h1 h2), hS.2.2⟩
  rw [hL] at kk2
  exact kk2
theorem mw_newobj (hexec : p.tables.exec = Jvm.exec) (hb : c.code = cc) {own C : String} {T : u_T} {N ci index : Nat} {Ts : List Cond} (hts : ∀ w ∈ Ts, w.before args s = true) (hin : ∀ w ∈ u_ws C T N, w ∈ Ts) (ty : Nat → FieldType) (hty : ∀ k, k < N → parseFieldDescriptor (T k).2.2.1 = some (ty k)) (hown : s.vm.findClass own = some m.cls) (hcl : (Cond.classLink own index C).before args s = true) (hinst : (Cond.instantiable C N).before args s = true) (hini : (Cond.initialized C).before args s = true)
    (hK : va_K D cl tys s) (hM : mw D cl lo L κ H) (hS : va_S (fun q => lo ≤ q) H0 H locs) (i : Nat) (hc : cl[ci]? = some (C, T, N)) {fs : List Value} (hfs : ∀ j, j < N → defaultValue (ty j) = vp_V fs j) (hcells : cells + 1 ≤ R.cells) (hslots : slots + N ≤ R.slots) (hdg : decode cc pc = .ok (.new index, 3))
    (kk : ∀ (L1 : Nat → Nat) (κ1 : Nat → Option va_E) (H1 : Heap), κ1 i = some (.inr (ci, fs)) → (∀ r, r ≠ i → κ1 r = κ r) → (∀ r, r ≠ i → L1 r = L r) → mw D cl lo L1 κ1 H1 → va_S (fun q => lo ≤ q) H0 H1 locs →
      W p l e R s m args below meth c H1 locs (cells + 1) (slots + N) Q (F0 m (pc + 3) ls (.ref (L1 i) :: rest))) : W p l e R s m args below meth c H locs cells slots Q (F0 m pc ls rest) := by
  have hKn := hK.1 ci _ hc
  refine W.newcK hexec hb hown hcl hinst hini rfl hdg hcells hslots hKn.2.1 rfl fun H1 kC hkC e1 z1 o1 => ?_
  have hL : (va_up L i H.size) i = H.size := va_up_self _ _ _
  have kk2 := kk (va_up L i H.size) (va_up κ i (some (.inr (ci, fs)))) H1 (va_up_self _ _ _) (fun r hr => va_up_ne _ _ hr) (fun r hr => va_up_ne _ _ hr) (mw_new hM i ⟨_, hc, (u_born ty hts hin hKn hkC e1 hty).to hfs⟩ z1 o1) ⟨Nat.le_trans hS.1 (by omega), fun x h1 h2 => (o1 x (Nat.lt_of_lt_of_le h1 hS.1)).trans (hS.2.1 x h1 h2), hS.2.2⟩
  rw [hL] at kk2
  exact kk2
theorem mw_newq (hexec : p.tables.exec = Jvm.exec) (hb : c.code = cc) {own C : String} {index : Nat} (hown : s.vm.findClass own = some m.cls) (hclink : (Cond.classLink own index C).before args s = true) (hover : va_AO C s) (hM : mw D cl lo L κ H) (hS : va_S (fun q => lo ≤ q) H0 H locs) (i : Nat)
    {a : Int} (ha : 0 ≤ a ∧ a < 2147483648) (hbytes : a.toNat * 4 ≤ 536870912) (hcells : cells + 1 ≤ R.cells) (hslots : slots + a.toNat ≤ R.slots) (hdg : decode cc pc = .ok (.anewarray index, 3))
    (kk : ∀ (L1 : Nat → Nat) (κ1 : Nat → Option va_E) (cA : ClassId) (H1 : Heap), s.vm.findClass ("[" ++ (FieldType.object C).toString) = some cA → κ1 i = some (.inl (cA, a.toNat, .inr (.inr (.inr (.inr (fun _ => none)))))) → (∀ r, r ≠ i → κ1 r = κ r) → (∀ r, r ≠ i → L1 r = L r) → mw D cl lo L1 κ1 H1 → va_S (fun q => lo ≤ q) H0 H1 locs →
      W p l e R s m args below meth c H1 locs (cells + 1) (slots + a.toNat) Q (F0 m (pc + 3) ls (.ref (L1 i) :: rest))) : W p l e R s m args below meth c H locs cells slots Q (F0 m pc ls (.int (iI a) :: rest)) := by
  have hcl := iI_clamp ha
  refine W.anew hexec hb hown hclink (va_AO.use hover) rfl hdg rfl (iI_nn ha) (by rw [hcl]; exact hbytes) hcells (by rw [hcl]; exact hslots) fun cA kA comp f1 f2 f3 f4 => ?_
  rw [hcl]
  generalize hH1 : H.push ({ cls := cA, slots := Array.replicate a.toNat .null, vm := .none } : Cell) = H1
  have z1 : H1.size = H.size + 1 := by rw [← hH1, Array.size_push]
  have e1 : H1[H.size]? = some (arrV cA a.toNat (fun _ => .null)) := by rw [← hH1, Array.getElem?_push_size, ← arrV_new]
  have o1 : ∀ q : Nat, q < H.size → H1[q]? = H[q]? := fun q hq => by rw [← hH1, Array.getElem?_push, if_neg (Nat.ne_of_lt hq)]
  have hL : (va_up L i H.size) i = H.size := va_up_self _ _ _
  have kk2 := kk (va_up L i H.size) (va_up κ i (some (.inl (cA, a.toNat, .inr (.inr (.inr (.inr (fun _ => none)))))))) cA H1 f1 (va_up_self _ _ _) (fun r hr => va_up_ne _ _ hr) (fun r hr => va_up_ne _ _ hr) (mw_new hM i (by show H1[H.size]? = some (vp_cell _ _); rw [vp_cell_q]; exact e1) z1 o1) ⟨Nat.le_trans hS.1 (by omega), fun x h1 h2 => (o1 x (Nat.lt_of_lt_of_le h1 hS.1)).trans (hS.2.1 x h1 h2), hS.2.2⟩
  rw [hL] at kk2
  exact kk2
/-- System.arraycopy between byte arrays (they may be one) -/
theorem mw_copyb (hexec : p.tables.exec = Jvm.exec) (hb : c.code = cc) (hml : c.maxLocals = ls.size) {own : String} {index : Nat} (hown : s.vm.findClass own = some m.cls) (hlink : (Cond.methodLink own index arraycopyName).before args s = true) (hnat : (Cond.native arraycopyName).before args s = true) (hstat : (Cond.static arraycopyName).before args s = true) (hini : (Cond.initialized "java/lang/System").before args s = true)
    (hK : va_K D cl tys s) (hM : mw D cl lo L κ H) {qa qb : Nat} (hS : va_S (fun q => lo ≤ q) H0 H locs) (t0 t1 : Nat) {i j : Nat} {c0 c1 : ClassId} {n0 n1 : Nat} {f g : Nat → Int} (he0 : κ i = some (.inl (c0, n0, .inl (fun x => byt (f x))))) (he1 : κ j = some (.inl (c1, n1, .inl (fun x => byt (g x))))) (ht0 : tys[t0]? = some (c0, .byte)) (ht1 : tys[t1]? = some (c1, .byte))
    (hqa : L i = qa) (hqb : L j = qb) {sp dp n : Int} (hn0 : n0 < 2147483648) (hn1 : n1 < 2147483648) (h1 : 0 ≤ sp) (h2 : 0 ≤ dp) (h3 : 0 ≤ n) (h4 : sp + n ≤ n0) (h5 : dp + n ≤ n1)
    (hframes : 1 ≤ R.frames) (hlocals : (rest.map fun v => v.category).sum + (nativeFrameWords "java/lang/System" "arraycopy" 5 + 11) ≤ R.locals) (hdg : decode cc pc = .ok (.invokestatic index, 3))
    (kk : ∀ (κ1 : Nat → Option va_E) (H1 : Heap) (locs1 : List Loc), κ1 j = some (.inl (c1, n1, .inl (fun x => byt (va_cpy f g sp.toNat dp.toNat n.toNat x)))) → (∀ r, r ≠ j → κ1 r = κ r) → mw D cl lo L κ1 H1 → va_S (fun q => lo ≤ q) H0 H1 locs1 → W p l e R s m args below meth c H1 locs1 cells slots Q (F0 m (pc + 3) ls rest)) : W p l e R s m args below meth c H locs cells slots Q (F0 m pc ls (.int (iI n) :: .int (iI dp) :: .ref qb :: .int (iI sp) :: .ref qa :: rest)) := by
  subst hqa
  subst hqb
  have q1 : (iI sp).toInt = sp := iI_toInt ⟨by omega, by omega⟩
  have q2 : (iI dp).toInt = dp := iI_toInt ⟨by omega, by omega⟩
  have q3 : (iI n).toInt = n := iI_toInt ⟨by omega, by omega⟩
  have r1 : (iI sp).toNatClampNeg = sp.toNat := iI_clamp ⟨h1, by omega⟩
  have r2 : (iI dp).toNatClampNeg = dp.toNat := iI_clamp ⟨h2, by omega⟩
  have r3 : (iI n).toNatClampNeg = n.toNat := iI_clamp ⟨h3, by omega⟩
  intro T hT X
  have hc0 : H[L i]? = some (vp_cell c0 (n0, .inl (fun x => byt (f x)))) := (hM.2.1 i _ he0).2
  have hc1 : H[L j]? = some (vp_cell c1 (n1, .inl (fun x => byt (g x)))) := (hM.2.1 j _ he1).2
  obtain ⟨-, k0, hk0, cm0, hkk0⟩ := (hK.2 t0 _ ht0).1 n0 (fun j => .int (byt (f j)))
  obtain ⟨-, k1, hk1, cm1, hkk1⟩ := (hK.2 t1 _ ht1).1 n1 (fun j => .int (byt (g j)))
  obtain ⟨vm', X', step⟩ := X.arraycopy hexec hown hlink hnat hstat hini (src := L i) (dst := L j) (cs := vp_cell c0 (n0, .inl (fun x => byt (f x)))) (cd := vp_cell c1 (n1, .inl (fun x => byt (g x)))) (srcPos := iI sp) (destPos := iI dp) (n := iI n) (by rw [hT]; exact hc0) (by rw [hT]; exact hc1)
    (fun _ h => by cases h) (fun _ h => by cases h) (fun h => by cases h) (fun h => by cases h) hk0 hk1 hkk0 hkk1 (by simp [refKind]) (iI_nn ⟨h1, by omega⟩) (iI_nn ⟨h2, by omega⟩) (iI_nn ⟨h3, by omega⟩)
    (by rw [q1, q3]; show ¬ _ > ((arrV c0 n0 (fun j => .int (byt (f j)))).slots.size : Int); rw [arrV_size]; omega)
    (by rw [q2, q3]; show ¬ _ > ((arrV c1 n1 (fun j => .int (byt (g j)))).slots.size : Int); rw [arrV_size]; omega)
    (fun vm₁ _ k hk => by
      rw [r3] at hk
      have e : (vp_cell c0 (n0, .inl (fun x => byt (f x)))).slots.getD ((iI sp).toNatClampNeg + k) .null = .int (byt (f ((iI sp).toNatClampNeg + k))) := by
        show (arrV c0 n0 (fun j => .int (byt (f j)))).slots.getD _ _ = _
        rw [Array.getD_eq_getD_getElem?, arrV_read _ _ (by rw [r1]; omega)]
        rfl
      refine ⟨?_, ?_⟩
      · rw [e]
        exact byt_fit _
      · rw [e]
        exact trivial)
    (g := F0 m pc ls (.int (iI n) :: .int (iI dp) :: .ref (L j) :: .int (iI sp) :: .ref (L i) :: rest)) rfl (by rw [hml]) (rest := rest) rfl (by rw [hb]; exact hdg) hframes (by show 2 * 0 + _ + _ ≤ _; omega)
  have e1 : copied (vp_cell c0 (n0, .inl (fun x => byt (f x)))) (vp_cell c1 (n1, .inl (fun x => byt (g x)))) (iI sp) (iI dp) (iI n) = vp_cell c1 (n1, .inl (fun x => byt (va_cpy f g sp.toNat dp.toNat n.toNat x))) := by
    rw [show copied (vp_cell c0 (n0, .inl (fun x => byt (f x)))) (vp_cell c1 (n1, .inl (fun x => byt (g x)))) (iI sp) (iI dp) (iI n) = vp_cell c1 (n1, .inl (va_cpy (fun x => byt (f x)) (fun x => byt (g x)) (iI sp).toNatClampNeg (iI dp).toNatClampNeg (iI n).toNatClampNeg)) from va_copied (n0 := n0) (n1 := n1) (sp := (iI sp).toNatClampNeg) (dp := (iI dp).toNatClampNeg) (n := (iI n).toNatClampNeg) (fun z : Int32 => Value.int z) c0 c1 (fun x => byt (f x)) (fun x => byt (g x)) (by rw [r1, r3]; omega)]
    rw [r1, r2, r3]
    congr 3
    funext x
    simp only [va_cpy]
    split <;> rfl
  rw [e1] at X' step
  have hl : L j < H.size := (Array.getElem?_eq_some_iff.mp hc1).1
  generalize hcell : vp_cell c1 (n1, .inl (fun x => byt (va_cpy f g sp.toNat dp.toNat n.toNat x))) = NC at X' step e1
  have hheap : ((T.setVm vm').setCell (L j) NC).heap = H.setIfInBounds (L j) NC := by rw [← hT]; rfl
  have oq : ∀ q : Nat, q ≠ L j → (H.setIfInBounds (L j) NC)[q]? = H[q]? := fun q hq => by simp [Array.getElem?_setIfInBounds, Ne.symm hq]
  obtain ⟨t, a1, b1⟩ := kk _ _ _ (va_up_self _ _ _) (fun r hr => va_up_ne _ _ hr) (mw_set hM he1 (show (H.setIfInBounds (L j) NC)[L j]? = some (vp_cell _ _) by rw [hcell]; simp [Array.getElem?_setIfInBounds, hl]) (by simp) oq) ⟨by simp; exact hS.1, fun q g1 g2 => by
      rw [oq q (fun e => g2 (by rw [e]; exact (hM.2.1 j _ he1).1))]
      exact hS.2.1 q g1 g2, fun q hq => by
      rcases List.mem_append.mp hq with h | h
      · exact hS.2.2 q h
      · obtain ⟨z, -, hz⟩ := List.mem_map.mp h
        rw [← hz]
        exact (hM.2.1 j _ he1).1⟩ _ hheap X'
  exact ⟨t, step t a1, b1⟩
/-! ints -/
theorem ia_add (hexec : p.tables.exec = Jvm.exec) (hb : c.code = cc) {a b : Int} (hdg : decode cc pc = .ok (.iadd, 1)) (k : W p l e R s m args below meth c H locs cells slots Q (F0 m (pc + 1) ls (.int (iI (a + b)) :: rest))) : W p l e R s m args below meth c H locs cells slots Q (F0 m pc ls (.int (iI b) :: .int (iI a) :: rest)) := lv_iadd hexec hb hdg (by rw [iI_add]; exact k)
theorem ia_sub (hexec : p.tables.exec = Jvm.exec) (hb : c.code = cc) {a b : Int} (hdg : decode cc pc = .ok (.isub, 1)) (k : W p l e R s m args below meth c H locs cells slots Q (F0 m (pc + 1) ls (.int (iI (a - b)) :: rest))) : W p l e R s m args below meth c H locs cells slots Q (F0 m pc ls (.int (iI b) :: .int (iI a) :: rest)) := lv_isub hexec hb hdg (by rw [iI_sub]; exact k)
theorem ia_mul (hexec : p.tables.exec = Jvm.exec) (hb : c.code = cc) {a b : Int} (hdg : decode cc pc = .ok (.imul, 1)) (k : W p l e R s m args below meth c H locs cells slots Q (F0 m (pc + 1) ls (.int (iI (a * b)) :: rest))) : W p l e R s m args below meth c H locs cells slots Q (F0 m pc ls (.int (iI b) :: .int (iI a) :: rest)) := lv_imul hexec hb hdg (by rw [iI_mul]; exact k)
theorem ia_div (hexec : p.tables.exec = Jvm.exec) (hb : c.code = cc) {a b : Int} (ha : 0 ≤ a ∧ a < 2147483648) (hb2 : 0 < b ∧ b < 2147483648) (hdg : decode cc pc = .ok (.idiv, 1)) (k : W p l e R s m args below meth c H locs cells slots Q (F0 m (pc + 1) ls (.int (iI (a / b)) :: rest))) : W p l e R s m args below meth c H locs cells slots Q (F0 m pc ls (.int (iI b) :: .int (iI a) :: rest)) := lv_idiv hexec hb hdg (fun h => by have := (iI_eq (a := b) (b := 0) (by omega) (by omega)).mp h; omega) (by rw [iI_div ha hb2]; exact k)
theorem ia_rem (hexec : p.tables.exec = Jvm.exec) (hb : c.code = cc) {a b : Int} (ha : 0 ≤ a ∧ a < 2147483648) (hb2 : 0 < b ∧ b < 2147483648) (hdg : decode cc pc = .ok (.irem, 1)) (k : W p l e R s m args below meth c H locs cells slots Q (F0 m (pc + 1) ls (.int (iI (a % b)) :: rest))) : W p l e R s m args below meth c H locs cells slots Q (F0 m pc ls (.int (iI b) :: .int (iI a) :: rest)) := lv_irem hexec hb hdg (fun h => by have := (iI_eq (a := b) (b := 0) (by omega) (by omega)).mp h; omega) (by rw [iI_rem ha hb2]; exact k)
theorem ia_and255 (hexec : p.tables.exec = Jvm.exec) (hb : c.code = cc) {a : Int} (hdg : decode cc pc = .ok (.iand, 1)) (k : W p l e R s m args below meth c H locs cells slots Q (F0 m (pc + 1) ls (.int (iI (a % 256)) :: rest))) : W p l e R s m args below meth c H locs cells slots Q (F0 m pc ls (.int (iI 255) :: .int (iI a) :: rest)) := lv_iand hexec hb hdg (by rw [iI_and255]; exact k)
theorem ia_andb (hexec : p.tables.exec = Jvm.exec) (hb : c.code = cc) {a : Int} (hdg : decode cc pc = .ok (.iand, 1)) (k : W p l e R s m args below meth c H locs cells slots Q (F0 m (pc + 1) ls (.int (iI (a % 256)) :: rest))) : W p l e R s m args below meth c H locs cells slots Q (F0 m pc ls (.int (iI 255) :: .int (byt a) :: rest)) := lv_iand hexec hb hdg (by rw [byt_and]; exact k)
theorem ia_i2b (hexec : p.tables.exec = Jvm.exec) (hb : c.code = cc) {a : Int} (hdg : decode cc pc = .ok (.i2b, 1)) (k : W p l e R s m args below meth c H locs cells slots Q (F0 m (pc + 1) ls (.int (byt a) :: rest))) : W p l e R s m args below meth c H locs cells slots Q (F0 m pc ls (.int (iI a) :: rest)) := lv_i2b hexec hb hdg rfl k
theorem ia_i2l (hexec : p.tables.exec = Jvm.exec) (hb : c.code = cc) {a : Int} (ha : -2147483648 ≤ a ∧ a < 2147483648) (hdg : decode cc pc = .ok (.i2l, 1)) (k : W p l e R s m args below meth c H locs cells slots Q (F0 m (pc + 1) ls (.long (lI a) :: rest))) : W p l e R s m args below meth c H locs cells slots Q (F0 m pc ls (.int (iI a) :: rest)) := lv_i2l hexec hb hdg (lI_of ha) k
theorem ia_l2i (hexec : p.tables.exec = Jvm.exec) (hb : c.code = cc) {a : Int} (hdg : decode cc pc = .ok (.l2i, 1)) (k : W p l e R s m args below meth c H locs cells slots Q (F0 m (pc + 1) ls (.int (iI a) :: rest))) : W p l e R s m args below meth c H locs cells slots Q (F0 m pc ls (.long (lI a) :: rest)) := lv_l2i hexec hb hdg (lI_i a) k
theorem ia_ladd (hexec : p.tables.exec = Jvm.exec) (hb : c.code = cc) {a b : Int} (hdg : decode cc pc = .ok (.ladd, 1)) (k : W p l e R s m args below meth c H locs cells slots Q (F0 m (pc + 1) ls (.long (lI (a + b)) :: rest))) : W p l e R s m args below meth c H locs cells slots Q (F0 m pc ls (.long (lI b) :: .long (lI a) :: rest)) := lv_ladd hexec hb hdg (by rw [lI_add]; exact k)
theorem ia_icmp_eq (hexec : p.tables.exec = Jvm.exec) (hb : c.code = cc) {a b off : Int} {tgt : Nat} (hdg : decode cc pc = .ok (.if_icmp .eq off, 3)) (ht : (pc : Int) + off = (tgt : Int)) (ha : -2147483648 ≤ a ∧ a < 2147483648) (hb2 : -2147483648 ≤ b ∧ b < 2147483648) (kt : a = b → W p l e R s m args below meth c H locs cells slots Q (F0 m tgt ls rest)) (kf : ¬ (a = b) → W p l e R s m args below meth c H locs cells slots Q (F0 m (pc + 3) ls rest)) : W p l e R s m args below meth c H locs cells slots Q (F0 m pc ls (.int (iI b) :: .int (iI a) :: rest)) := lv_icmp_eq hexec hb hdg ht (fun h => kt ((iI_eq ha hb2).mp h)) (fun h => kf (fun q => h ((iI_eq ha hb2).mpr q)))
theorem ia_icmp_ne (hexec : p.tables.exec = Jvm.exec) (hb : c.code = cc) {a b off : Int} {tgt : Nat} (hdg : decode cc pc = .ok (.if_icmp .ne off, 3)) (ht : (pc : Int) + off = (tgt : Int)) (ha : -2147483648 ≤ a ∧ a < 2147483648) (hb2 : -2147483648 ≤ b ∧ b < 2147483648) (kt : ¬ a = b → W p l e R s m args below meth c H locs cells slots Q (F0 m tgt ls rest)) (kf : ¬ (¬ a = b) → W p l e R s m args below meth c H locs cells slots Q (F0 m (pc + 3) ls rest)) : W p l e R s m args below meth c H locs cells slots Q (F0 m pc ls (.int (iI b) :: .int (iI a) :: rest)) := lv_icmp_ne hexec hb hdg ht (fun h => kt ((not_congr (iI_eq ha hb2)).mp h)) (fun h => kf (fun q => q ((iI_eq ha hb2).mp h)))
theorem ia_icmp_lt (hexec : p.tables.exec = Jvm.exec) (hb : c.code = cc) {a b off : Int} {tgt : Nat} (hdg : decode cc pc = .ok (.if_icmp .lt off, 3)) (ht : (pc : Int) + off = (tgt : Int)) (ha : -2147483648 ≤ a ∧ a < 2147483648) (hb2 : -2147483648 ≤ b ∧ b < 2147483648) (kt : a < b → W p l e R s m args below meth c H locs cells slots Q (F0 m tgt ls rest)) (kf : ¬ (a < b) → W p l e R s m args below meth c H locs cells slots Q (F0 m (pc + 3) ls rest)) : W p l e R s m args below meth c H locs cells slots Q (F0 m pc ls (.int (iI b) :: .int (iI a) :: rest)) := lv_icmp_lt hexec hb hdg ht (fun h => kt ((iI_lt ha hb2).mp h)) (fun h => kf (fun q => h ((iI_lt ha hb2).mpr q)))
theorem ia_icmp_ge (hexec : p.tables.exec = Jvm.exec) (hb : c.code = cc) {a b off : Int} {tgt : Nat} (hdg : decode cc pc = .ok (.if_icmp .ge off, 3)) (ht : (pc : Int) + off = (tgt : Int)) (ha : -2147483648 ≤ a ∧ a < 2147483648) (hb2 : -2147483648 ≤ b ∧ b < 2147483648) (kt : b ≤ a → W p l e R s m args below meth c H locs cells slots Q (F0 m tgt ls rest)) (kf : ¬ (b ≤ a) → W p l e R s m args below meth c H locs cells slots Q (F0 m (pc + 3) ls rest)) : W p l e R s m args below meth c H locs cells slots Q (F0 m pc ls (.int (iI b) :: .int (iI a) :: rest)) := lv_icmp_ge hexec hb hdg ht (fun h => kt ((iI_le hb2 ha).mp h)) (fun h => kf (fun q => h ((iI_le hb2 ha).mpr q)))
theorem ia_icmp_gt (hexec : p.tables.exec = Jvm.exec) (hb : c.code = cc) {a b off : Int} {tgt : Nat} (hdg : decode cc pc = .ok (.if_icmp .gt off, 3)) (ht : (pc : Int) + off = (tgt : Int)) (ha : -2147483648 ≤ a ∧ a < 2147483648) (hb2 : -2147483648 ≤ b ∧ b < 2147483648) (kt : b < a → W p l e R s m args below meth c H locs cells slots Q (F0 m tgt ls rest)) (kf : ¬ (b < a) → W p l e R s m args below meth c H locs cells slots Q (F0 m (pc + 3) ls rest)) : W p l e R s m args below meth c H locs cells slots Q (F0 m pc ls (.int (iI b) :: .int (iI a) :: rest)) := lv_icmp_gt hexec hb hdg ht (fun h => kt ((iI_lt hb2 ha).mp h)) (fun h => kf (fun q => h ((iI_lt hb2 ha).mpr q)))
theorem ia_icmp_le (hexec : p.tables.exec = Jvm.exec) (hb : c.code = cc) {a b off : Int} {tgt : Nat} (hdg : decode cc pc = .ok (.if_icmp .le off, 3)) (ht : (pc : Int) + off = (tgt : Int)) (ha : -2147483648 ≤ a ∧ a < 2147483648) (hb2 : -2147483648 ≤ b ∧ b < 2147483648) (kt : a ≤ b → W p l e R s m args below meth c H locs cells slots Q (F0 m tgt ls rest)) (kf : ¬ (a ≤ b) → W p l e R s m args below meth c H locs cells slots Q (F0 m (pc + 3) ls rest)) : W p l e R s m args below meth c H locs cells slots Q (F0 m pc ls (.int (iI b) :: .int (iI a) :: rest)) := lv_icmp_le hexec hb hdg ht (fun h => kt ((iI_le ha hb2).mp h)) (fun h => kf (fun q => h ((iI_le ha hb2).mpr q)))
theorem ia_if_eq (hexec : p.tables.exec = Jvm.exec) (hb : c.code = cc) {a off : Int} {tgt : Nat} (hdg : decode cc pc = .ok (.ifCond .eq off, 3)) (ht : (pc : Int) + off = (tgt : Int)) (ha : -2147483648 ≤ a ∧ a < 2147483648) (kt : a = 0 → W p l e R s m args below meth c H locs cells slots Q (F0 m tgt ls rest)) (kf : ¬ (a = 0) → W p l e R s m args below meth c H locs cells slots Q (F0 m (pc + 3) ls rest)) : W p l e R s m args below meth c H locs cells slots Q (F0 m pc ls (.int (iI a) :: rest)) := by
  have h0 : -2147483648 ≤ (0 : Int) ∧ (0 : Int) < 2147483648 := by omega
  exact lv_if_eq hexec hb hdg ht (fun h => kt ((iI_eq ha h0).mp h)) (fun h => kf (fun q => h ((iI_eq ha h0).mpr q)))
theorem ia_if_ne (hexec : p.tables.exec = Jvm.exec) (hb : c.code = cc) {a off : Int} {tgt : Nat} (hdg : decode cc pc = .ok (.ifCond .ne off, 3)) (ht : (pc : Int) + off = (tgt : Int)) (ha : -2147483648 ≤ a ∧ a < 2147483648) (kt : ¬ a = 0 → W p l e R s m args below meth c H locs cells slots Q (F0 m tgt ls rest)) (kf : ¬ (¬ a = 0) → W p l e R s m args below meth c H locs cells slots Q (F0 m (pc + 3) ls rest)) : W p l e R s m args below meth c H locs cells slots Q (F0 m pc ls (.int (iI a) :: rest)) := by
  have h0 : -2147483648 ≤ (0 : Int) ∧ (0 : Int) < 2147483648 := by omega
  exact lv_if_ne hexec hb hdg ht (fun h => kt ((not_congr (iI_eq ha h0)).mp h)) (fun h => kf (fun q => q ((iI_eq ha h0).mp h)))
theorem ia_if_lt (hexec : p.tables.exec = Jvm.exec) (hb : c.code = cc) {a off : Int} {tgt : Nat} (hdg : decode cc pc = .ok (.ifCond .lt off, 3)) (ht : (pc : Int) + off = (tgt : Int)) (ha : -2147483648 ≤ a ∧ a < 2147483648) (kt : a < 0 → W p l e R s m args below meth c H locs cells slots Q (F0 m tgt ls rest)) (kf : ¬ (a < 0) → W p l e R s m args below meth c H locs cells slots Q (F0 m (pc + 3) ls rest)) : W p l e R s m args below meth c H locs cells slots Q (F0 m pc ls (.int (iI a) :: rest)) := by
  have h0 : -2147483648 ≤ (0 : Int) ∧ (0 : Int) < 2147483648 := by omega
  exact lv_if_lt hexec hb hdg ht (fun h => kt ((iI_lt ha h0).mp h)) (fun h => kf (fun q => h ((iI_lt ha h0).mpr q)))
theorem ia_if_ge (hexec : p.tables.exec = Jvm.exec) (hb : c.code = cc) {a off : Int} {tgt : Nat} (hdg : decode cc pc = .ok (.ifCond .ge off, 3)) (ht : (pc : Int) + off = (tgt : Int)) (ha : -2147483648 ≤ a ∧ a < 2147483648) (kt : 0 ≤ a → W p l e R s m args below meth c H locs cells slots Q (F0 m tgt ls rest)) (kf : ¬ (0 ≤ a) → W p l e R s m args below meth c H locs cells slots Q (F0 m (pc + 3) ls rest)) : W p l e R s m args below meth c H locs cells slots Q (F0 m pc ls (.int (iI a) :: rest)) := by
  have h0 : -2147483648 ≤ (0 : Int) ∧ (0 : Int) < 2147483648 := by omega
  exact lv_if_ge hexec hb hdg ht (fun h => kt ((iI_le h0 ha).mp h)) (fun h => kf (fun q => h ((iI_le h0 ha).mpr q)))
theorem ia_if_gt (hexec : p.tables.exec = Jvm.exec) (hb : c.code = cc) {a off : Int} {tgt : Nat} (hdg : decode cc pc = .ok (.ifCond .gt off, 3)) (ht : (pc : Int) + off = (tgt : Int)) (ha : -2147483648 ≤ a ∧ a < 2147483648) (kt : 0 < a → W p l e R s m args below meth c H locs cells slots Q (F0 m tgt ls rest)) (kf : ¬ (0 < a) → W p l e R s m args below meth c H locs cells slots Q (F0 m (pc + 3) ls rest)) : W p l e R s m args below meth c H locs cells slots Q (F0 m pc ls (.int (iI a) :: rest)) := by
  have h0 : -2147483648 ≤ (0 : Int) ∧ (0 : Int) < 2147483648 := by omega
  exact lv_if_gt hexec hb hdg ht (fun h => kt ((iI_lt h0 ha).mp h)) (fun h => kf (fun q => h ((iI_lt h0 ha).mpr q)))
theorem ia_if_le (hexec : p.tables.exec = Jvm.exec) (hb : c.code = cc) {a off : Int} {tgt : Nat} (hdg : decode cc pc = .ok (.ifCond .le off, 3)) (ht : (pc : Int) + off = (tgt : Int)) (ha : -2147483648 ≤ a ∧ a < 2147483648) (kt : a ≤ 0 → W p l e R s m args below meth c H locs cells slots Q (F0 m tgt ls rest)) (kf : ¬ (a ≤ 0) → W p l e R s m args below meth c H locs cells slots Q (F0 m (pc + 3) ls rest)) : W p l e R s m args below meth c H locs cells slots Q (F0 m pc ls (.int (iI a) :: rest)) := by
  have h0 : -2147483648 ≤ (0 : Int) ∧ (0 : Int) < 2147483648 := by omega
  exact lv_if_le hexec hb hdg ht (fun h => kt ((iI_le ha h0).mp h)) (fun h => kf (fun q => h ((iI_le ha h0).mpr q)))
theorem ia_ifz_eq (hexec : p.tables.exec = Jvm.exec) (hb : c.code = cc) {x : Bool} {off : Int} {tgt : Nat} (hdg : decode cc pc = .ok (.ifCond .eq off, 3)) (ht : (pc : Int) + off = (tgt : Int)) (kt : x = false → W p l e R s m args below meth c H locs cells slots Q (F0 m tgt ls rest)) (kf : x = true → W p l e R s m args below meth c H locs cells slots Q (F0 m (pc + 3) ls rest)) : W p l e R s m args below meth c H locs cells slots Q (F0 m pc ls (.int (iI (bI x)) :: rest)) := by
  refine lv_if_eq hexec hb hdg ht (fun h => kt ?_) (fun h => kf ?_)
  · cases x
    · rfl
    · exact absurd h (by decide)
  · cases x
    · exact absurd rfl h
    · rfl
theorem ia_ifz_ne (hexec : p.tables.exec = Jvm.exec) (hb : c.code = cc) {x : Bool} {off : Int} {tgt : Nat} (hdg : decode cc pc = .ok (.ifCond .ne off, 3)) (ht : (pc : Int) + off = (tgt : Int)) (kt : x = true → W p l e R s m args below meth c H locs cells slots Q (F0 m tgt ls rest)) (kf : x = false → W p l e R s m args below meth c H locs cells slots Q (F0 m (pc + 3) ls rest)) : W p l e R s m args below meth c H locs cells slots Q (F0 m pc ls (.int (iI (bI x)) :: rest)) := by
  refine lv_if_ne hexec hb hdg ht (fun h => kt ?_) (fun h => kf ?_)
  · cases x
    · exact absurd rfl h
    · rfl
  · cases x
    · rfl
    · exact absurd h (by decide)
theorem ia_ishr (hexec : p.tables.exec = Jvm.exec) (hb : c.code = cc) {a k : Int} (ha : -2147483648 ≤ a ∧ a < 2147483648) (hk : 0 ≤ k ∧ k < 32) (hdg : decode cc pc = .ok (.ishr, 1)) (kk : W p l e R s m args below meth c H locs cells slots Q (F0 m (pc + 1) ls (.int (iI (a / 2 ^ k.toNat)) :: rest))) : W p l e R s m args below meth c H locs cells slots Q (F0 m pc ls (.int (iI k) :: .int (iI a) :: rest)) := lv_ishr hexec hb hdg (by rw [iI_shr ha hk]; exact kk)
theorem ia_lshr (hexec : p.tables.exec = Jvm.exec) (hb : c.code = cc) {a k : Int} (ha : -9223372036854775808 ≤ a ∧ a < 9223372036854775808) (hk : 0 ≤ k ∧ k < 64) (hdg : decode cc pc = .ok (.lshr, 1)) (kk : W p l e R s m args below meth c H locs cells slots Q (F0 m (pc + 1) ls (.long (lI (a / 2 ^ k.toNat)) :: rest))) : W p l e R s m args below meth c H locs cells slots Q (F0 m pc ls (.int (iI k) :: .long (lI a) :: rest)) := lv_lshr hexec hb hdg (lI_shr ha hk) kk
theorem ia_lshl8 (hexec : p.tables.exec = Jvm.exec) (hb : c.code = cc) {a : Int} (hdg : decode cc pc = .ok (.lshl, 1)) (kk : W p l e R s m args below meth c H locs cells slots Q (F0 m (pc + 1) ls (.long (lI (a * 256)) :: rest))) : W p l e R s m args below meth c H locs cells slots Q (F0 m pc ls (.int (iI 8) :: .long (lI a) :: rest)) := lv_lshl hexec hb hdg (lI_shl a (by decide)) kk
theorem ia_lor8 (hexec : p.tables.exec = Jvm.exec) (hb : c.code = cc) {a b : Int} (hb2 : 0 ≤ b ∧ b < 256) (hdg : decode cc pc = .ok (.lor, 1)) (kk : W p l e R s m args below meth c H locs cells slots Q (F0 m (pc + 1) ls (.long (lI (a * 256 + b)) :: rest))) : W p l e R s m args below meth c H locs cells slots Q (F0 m pc ls (.long (lI b) :: .long (lI (a * 256)) :: rest)) := lv_lor hexec hb hdg (by rw [lI_or8 a hb2]; exact kk)
theorem ia_lcmp (hexec : p.tables.exec = Jvm.exec) (hb : c.code = cc) {a b : Int} (ha : -9223372036854775808 ≤ a ∧ a < 9223372036854775808) (hb2 : -9223372036854775808 ≤ b ∧ b < 9223372036854775808) (hdg : decode cc pc = .ok (.lcmp, 1)) (kk : W p l e R s m args below meth c H locs cells slots Q (F0 m (pc + 1) ls (.int (iI (cmpI a b)) :: rest))) : W p l e R s m args below meth c H locs cells slots Q (F0 m pc ls (.long (lI b) :: .long (lI a) :: rest)) := W.lcmp hexec hb hdg (by rw [lI_cmp ha hb2]; exact kk)
end MR
/-! read-only contracts: the answer r, the world as it was -/
def mwR (r : Option Value) (L : Nat → Nat) (κ : Nat → Option va_E) : Option Value → (Nat → Nat) → (Nat → Option va_E) → Prop := fun v L1 κ1 => v = r ∧ L1 = L ∧ κ1 = κ
theorem mwR_i {a b : Int} {L : Nat → Nat} {κ : Nat → Option va_E} (h : a = b) : mwR (some (.int (iI b))) L κ (some (.int (iI a))) L κ := ⟨by rw [h], rfl, rfl⟩
theorem mwR_l {a b : Int} {L : Nat → Nat} {κ : Nat → Option va_E} (h : a = b) : mwR (some (.long (lI b))) L κ (some (.long (lI a))) L κ := ⟨by rw [h], rfl, rfl⟩
theorem mwR_z {a b : Bool} {L : Nat → Nat} {κ : Nat → Option va_E} (h : a = b) : mwR (some (.int (iI (bI b)))) L κ (some (.int (iI (bI a)))) L κ := ⟨by rw [h], rfl, rfl⟩
section MRO
variable {p : Program} {l : Launch} {e : Env} {R : Room} {s : State} {m : MethodId} {args : Array Value} {below : List Frame} {meth : Method} {c : Code} {H : Heap} {locs : List Loc} {cells slots : Nat} {Q : State → Prop}
variable {cc : ByteArray} {pc : Nat} {ls : Array Slot} {rest : List Value} {D : va_G} {cl : List vw_C} {lo : Nat} {L : Nat → Nat} {κ : Nat → Option va_E} {tys : List (ClassId × FieldType)} {H0 : Heap}
variable {y : MethodName} {bytes : ByteArray} {maxL nL n index : Nat} {ret : Option FieldType} {ws : List Cond} {rm : Room} {Ts : List Cond} {own C : String} {As st0 : List Value} {r0 : Option Value}
theorem mw_rdV (S : CallFix p m c cc nL s args Ts own) (hK : va_K D cl tys s) (hM : mw D cl lo L κ H) (hS : va_S (fun q => lo ≤ q) H0 H locs) {i ci : Nat} {fs : List Value} {r : vw_C} {qa : Nat} (hqa : L i = qa) (he : κ i = some (.inr (ci, fs))) (hc : cl[ci]? = some r)
    (hm : Met l y ws rm (mwP D cl tys lo L κ (.ref (L i) :: As)) (mwQ D cl lo (mwR r0 L κ)) 0 0 (fun q => lo ≤ q)) (cw : CallW R s args own r.1 index y bytes maxL ret ws rm 0 0 n) (hn : As.length = n) (hl : ls.size = nL) (hst : st0 = As.reverse ++ .ref qa :: rest) (hW : (rest.map fun v => v.category).sum ≤ 8) (hdg : decode cc pc = .ok (.invokevirtual index, 3)) (hf : cells ≤ R.cells ∧ slots ≤ R.slots)
    (kk : ∀ (H : Heap) (locs : List Loc), mw D cl lo L κ H → va_S (fun q => lo ≤ q) H0 H locs → W p l e R s m args below meth c H locs cells slots Q (F0 m (pc + 3) ls (r0.toList ++ rest))) : W p l e R s m args below meth c H locs cells slots Q (F0 m pc ls st0) :=
  mw_callV S hK hM hS hqa he hc hm cw hn hl hst hW hdg hf (fun v L1 κ1 H1 locs1 hp hM1 hS1 => by
    obtain ⟨e1, e2, e3⟩ := hp
    subst e1; subst e2; subst e3
    exact kk H1 locs1 hM1 hS1)
theorem mw_rdS (S : CallFix p m c cc nL s args Ts own) (hK : va_K D cl tys s) (hM : mw D cl lo L κ H) (hS : va_S (fun q => lo ≤ q) H0 H locs)
    (hm : Met l y ws rm (mwP D cl tys lo L κ As) (mwQ D cl lo (mwR r0 L κ)) 0 0 (fun q => lo ≤ q)) (cw : CallB R s args own index y bytes maxL ret ws rm 0 0 n ∧ (Cond.static y).before args s = true) (hn : As.length = n) (hl : ls.size = nL) (hst : st0 = As.reverse ++ rest) (hW : (rest.map fun v => v.category).sum ≤ 8) (hdg : decode cc pc = .ok (.invokestatic index, 3)) (hf : cells ≤ R.cells ∧ slots ≤ R.slots)
    (kk : ∀ (H : Heap) (locs : List Loc), mw D cl lo L κ H → va_S (fun q => lo ≤ q) H0 H locs → W p l e R s m args below meth c H locs cells slots Q (F0 m (pc + 3) ls (r0.toList ++ rest))) : W p l e R s m args below meth c H locs cells slots Q (F0 m pc ls st0) :=
  mw_callS S hK hM hS hm cw hn hl hst hW hdg hf (fun v L1 κ1 H1 locs1 hp hM1 hS1 => by
    obtain ⟨e1, e2, e3⟩ := hp
    subst e1; subst e2; subst e3
    exact kk H1 locs1 hM1 hS1)
end MRO
