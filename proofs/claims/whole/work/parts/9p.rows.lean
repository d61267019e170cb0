theorem m_AO : (Cond.arrayOver (.object "DocumentBytes$Bytes")) ∈ lw_tbl := List.mem_of_getElem? (i := 86) (by decide +kernel)
theorem ao_K {s : State} {A : Array Value} (h0 : (Cond.arrayClass .byte).before A s = true) (h1 : (Cond.arrayClass .int).before A s = true) (h2 : va_AO "DocumentBytes$Bytes" s) : ∃ g : Nat → ClassId, ∀ (k : Nat) (q : ClassId × FieldType), (tyL g)[k]? = some q → ArrOfT s q.1 q.2 ∧ va_RA s q.1 q.2 := by
  obtain ⟨c0, k0, p0, a0, b0, e0⟩ := Cond.arrayClass_spec h0
  obtain ⟨c1, k1, p1, a1, b1, e1⟩ := Cond.arrayClass_spec h1
  obtain ⟨p2, c2, k2, f2, _, b2, e2, a2⟩ := Cond.arrayOver_spec h2
  refine ⟨fun z => if z = 0 then c0 else if z = 1 then c1 else c2, fun k q hq => ?_⟩
  match k, hq with
  | 0, hq => cases hq; exact ⟨fun n z => ⟨fun _ h => (by cases h), k0, b0, p0, e0⟩, a0⟩
  | 1, hq => cases hq; exact ⟨fun n z => ⟨fun _ h => (by cases h), k1, b1, p1, e1⟩, a1⟩
  | 2, hq => cases hq; exact ⟨fun n z => ⟨fun _ h => (by cases h), k2, b2, p2, e2⟩, k2, p2, b2, e2, f2, a2⟩
  | k + 3, hq => simp [tyL] at hq
section MWA
variable {p : Program} {l : Launch} {e : Env} {R : Room} {s : State} {m : MethodId} {args : Array Value} {below : List Frame} {meth : Method} {c : Code} {H : Heap} {locs : List Loc} {cells slots : Nat} {Q : State → Prop}
variable {cc : ByteArray} {pc : Nat} {ls : Array Slot} {rest : List Value} {D : va_G} {cl : List vw_C} {lo : Nat} {L : Nat → Nat} {κ : Nat → Option va_E} {tys : List (ClassId × FieldType)} {H0 : Heap}
variable {y : MethodName} {bytes : ByteArray} {maxL nL mc ms n index : Nat} {ws : List Cond} {rm : Room} {Ts : List Cond} {own : String} {As st0 : List Value} {post : Option Value → (Nat → Nat) → (Nat → Option va_E) → Prop}
theorem mw_callIA (S : CallFix p m c cc nL s args Ts own) (hK : va_K D cl tys s) (hAO : va_AO "DocumentBytes$Bytes" s) (hM : mw D cl lo L κ H) (hS : va_S (fun q => lo ≤ q) H0 H locs) {b : Nat}
    (hm : Met l y ws rm (mwPA D cl tys lo L κ (.ref b :: As)) (mwQ D cl lo post) mc ms (fun q => lo ≤ q)) (cw : CallB R s args own index y bytes maxL none ws rm mc ms n ∧ y.name = "<init>" ∧ (Cond.instanceMethod y).before args s = true) (hn : As.length = n) (hl : ls.size = nL) (hst : st0 = As.reverse ++ .ref b :: rest) (hW : (rest.map fun v => v.category).sum ≤ 8) (hdg : decode cc pc = .ok (.invokespecial index, 3)) (hf : cells + mc ≤ R.cells ∧ slots + ms ≤ R.slots)
    (kk : ∀ (v : Option Value) (L1 : Nat → Nat) (κ1 : Nat → Option va_E) (H1 : Heap) (locs1 : List Loc), post v L1 κ1 → mw D cl lo L1 κ1 H1 → va_S (fun q => lo ≤ q) H0 H1 locs1 → W p l e R s m args below meth c H1 locs1 (cells + mc) (slots + ms) Q (F0 m (pc + 3) ls (v.toList ++ rest))) : W p l e R s m args below meth c H locs cells slots Q (F0 m pc ls st0) :=
  mw_back (va_runI S hm cw ⟨mwPA_blind, fun U hU hW => ⟨⟨rfl, by rw [hU]; exact hM, va_K.moved hW.alike hK⟩, va_AO.moved hW.alike hAO⟩⟩ rfl hn hl hst (lv_room (m := m) (pc := pc) (ls := ls) (rest := st0) hW) hdg hf) hS kk
end MWA
