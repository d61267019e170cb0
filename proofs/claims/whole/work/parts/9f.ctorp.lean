/-! the empty document's bytes, as the constructor lays them; a contract's start with the array class of the slots -/
def eB : Nat → Int := bAppNum (bAppNum (fun _ => (0 : Int)) 0 5 4) (0 + 4) 0 1
def mwPA (D : va_G) (cl : List vw_C) (tys : List (ClassId × FieldType)) (lo : Nat) (L : Nat → Nat) (κ : Nat → Option va_E) (av : List Value) : Array Value → State → Prop := fun v U => mwP D cl tys lo L κ av v U ∧ va_AO "DocumentBytes$Bytes" U
theorem mwPA_blind {D : va_G} {cl : List vw_C} {tys : List (ClassId × FieldType)} {lo : Nat} {L : Nat → Nat} {κ : Nat → Option va_E} {av : List Value} : FrameBlind (mwPA D cl tys lo L κ av) :=
  fun a U g mk q => ⟨mwP_blind a U g mk q.1, va_AO.moved (u := U) (U := U.calling g mk a) (Vm.Alike.refl U.vm) q.2⟩
