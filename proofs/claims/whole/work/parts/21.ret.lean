/-! A return, with the method looked up. -/
theorem pe_ret {T : pm_T} {sc : Option (Nat × (Nat → Int32))} {d y : Nat} {top : Bool} {nm : MethodName} {bs : ByteArray} {mL : Nat} {rt : Option FieldType} {o : Nat} {ini : Bool} {ft : Nat → Option (Instr × Nat × Int32)} {pc tgt N S : Nat} {cv : Int32} {i : Instr} {L : List (Option Value)} {st : List Value} {h : Nat → va_E} {v : Option Value}
    (hM : T.1 y = some (nm, bs, mL, rt, o, ini, ft)) (hf : ft pc = some (i, tgt, cv)) (hr : pm_ret rt i st = some v) : pm_ev T sc d y top (pc, L, st, N, S, h) (v, N, S, h) := by
  refine pm_ev_ret ?_
  unfold pm_rt
  rw [hM]
  dsimp only
  rw [hf]
  dsimp only
  rw [hr]
