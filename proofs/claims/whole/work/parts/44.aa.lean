/-! A switch out of its range. -/
theorem pe_tout {T : pm_T} {sc : Option (Nat × (Nat → Int32))} {d y : Nat} {top : Bool} {r : pm_Rs} {nm : MethodName} {bs : ByteArray} {mL : Nat} {rt : Option FieldType} {o : Nat} {ini : Bool} {ft : Nat → Option (Instr × Nat × Int32)} {pc tgt N S : Nat} {cv : Int32} {L : List (Option Value)} {rest : List Value} {h : Nat → va_E} {x : Int32} {dflt lo hi : Int} {offs : Array Int}
    (hM : T.1 y = some (nm, bs, mL, rt, o, ini, ft)) (hf : ft pc = some (.tableswitch dflt lo hi offs, tgt, cv)) (hx : x.toInt < lo ∨ hi < x.toInt) (h0 : 0 ≤ (pc : Int) + dflt)
    (kk : pm_ev T sc d y top (((pc : Int) + dflt).toNat, L, rest, N, S, h) r) : pm_ev T sc d y top (pc, L, .int x :: rest, N, S, h) r := by
  refine pe_step hM hf rfl rfl ?_ kk
  unfold pm_sim
  dsimp only
  rw [if_pos hx, if_pos h0]
