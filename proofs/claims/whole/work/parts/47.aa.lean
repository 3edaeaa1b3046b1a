/-! A lookup switch at no key of its. -/
theorem pe_lk {T : pm_T} {sc : Option (Nat × (Nat → Int32))} {d y : Nat} {top : Bool} {r : pm_Rs} {nm : MethodName} {bs : ByteArray} {mL : Nat} {rt : Option FieldType} {o : Nat} {ini : Bool} {ft : Nat → Option (Instr × Nat × Int32)} {pc tgt N S : Nat} {cv : Int32} {L : List (Option Value)} {rest : List Value} {h : Nat → va_E} {x : Int32} {dflt off : Int} {ps : Array (Int × Int)}
    (hM : T.1 y = some (nm, bs, mL, rt, o, ini, ft)) (hf : ft pc = some (.lookupswitch dflt ps, tgt, cv)) (hs : (ps.toList.zip (ps.toList.drop 1)).all (fun (a, next) => a.1 < next.1) = true) (hd : Op.lookupswitch.offset ps.toList dflt x.toInt = off) (h0 : 0 ≤ (pc : Int) + off)
    (kk : pm_ev T sc d y top (((pc : Int) + off).toNat, L, rest, N, S, h) r) : pm_ev T sc d y top (pc, L, .int x :: rest, N, S, h) r := by
  refine pe_step hM hf rfl rfl ?_ kk
  unfold pm_sim
  dsimp only
  rw [hd]
  exact if_pos ⟨hs, h0⟩
