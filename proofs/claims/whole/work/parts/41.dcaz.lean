/-! Math.max and Math.min. -/
section MMAX
variable {T : pm_T} {sc : Option (Nat × (Nat → Int32))} {d y : Nat} {top : Bool} {r : pm_Rs} {nm : MethodName} {bs : ByteArray} {mL : Nat} {rt : Option FieldType} {o : Nat} {ini : Bool} {ft : Nat → Option (Instr × Nat × Int32)} {pc tgt idx k ne N S : Nat} {cv : Int32} {L : List (Option Value)} {rest : List Value} {h : Nat → va_E} {u x : Int32}
theorem pe_max (hM : T.1 y = some (nm, bs, mL, rt, o, ini, ft)) (hf : ft pc = some (.invokestatic idx, tgt, cv)) (hcp : T.2.1 o idx = some (4, 1, k, ne)) (hd : 0 < d) (hrm : pm_rm rest ≤ 8)
    (kk : pm_ev T sc d y top (pc + 3, L, .int (if x < u then u else x) :: rest, N, S, h) r) : pm_ev T sc d y top (pc, L, .int u :: .int x :: rest, N, S, h) r := by
  refine pe_step hM hf rfl ?_ ?_ kk
  · unfold pm_call pm_inv
    dsimp only
    rw [hcp]
    rfl
  · unfold pm_sim
    dsimp only
    rw [hcp]
    exact if_pos ⟨hd, hrm⟩
theorem pe_min (hM : T.1 y = some (nm, bs, mL, rt, o, ini, ft)) (hf : ft pc = some (.invokestatic idx, tgt, cv)) (hcp : T.2.1 o idx = some (4, 2, k, ne)) (hd : 0 < d) (hrm : pm_rm rest ≤ 8)
    (kk : pm_ev T sc d y top (pc + 3, L, .int (if u < x then u else x) :: rest, N, S, h) r) : pm_ev T sc d y top (pc, L, .int u :: .int x :: rest, N, S, h) r := by
  refine pe_step hM hf rfl ?_ ?_ kk
  · unfold pm_call pm_inv
    dsimp only
    rw [hcp]
    rfl
  · unfold pm_sim
    dsimp only
    rw [hcp]
    exact if_pos ⟨hd, hrm⟩
end MMAX
