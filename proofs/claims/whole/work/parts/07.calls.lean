/-! Calls, by what stands on the stack. -/
section PMCALLS
variable {T : pm_T} {sc : Option (Nat × (Nat → Int32))} {d y : Nat} {top : Bool} {r r1 : pm_Rs} {nm nm' : MethodName} {bs bs' : ByteArray} {mL mL' : Nat} {rt rt' : Option FieldType} {o o' : Nat} {ini ini' : Bool} {ft ft' : Nat → Option (Instr × Nat × Int32)} {pc tgt idx z na md N S a : Nat} {cv : Int32} {L L0 : List (Option Value)} {al rest : List Value} {h : Nat → va_E} {fs : List Value}
theorem pe_callA {i : Instr} {kd k : Nat} {st : List Value} (hM : T.1 y = some (nm, bs, mL, rt, o, ini, ft)) (hf : ft pc = some (i, tgt, cv)) (h1 : pm_ret rt i st = none) (hi : pm_inv i = some (idx, kd)) (hcp : T.2.1 o idx = some (2, z, na, md)) (hmd : md % 3 = kd) (hz : T.1 z = some (nm', bs', mL', rt', o', ini', ft')) (hk : pm_nargs md na = k)
    (hl : al.length = k) (hst : st = al ++ rest) (hrm : pm_rm rest ≤ 8) (hm : k ≤ mL') (hcat : al.all (fun v => v.category == 1) = true) (hrv : pm_recv md o' N h al.reverse = true) (hL0 : al.reverse.map some ++ List.replicate (mL' - k) none = L0)
    (e1 : pm_ev T sc d z false (0, L0, [], N, S, h) r1) (kk : pm_ev T sc (d + 1) y top (pc + 3, L, r1.1.toList ++ rest, r1.2) r) : pm_ev T sc (d + 1) y top (pc, L, st, N, S, h) r := by
  subst hst
  have t1 : (al ++ rest).take k = al := by rw [← hl]; exact List.take_left
  have t2 : (al ++ rest).drop k = rest := by rw [← hl]; exact List.drop_left
  refine pm_ev_call (z := z) (k := k) (s0 := (0, L0, [], N, S, h)) (r1 := r1) ?_ e1 (by rw [t2]; exact kk)
  unfold pm_ent
  rw [hM]
  try dsimp only
  rw [hf]
  try dsimp only
  rw [h1]
  try dsimp only
  have hc : pm_call T o i = some (z, na, md, idx) := by
    unfold pm_call
    rw [hi]
    try dsimp only
    rw [hcp]
    exact if_pos hmd
  rw [hc]
  try dsimp only
  rw [hz]
  try dsimp only
  rw [hk, t1, t2, if_pos ⟨by rw [List.length_append]; omega, hrm, hm, hcat, hrv⟩, hL0]
theorem pe_virt (hM : T.1 y = some (nm, bs, mL, rt, o, ini, ft)) (hf : ft pc = some (.invokevirtual idx, tgt, cv)) (hcp : T.2.1 o idx = some (2, z, na, md)) (hmd : md % 3 = 0) (hz : T.1 z = some (nm', bs', mL', rt', o', ini', ft')) (hc : h a = .inr (o', fs)) (ha : a < N) (ho : o' ≠ 100)
    (hl : al.length = na) (hrm : pm_rm rest ≤ 8) (hm : na + 1 ≤ mL') (hcat : al.all (fun v => v.category == 1) = true) (hL0 : some (.ref a) :: (al.reverse.map some ++ List.replicate (mL' - (na + 1)) none) = L0)
    (e1 : pm_ev T sc d z false (0, L0, [], N, S, h) r1) (kk : pm_ev T sc (d + 1) y top (pc + 3, L, r1.1.toList ++ rest, r1.2) r) : pm_ev T sc (d + 1) y top (pc, L, al ++ .ref a :: rest, N, S, h) r := by
  refine pe_callA (al := al ++ [.ref a]) (rest := rest) (k := na + 1) (L0 := L0) hM hf rfl rfl hcp hmd hz (by unfold pm_nargs; rw [if_neg (by omega)]) (by simp [hl]) (by simp) hrm hm (by rw [List.all_append, hcat]; rfl) ?_ ?_ e1 kk
  · unfold pm_recv
    rw [if_neg (by omega), List.reverse_append]
    show (if md % 3 = 1 then true else decide (a < N ∧ o' ≠ 100) && (match h a with | .inr (cj, _) => cj == o' | _ => false)) = true
    rw [if_neg (by omega), hc]
    simp [ha, ho]
  · rw [← hL0, List.reverse_append]
    rfl
theorem pe_spec (hM : T.1 y = some (nm, bs, mL, rt, o, ini, ft)) (hf : ft pc = some (.invokespecial idx, tgt, cv)) (hcp : T.2.1 o idx = some (2, z, na, md)) (hmd : md % 3 = 1) (hz : T.1 z = some (nm', bs', mL', rt', o', ini', ft'))
    (hl : al.length = na) (hrm : pm_rm rest ≤ 8) (hm : na + 1 ≤ mL') (hcat : al.all (fun v => v.category == 1) = true) (hL0 : some (.ref a) :: (al.reverse.map some ++ List.replicate (mL' - (na + 1)) none) = L0)
    (e1 : pm_ev T sc d z false (0, L0, [], N, S, h) r1) (kk : pm_ev T sc (d + 1) y top (pc + 3, L, r1.1.toList ++ rest, r1.2) r) : pm_ev T sc (d + 1) y top (pc, L, al ++ .ref a :: rest, N, S, h) r := by
  refine pe_callA (al := al ++ [.ref a]) (rest := rest) (k := na + 1) (L0 := L0) hM hf rfl rfl hcp hmd hz (by unfold pm_nargs; rw [if_neg (by omega)]) (by simp [hl]) (by simp) hrm hm (by rw [List.all_append, hcat]; rfl) ?_ ?_ e1 kk
  · unfold pm_recv
    rw [if_neg (by omega), List.reverse_append]
    show (if md % 3 = 1 then true else decide (a < N ∧ o' ≠ 100) && (match h a with | .inr (cj, _) => cj == o' | _ => false)) = true
    rw [if_pos (by omega)]
  · rw [← hL0, List.reverse_append]
    rfl
theorem pe_stat (hM : T.1 y = some (nm, bs, mL, rt, o, ini, ft)) (hf : ft pc = some (.invokestatic idx, tgt, cv)) (hcp : T.2.1 o idx = some (2, z, na, md)) (hmd : md % 3 = 2) (hz : T.1 z = some (nm', bs', mL', rt', o', ini', ft'))
    (hl : al.length = na) (hrm : pm_rm rest ≤ 8) (hm : na ≤ mL') (hcat : al.all (fun v => v.category == 1) = true) (hL0 : al.reverse.map some ++ List.replicate (mL' - na) none = L0)
    (e1 : pm_ev T sc d z false (0, L0, [], N, S, h) r1) (kk : pm_ev T sc (d + 1) y top (pc + 3, L, r1.1.toList ++ rest, r1.2) r) : pm_ev T sc (d + 1) y top (pc, L, al ++ rest, N, S, h) r := by
  refine pe_callA (al := al) (rest := rest) (k := na) (L0 := L0) hM hf rfl rfl hcp hmd hz (by unfold pm_nargs; rw [if_pos (by omega)]) hl rfl hrm hm hcat ?_ hL0 e1 kk
  unfold pm_recv
  rw [if_pos (by omega)]
end PMCALLS
