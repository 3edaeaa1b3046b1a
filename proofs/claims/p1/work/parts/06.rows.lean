/-! One heap instruction, by what the cells hold. -/
section PMROWS
variable {T : pm_T} {sc : Option (Nat × (Nat → Int32))} {d y : Nat} {top : Bool} {r : pm_Rs} {nm : MethodName} {bs : ByteArray} {mL : Nat} {rt : Option FieldType} {o : Nat} {ini : Bool} {ft : Nat → Option (Instr × Nat × Int32)} {pc tgt idx ci k ne N S a n : Nat} {cv : Int32} {L : List (Option Value)} {rest : List Value} {h : Nat → va_E} {fs : List Value} {v : Value} {j x : Int32} {f : Nat → Int32}
theorem pe_step {i : Instr} {st : List Value} {s' : pm_St} (hM : T.1 y = some (nm, bs, mL, rt, o, ini, ft)) (hf : ft pc = some (i, tgt, cv)) (h1 : pm_ret rt i st = none) (h2 : pm_call T o i = none) (h3 : pm_sim T o ini mL d (if top then sc else none) i tgt cv (pc, L, st, N, S, h) = some s') (kk : pm_ev T sc d y top s' r) : pm_ev T sc d y top (pc, L, st, N, S, h) r := by
  refine pm_ev_one (s' := s') ?_ kk
  unfold pm_one
  rw [hM]
  try dsimp only
  rw [hf]
  try dsimp only
  rw [h1]
  try dsimp only
  rw [h2]
  exact h3
theorem pe_get (hM : T.1 y = some (nm, bs, mL, rt, o, ini, ft)) (hf : ft pc = some (.getfield idx, tgt, cv)) (hcp : T.2.1 o idx = some (0, ci, k, ne)) (hc : h a = .inr (ci, fs)) (ha : a < N) (hk : fs[k]? = some v)
    (kk : pm_ev T sc d y top (pc + 3, L, v :: rest, N, S, h) r) : pm_ev T sc d y top (pc, L, .ref a :: rest, N, S, h) r := by
  refine pe_step hM hf rfl rfl ?_ kk
  unfold pm_sim
  try dsimp only
  rw [hcp]
  refine Eq.trans (if_pos ha) ?_
  rw [hc]
  refine Eq.trans (if_pos rfl) ?_
  rw [hk]
theorem pe_put (hM : T.1 y = some (nm, bs, mL, rt, o, ini, ft)) (hf : ft pc = some (.putfield idx, tgt, cv)) (hcp : T.2.1 o idx = some (0, ci, k, ne)) (hc : h a = .inr (ci, fs)) (ha : a < N) (hk : k < fs.length) (hv : pm_fitsV (T.2.2.1 ci k) ini (ci == o) v = true)
    (kk : pm_ev T sc d y top (pc + 3, L, rest, N, S, va_up h a (.inr (ci, fs.set k v))) r) : pm_ev T sc d y top (pc, L, v :: .ref a :: rest, N, S, h) r := by
  refine pe_step hM hf rfl rfl ?_ kk
  unfold pm_sim
  try dsimp only
  rw [hcp]
  refine Eq.trans (if_pos ha) ?_
  rw [hc]
  exact if_pos ⟨rfl, hk, hv⟩
theorem pe_iald (hM : T.1 y = some (nm, bs, mL, rt, o, ini, ft)) (hf : ft pc = some (.iaload, tgt, cv)) (hc : h a = .inl (0, n, .inl f)) (ha : a < N) (hj : ¬ (j < 0 ∨ n ≤ j.toNatClampNeg))
    (kk : pm_ev T sc d y top (pc + 1, L, .int (f j.toNatClampNeg) :: rest, N, S, h) r) : pm_ev T sc d y top (pc, L, .int j :: .ref a :: rest, N, S, h) r := by
  refine pe_step hM hf rfl rfl ?_ kk
  unfold pm_sim
  try dsimp only
  rw [if_pos ha, hc]
  exact if_neg hj
theorem pe_iast (hM : T.1 y = some (nm, bs, mL, rt, o, ini, ft)) (hf : ft pc = some (.iastore, tgt, cv)) (hc : h a = .inl (0, n, .inl f)) (ha : a < N) (hj : ¬ (j < 0 ∨ n ≤ j.toNatClampNeg))
    (kk : pm_ev T sc d y top (pc + 1, L, rest, N, S, va_up h a (.inl (0, n, .inl (upd f j.toNatClampNeg x)))) r) : pm_ev T sc d y top (pc, L, .int x :: .int j :: .ref a :: rest, N, S, h) r := by
  refine pe_step hM hf rfl rfl ?_ kk
  unfold pm_sim
  try dsimp only
  rw [if_pos ha, hc]
  exact if_neg hj
theorem pe_lald {f : Nat → Int64} (hM : T.1 y = some (nm, bs, mL, rt, o, ini, ft)) (hf : ft pc = some (.laload, tgt, cv)) (hc : h a = .inl (1, n, .inr (.inl f))) (ha : a < N) (hj : ¬ (j < 0 ∨ n ≤ j.toNatClampNeg))
    (kk : pm_ev T sc d y top (pc + 1, L, .long (f j.toNatClampNeg) :: rest, N, S, h) r) : pm_ev T sc d y top (pc, L, .int j :: .ref a :: rest, N, S, h) r := by
  refine pe_step hM hf rfl rfl ?_ kk
  unfold pm_sim
  try dsimp only
  rw [if_pos ha, hc]
  exact if_neg hj
theorem pe_last {f : Nat → Int64} {x : Int64} (hM : T.1 y = some (nm, bs, mL, rt, o, ini, ft)) (hf : ft pc = some (.lastore, tgt, cv)) (hc : h a = .inl (1, n, .inr (.inl f))) (ha : a < N) (hj : ¬ (j < 0 ∨ n ≤ j.toNatClampNeg))
    (kk : pm_ev T sc d y top (pc + 1, L, rest, N, S, va_up h a (.inl (1, n, .inr (.inl (vp_updL f j.toNatClampNeg x))))) r) : pm_ev T sc d y top (pc, L, .long x :: .int j :: .ref a :: rest, N, S, h) r := by
  refine pe_step hM hf rfl rfl ?_ kk
  unfold pm_sim
  try dsimp only
  rw [if_pos ha, hc]
  exact if_neg hj
theorem pe_aald {f : Nat → Option Nat} (hM : T.1 y = some (nm, bs, mL, rt, o, ini, ft)) (hf : ft pc = some (.aaload, tgt, cv)) (hc : h a = .inl (2, n, .inr (.inr (.inr (.inr f))))) (ha : a < N) (hj : ¬ (j < 0 ∨ n ≤ j.toNatClampNeg))
    (kk : pm_ev T sc d y top (pc + 1, L, va_rf (f j.toNatClampNeg) :: rest, N, S, h) r) : pm_ev T sc d y top (pc, L, .int j :: .ref a :: rest, N, S, h) r := by
  refine pe_step hM hf rfl rfl ?_ kk
  unfold pm_sim
  try dsimp only
  rw [if_pos ha, hc]
  exact if_neg hj
theorem pe_alen {g : (Nat → Int32) ⊕ (Nat → Int64) ⊕ (Nat → UInt32) ⊕ (Nat → UInt64) ⊕ (Nat → Option Nat)} {t : Nat} (hM : T.1 y = some (nm, bs, mL, rt, o, ini, ft)) (hf : ft pc = some (.arraylength, tgt, cv)) (hc : h a = .inl (t, n, g)) (ha : a < N) (ht : t < 3)
    (kk : pm_ev T sc d y top (pc + 1, L, .int (Int32.ofNat n) :: rest, N, S, h) r) : pm_ev T sc d y top (pc, L, .ref a :: rest, N, S, h) r := by
  refine pe_step hM hf rfl rfl ?_ kk
  unfold pm_sim
  try dsimp only
  rw [if_pos ha, hc]
  exact if_pos ht
end PMROWS
