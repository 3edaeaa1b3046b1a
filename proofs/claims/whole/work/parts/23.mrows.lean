/-! Stores, in numbers. -/
section MROWS
variable {T : pm_T} {sc : Option (Nat × (Nat → Int32))} {d y : Nat} {top : Bool} {r : pm_Rs} {nm : MethodName} {bs : ByteArray} {mL : Nat} {rt : Option FieldType} {o : Nat} {ini : Bool} {ft : Nat → Option (Instr × Nat × Int32)} {pc tgt idx ci k ne N S a n : Nat} {cv : Int32} {L : List (Option Value)} {rest : List Value} {M : Mem} {fs : List Value} {j x : Int32}
theorem pe_puti (hM : T.1 y = some (nm, bs, mL, rt, o, ini, ft)) (hf : ft pc = some (.putfield idx, tgt, cv)) (hcp : T.2.1 o idx = some (0, ci, k, ne)) (hc : hp M a = .inr (ci, fs)) (ha : a < N) (hk : k < fs.length) (hv : pm_fitsV (T.2.2.1 ci k) ini (ci == o) (.int x) = true) (he : hp (m_i M a k x) a = .inr (ci, fs.set k (.int x)))
    (kk : pm_ev T sc d y top (pc + 3, L, rest, N, S, hp (m_i M a k x)) r) : pm_ev T sc d y top (pc, L, .int x :: .ref a :: rest, N, S, hp M) r := pe_put hM hf hcp hc ha hk hv (by rw [hp_i he]; exact kk)
theorem pe_putr {q : Nat} (hM : T.1 y = some (nm, bs, mL, rt, o, ini, ft)) (hf : ft pc = some (.putfield idx, tgt, cv)) (hcp : T.2.1 o idx = some (0, ci, k, ne)) (hc : hp M a = .inr (ci, fs)) (ha : a < N) (hk : k < fs.length) (hv : pm_fitsV (T.2.2.1 ci k) ini (ci == o) (.ref q) = true) (he : hp (m_r M a k (some q)) a = .inr (ci, fs.set k (.ref q)))
    (kk : pm_ev T sc d y top (pc + 3, L, rest, N, S, hp (m_r M a k (some q))) r) : pm_ev T sc d y top (pc, L, .ref q :: .ref a :: rest, N, S, hp M) r := pe_put hM hf hcp hc ha hk hv (by rw [hp_r he]; exact kk)
theorem pe_iasti (hM : T.1 y = some (nm, bs, mL, rt, o, ini, ft)) (hf : ft pc = some (.iastore, tgt, cv)) (hc : hp M a = .inl (0, n, .inl (M.1 a))) (ha : a < N) (hj : ¬ (j < 0 ∨ n ≤ j.toNatClampNeg)) (he : hp (m_i M a j.toNatClampNeg x) a = .inl (0, n, .inl (upd (M.1 a) j.toNatClampNeg x)))
    (kk : pm_ev T sc d y top (pc + 1, L, rest, N, S, hp (m_i M a j.toNatClampNeg x)) r) : pm_ev T sc d y top (pc, L, .int x :: .int j :: .ref a :: rest, N, S, hp M) r := pe_iast hM hf hc ha hj (by rw [hp_i he]; exact kk)
theorem pe_lasti {x : Int64} (hM : T.1 y = some (nm, bs, mL, rt, o, ini, ft)) (hf : ft pc = some (.lastore, tgt, cv)) (ha : 111 < N) (hj : ¬ (j < 0 ∨ 3220 ≤ j.toNatClampNeg))
    (kk : pm_ev T sc d y top (pc + 1, L, rest, N, S, hp (m_l M j.toNatClampNeg x)) r) : pm_ev T sc d y top (pc, L, .long x :: .int j :: .ref 111 :: rest, N, S, hp M) r := pe_last (f := M.2.2) hM hf rfl ha hj (by rw [hp_l]; exact kk)
end MROWS
/-- a memory under a name -/
def mlet {α : Type} (M : Mem) (f : Mem → Option α) : Option α := f M
