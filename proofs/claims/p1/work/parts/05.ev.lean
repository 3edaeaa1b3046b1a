/-! Runs without fuel. -/
theorem pm_fuel {T : pm_T} {sc : Option (Nat × (Nat → Int32))} : ∀ (n d y : Nat) (top : Bool) (s : pm_St) (r : pm_Rs), pm_run T sc n d y top s = some r → pm_run T sc (n + 1) d y top s = some r := by
  intro n
  induction n with
  | zero => intro d y top s r hr; cases hr
  | succ n ih =>
    intro d y top s r hr
    obtain ⟨pc, L, st, N, S, h⟩ := s
    rw [pm_run] at hr
    rw [pm_run]
    cases hM : T.1 y with
    | none => rw [hM] at hr; cases hr
    | some M =>
      obtain ⟨nm, bs, mL, rt, o, ini, ft⟩ := M
      rw [hM] at hr
      dsimp only at hr ⊢
      cases hf : ft pc with
      | none => rw [hf] at hr; cases hr
      | some x =>
        obtain ⟨i, tgt, cv⟩ := x
        rw [hf] at hr
        dsimp only at hr ⊢
        cases hret : pm_ret rt i st with
        | some r0 => rw [hret] at hr; exact hr
        | none =>
          rw [hret] at hr
          dsimp only at hr ⊢
          cases hcall : pm_call T o i with
          | some z =>
            obtain ⟨z, na, md, idx⟩ := z
            rw [hcall] at hr
            dsimp only at hr ⊢
            cases d with
            | zero => cases hz : T.1 z <;> rw [hz] at hr <;> cases hr
            | succ d' =>
              cases hz : T.1 z with
              | none => rw [hz] at hr; cases hr
              | some M' =>
                obtain ⟨nm', bs', mL', rt', o', ini', ft'⟩ := M'
                rw [hz] at hr
                dsimp only at hr ⊢
                split at hr
                · rename_i hcond
                  rw [if_pos hcond]
                  split at hr
                  · rename_i h1
                    rw [ih _ _ _ _ _ h1]
                    exact ih _ _ _ _ _ hr
                  · cases hr
                · cases hr
          | none =>
            rw [hcall] at hr
            dsimp only at hr ⊢
            split at hr
            · exact ih _ _ _ _ _ hr
            · cases hr
theorem pm_fuel_le {T : pm_T} {sc : Option (Nat × (Nat → Int32))} {n m d y : Nat} {top : Bool} {s : pm_St} {r : pm_Rs} (h : pm_run T sc n d y top s = some r) (hnm : n ≤ m) : pm_run T sc m d y top s = some r := by
  induction hnm with
  | refl => exact h
  | step _ ih => exact pm_fuel _ _ _ _ _ _ ih
def pm_ev (T : pm_T) (sc : Option (Nat × (Nat → Int32))) (d y : Nat) (top : Bool) (s : pm_St) (r : pm_Rs) : Prop := ∃ n, pm_run T sc n d y top s = some r
/-- a step that is no call and no return -/
def pm_one (T : pm_T) (sc : Option (Nat × (Nat → Int32))) (d y : Nat) (top : Bool) (s : pm_St) : Option pm_St :=
  match T.1 y with
  | none => none
  | some (_, _, mL, rt, o, ini, ft) =>
    match ft s.1 with
    | none => none
    | some (i, tgt, cv) =>
      match pm_ret rt i s.2.2.1 with
      | some _ => none
      | none =>
        match pm_call T o i with
        | some _ => none
        | none => pm_sim T o ini mL d (if top then sc else none) i tgt cv s
theorem pm_ev_one {T : pm_T} {sc : Option (Nat × (Nat → Int32))} {d y : Nat} {top : Bool} {s s' : pm_St} {r : pm_Rs} (h : pm_one T sc d y top s = some s') (k : pm_ev T sc d y top s' r) : pm_ev T sc d y top s r := by
  obtain ⟨n, hn⟩ := k
  refine ⟨n + 1, ?_⟩
  obtain ⟨pc, L, st, N, S, h0⟩ := s
  rw [pm_run]
  unfold pm_one at h
  dsimp only at h
  cases hM : T.1 y with
  | none => rw [hM] at h; cases h
  | some M =>
    obtain ⟨nm, bs, mL, rt, o, ini, ft⟩ := M
    rw [hM] at h
    dsimp only at h ⊢
    cases hf : ft pc with
    | none => rw [hf] at h; cases h
    | some x =>
      obtain ⟨i, tgt, cv⟩ := x
      rw [hf] at h
      dsimp only at h ⊢
      cases hret : pm_ret rt i st with
      | some r0 => rw [hret] at h; cases h
      | none =>
        rw [hret] at h
        dsimp only at h ⊢
        cases hcall : pm_call T o i with
        | some z => rw [hcall] at h; cases h
        | none =>
          rw [hcall] at h
          dsimp only at h ⊢
          rw [h]
          exact hn
def pm_many (T : pm_T) (sc : Option (Nat × (Nat → Int32))) (d y : Nat) (top : Bool) : Nat → pm_St → Option pm_St
  | 0, s => some s
  | k + 1, s => match pm_one T sc d y top s with
    | some s' => pm_many T sc d y top k s'
    | none => none
theorem pm_ev_many {T : pm_T} {sc : Option (Nat × (Nat → Int32))} {d y : Nat} {top : Bool} (k : Nat) : ∀ {s s' : pm_St} {r : pm_Rs}, pm_many T sc d y top k s = some s' → pm_ev T sc d y top s' r → pm_ev T sc d y top s r := by
  induction k with
  | zero => intro s s' r h hk; cases h; exact hk
  | succ k ih =>
    intro s s' r h hk
    rw [pm_many] at h
    split at h
    · rename_i s1 h1
      exact pm_ev_one h1 (ih h hk)
    · cases h
/-- the entry of a call: the method, how many words it takes, its first state -/
def pm_ent (T : pm_T) (y : Nat) (s : pm_St) : Option (Nat × Nat × pm_St) :=
  match T.1 y with
  | none => none
  | some (_, _, _, rt, o, _, ft) =>
    match ft s.1 with
    | none => none
    | some (i, _, _) =>
      match pm_ret rt i s.2.2.1 with
      | some _ => none
      | none =>
        match pm_call T o i with
        | none => none
        | some (z, na, md, _) =>
          match T.1 z with
          | none => none
          | some (_, _, mL', _, o', _, _) =>
            if pm_nargs md na ≤ s.2.2.1.length ∧ pm_rm (s.2.2.1.drop (pm_nargs md na)) ≤ 8 ∧ pm_nargs md na ≤ mL' ∧ (s.2.2.1.take (pm_nargs md na)).all (fun v => v.category == 1) = true ∧ pm_recv md o' s.2.2.2.1 s.2.2.2.2.2 (s.2.2.1.take (pm_nargs md na)).reverse = true then
              some (z, pm_nargs md na, (0, (s.2.2.1.take (pm_nargs md na)).reverse.map some ++ List.replicate (mL' - pm_nargs md na) none, [], s.2.2.2))
            else none
theorem pm_ev_call {T : pm_T} {sc : Option (Nat × (Nat → Int32))} {d y z k : Nat} {top : Bool} {pc : Nat} {L : List (Option Value)} {st : List Value} {hp : Nat × Nat × (Nat → va_E)} {s0 : pm_St} {r1 r : pm_Rs}
    (h : pm_ent T y (pc, L, st, hp) = some (z, k, s0)) (h1 : pm_ev T sc d z false s0 r1) (h2 : pm_ev T sc (d + 1) y top (pc + 3, L, r1.1.toList ++ st.drop k, r1.2) r) : pm_ev T sc (d + 1) y top (pc, L, st, hp) r := by
  obtain ⟨n1, hn1⟩ := h1
  obtain ⟨n2, hn2⟩ := h2
  have e1 := pm_fuel_le hn1 (Nat.le_max_left n1 n2)
  have e2 := pm_fuel_le hn2 (Nat.le_max_right n1 n2)
  refine ⟨max n1 n2 + 1, ?_⟩
  generalize max n1 n2 = n at e1 e2
  obtain ⟨N, S, h0⟩ := hp
  obtain ⟨r1v, N1, S1, hh1⟩ := r1
  rw [pm_run]
  unfold pm_ent at h
  dsimp only at h
  cases hM : T.1 y with
  | none => rw [hM] at h; cases h
  | some M =>
    obtain ⟨nm, bs, mL, rt, o, ini, ft⟩ := M
    rw [hM] at h
    dsimp only at h ⊢
    cases hf : ft pc with
    | none => rw [hf] at h; cases h
    | some x =>
      obtain ⟨i, tgt, cv⟩ := x
      rw [hf] at h
      dsimp only at h ⊢
      cases hret : pm_ret rt i st with
      | some r0 => rw [hret] at h; cases h
      | none =>
        rw [hret] at h
        dsimp only at h ⊢
        cases hcall : pm_call T o i with
        | none => rw [hcall] at h; cases h
        | some z0 =>
          obtain ⟨z0, na, md, idx⟩ := z0
          rw [hcall] at h
          dsimp only at h ⊢
          cases hz : T.1 z0 with
          | none => rw [hz] at h; cases h
          | some M' =>
            obtain ⟨nm', bs', mL', rt', o', ini', ft'⟩ := M'
            rw [hz] at h
            dsimp only at h ⊢
            split at h
            · rename_i hcond
              rw [if_pos hcond]
              cases h
              rw [e1]
              exact e2
            · cases h
/-- a return -/
def pm_rt (T : pm_T) (y : Nat) (s : pm_St) : Option pm_Rs :=
  match T.1 y with
  | none => none
  | some (_, _, _, rt, _, _, ft) =>
    match ft s.1 with
    | none => none
    | some (i, _, _) =>
      match pm_ret rt i s.2.2.1 with
      | some r => some (r, s.2.2.2)
      | none => none
theorem pm_ev_ret {T : pm_T} {sc : Option (Nat × (Nat → Int32))} {d y : Nat} {top : Bool} {s : pm_St} {r : pm_Rs} (h : pm_rt T y s = some r) : pm_ev T sc d y top s r := by
  refine ⟨1, ?_⟩
  obtain ⟨pc, L, st, N, S, h0⟩ := s
  rw [pm_run]
  unfold pm_rt at h
  dsimp only at h
  cases hM : T.1 y with
  | none => rw [hM] at h; cases h
  | some M =>
    obtain ⟨nm, bs, mL, rt, o, ini, ft⟩ := M
    rw [hM] at h
    dsimp only at h ⊢
    cases hf : ft pc with
    | none => rw [hf] at h; cases h
    | some x =>
      obtain ⟨i, tgt, cv⟩ := x
      rw [hf] at h
      dsimp only at h ⊢
      cases hret : pm_ret rt i st with
      | some r0 => rw [hret] at h; exact h
      | none => rw [hret] at h; cases h
