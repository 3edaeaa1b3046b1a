/-! What each method may write; written by program. -/
set_option maxRecDepth 100000 in
theorem zJ153_51_kp (n : Nat) (s0 : Int) (M : ZM) (r : Int) (m' : ZM) (h : zJ153_51 n s0 M = some (r, m')) : m' = M := by
  unfold zJ153_51 at h
  have g : M = M := rfl
  exact (Prod.mk.inj (Option.some.inj h)).2.symm.trans g
set_option maxRecDepth 100000 in
theorem zJ153_48_kp (n : Nat) (x2 : Int) (M : ZM) (r : Int) (m' : ZM) (h : zJ153_48 n x2 M = some (r, m')) : m' = M := by
  unfold zJ153_48 at h
  have g : M = M := rfl
  by_cases q1 : rg (x2 + 1)
  · rw [if_pos q1] at h
    exact (zJ153_51_kp n (x2 + 1) M _ _ h).trans g
  · rw [if_neg q1] at h
    cases h
set_option maxRecDepth 100000 in
theorem zJ153_35_kp (n : Nat) (x2 : Int) (M : ZM) (r : Int) (m' : ZM) (h : zJ153_35 n x2 M = some (r, m')) : m' = M := by
  unfold zJ153_35 at h
  have g : M = M := rfl
  cases hq1 : M.2.1 16 6 with
  | none =>
    rw [hq1] at h
    dsimp only at h
    cases h
  | some p16 =>
    rw [hq1] at h
    dsimp only at h
    by_cases q2 : isR p16
    · rw [if_pos q2] at h
      cases hc3 : zF172 n p16 x2 M with
      | none => rw [hc3] at h; cases h
      | some w =>
        obtain ⟨v19, M20⟩ := w
        rw [hc3] at h
        dsimp only at h
        replace g := (zF172_kp n p16 x2 M _ _ hc3).trans g
        by_cases q4 : rg (v19 + 1)
        · rw [if_pos q4] at h
          exact (zJ153_51_kp n (v19 + 1) M20 _ _ h).trans g
        · rw [if_neg q4] at h
          cases h
    · rw [if_neg q2] at h
      cases h
set_option maxRecDepth 100000 in
theorem zF153_kp (n : Nat) (a0 : Int) (a1 : Int) (M : ZM) (r : Int) (m' : ZM) (h : zF153 n a0 a1 M = some (r, m')) : m' = M := by
  unfold zF153 at h
  have g : M = M := rfl
  by_cases q1 : a0 = 1159
  · rw [if_pos q1] at h
    cases hc2 : zF157 n a1 0 M with
    | none => rw [hc2] at h; cases h
    | some w =>
      obtain ⟨v2, M3⟩ := w
      rw [hc2] at h
      dsimp only at h
      replace g := (zF157_kp n a1 0 M _ _ hc2).trans g
      exact (Prod.mk.inj (Option.some.inj h)).2.symm.trans g
  · rw [if_neg q1] at h
    by_cases q3 : a0 = 1560
    · rw [if_pos q3] at h
      cases hq4 : M.2.1 16 6 with
      | none =>
        rw [hq4] at h
        dsimp only at h
        cases h
      | some p6 =>
        rw [hq4] at h
        dsimp only at h
        by_cases q5 : isR p6
        · rw [if_pos q5] at h
          cases hc6 : zF170 n p6 a1 M with
          | none => rw [hc6] at h; cases h
          | some w =>
            obtain ⟨v9, M10⟩ := w
            rw [hc6] at h
            dsimp only at h
            replace g := (zF170_kp n p6 a1 M _ _ hc6).trans g
            cases hc7 : zF13 n v9 M10 with
            | none => rw [hc7] at h; cases h
            | some w =>
              obtain ⟨v12, M13⟩ := w
              rw [hc7] at h
              dsimp only at h
              replace g := (zF13_kp n v9 M10 _ _ hc7).trans g
              by_cases q8 : v12 = 0
              · rw [if_pos q8] at h
                exact (zJ153_48_kp n a1 M13 _ _ h).trans g
              · rw [if_neg q8] at h
                exact (zJ153_35_kp n a1 M13 _ _ h).trans g
        · rw [if_neg q5] at h
          cases h
    · rw [if_neg q3] at h
      exact (zJ153_48_kp n a1 M _ _ h).trans g
