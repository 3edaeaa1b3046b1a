/-! The methods as functions over Mem; written by program. -/
def J118_21 (n : Nat) (b : Nat) (M : Mem) : Option (Int32 × Mem) :=
  some ((-1), M)
set_option maxRecDepth 100000 in
set_option maxHeartbeats 4000000 in
theorem J118_21_ev (sc : Option (Nat × (Nat → Int32))) (n : Nat) (b : Nat) (hb : isD b) (e : Nat) (he : 1 ≤ e) : ∀ (u0 : Option Value) (u1 : Option Value) (M : Mem) (r : Int32) (M' : Mem), J118_21 n b  M = some (r, M') → pm_ev pmT sc e 118 false (21, [u0, u1], [], 129, 17845, hp M) (some (.int r), 129, 17845, hp M') := by
  intro u0 u1 M r M' h
  unfold J118_21 at h
  refine pe_blk mm_118 1 (s' := (22, [u0, u1], [.int (-1)], _, _, _)) rfl ?_
  cases h
  exact pe_ret mm_118 rfl rfl
/-- ArmExpander$Definition.markOf -/
def F118 (n : Nat) (b : Nat) (a0 : Int32) (M : Mem) : Option (Int32 × Mem) :=
  if a0 < 0 then (J118_21 n b M) else (if (M.1 b 6) ≤ a0 then (J118_21 n b M) else (if a0 < 0 ∨ 120 ≤ (a0 : Int32).toNatClampNeg then none else (if 0 ≤ (M.1 (b + 4) (a0 : Int32).toNatClampNeg) then (if a0 < 0 ∨ 120 ≤ (a0 : Int32).toNatClampNeg then none else (if (M.1 (b + 4) (a0 : Int32).toNatClampNeg) < 0 ∨ 120 ≤ (M.1 (b + 4) (a0 : Int32).toNatClampNeg : Int32).toNatClampNeg then none else (some (M.1 (b + 1) (M.1 (b + 4) (a0 : Int32).toNatClampNeg : Int32).toNatClampNeg, M)))) else (J118_21 n b M))))
set_option maxRecDepth 100000 in
set_option maxHeartbeats 4000000 in
theorem F118_ev (sc : Option (Nat × (Nat → Int32))) (n : Nat) (b : Nat) (a0 : Int32) (hb : isD b) (M : Mem) (e : Nat) (he : 1 ≤ e) (r : Int32) (M' : Mem) (h : F118 n b a0 M = some (r, M')) : pm_ev pmT sc e 118 false (0, [some (.ref b), some (.int a0)], [], 129, 17845, hp M) (some (.int r), 129, 17845, hp M') := by
  unfold F118 at h
  refine pe_blk mm_118 1 (s' := (1, [some (.ref b), some (.int a0)], [.int a0], _, _, _)) rfl ?_
  by_cases q1 : a0 < 0
  · rw [if_pos q1] at h
    refine pe_blk mm_118 1 (s' := (if a0 < 0 then 21 else 4, [some (.ref b), some (.int a0)], [], _, _, _)) rfl ?_
    rw [if_pos q1]
    exact J118_21_ev sc n b hb e he _ _ _ _ _ h
  · rw [if_neg q1] at h
    refine pe_blk mm_118 1 (s' := (if a0 < 0 then 21 else 4, [some (.ref b), some (.int a0)], [], _, _, _)) rfl ?_
    rw [if_neg q1]
    refine pe_blk mm_118 2 (s' := (6, [some (.ref b), some (.int a0)], [.ref b, .int a0], _, _, _)) rfl ?_
    refine pe_get mm_118 rfl rfl (isD_0 hb _) (by have := isD_lt hb; omega) rfl ?_
    by_cases q2 : (M.1 b 6) ≤ a0
    · rw [if_pos q2] at h
      refine pe_blk mm_118 1 (s' := (if (M.1 b 6) ≤ a0 then 21 else 12, [some (.ref b), some (.int a0)], [], _, _, _)) rfl ?_
      rw [if_pos q2]
      exact J118_21_ev sc n b hb e he _ _ _ _ _ h
    · rw [if_neg q2] at h
      refine pe_blk mm_118 1 (s' := (if (M.1 b 6) ≤ a0 then 21 else 12, [some (.ref b), some (.int a0)], [], _, _, _)) rfl ?_
      rw [if_neg q2]
      refine pe_blk mm_118 1 (s' := (13, [some (.ref b), some (.int a0)], [.ref b], _, _, _)) rfl ?_
      refine pe_get mm_118 rfl rfl (isD_0 hb _) (by have := isD_lt hb; omega) rfl ?_
      refine pe_blk mm_118 1 (s' := (17, [some (.ref b), some (.int a0)], [.int a0, .ref (b + 4)], _, _, _)) rfl ?_
      by_cases q3 : a0 < 0 ∨ 120 ≤ (a0 : Int32).toNatClampNeg
      · rw [if_pos q3] at h
        cases h
      · rw [if_neg q3] at h
        refine pe_iald (f := M.1 (b + 4)) mm_118 rfl (isD_4 hb _) (by have := isD_lt hb; omega) q3 ?_
        by_cases q4 : 0 ≤ (M.1 (b + 4) (a0 : Int32).toNatClampNeg)
        · rw [if_pos q4] at h
          refine pe_blk mm_118 1 (s' := (if 0 ≤ (M.1 (b + 4) (a0 : Int32).toNatClampNeg) then 23 else 21, [some (.ref b), some (.int a0)], [], _, _, _)) rfl ?_
          rw [if_pos q4]
          refine pe_blk mm_118 1 (s' := (24, [some (.ref b), some (.int a0)], [.ref b], _, _, _)) rfl ?_
          refine pe_get mm_118 rfl rfl (isD_0 hb _) (by have := isD_lt hb; omega) rfl ?_
          refine pe_blk mm_118 1 (s' := (28, [some (.ref b), some (.int a0)], [.ref b, .ref (b + 1)], _, _, _)) rfl ?_
          refine pe_get mm_118 rfl rfl (isD_0 hb _) (by have := isD_lt hb; omega) rfl ?_
          refine pe_blk mm_118 1 (s' := (32, [some (.ref b), some (.int a0)], [.int a0, .ref (b + 4), .ref (b + 1)], _, _, _)) rfl ?_
          by_cases q5 : a0 < 0 ∨ 120 ≤ (a0 : Int32).toNatClampNeg
          · rw [if_pos q5] at h
            cases h
          · rw [if_neg q5] at h
            refine pe_iald (f := M.1 (b + 4)) mm_118 rfl (isD_4 hb _) (by have := isD_lt hb; omega) q5 ?_
            by_cases q6 : (M.1 (b + 4) (a0 : Int32).toNatClampNeg) < 0 ∨ 120 ≤ (M.1 (b + 4) (a0 : Int32).toNatClampNeg : Int32).toNatClampNeg
            · rw [if_pos q6] at h
              cases h
            · rw [if_neg q6] at h
              refine pe_iald (f := M.1 (b + 1)) mm_118 rfl (isD_1 hb _) (by have := isD_lt hb; omega) q6 ?_
              cases h
              exact pe_ret mm_118 rfl rfl
        · rw [if_neg q4] at h
          refine pe_blk mm_118 1 (s' := (if 0 ≤ (M.1 (b + 4) (a0 : Int32).toNatClampNeg) then 23 else 21, [some (.ref b), some (.int a0)], [], _, _, _)) rfl ?_
          rw [if_neg q4]
          exact J118_21_ev sc n b hb e he _ _ _ _ _ h
def J119_21 (n : Nat) (b : Nat) (M : Mem) : Option (Int32 × Mem) :=
  some (M.1 b 6, M)
set_option maxRecDepth 100000 in
set_option maxHeartbeats 4000000 in
theorem J119_21_ev (sc : Option (Nat × (Nat → Int32))) (n : Nat) (b : Nat) (hb : isD b) (e : Nat) (he : 1 ≤ e) : ∀ (u1 : Option Value) (M : Mem) (r : Int32) (M' : Mem), J119_21 n b  M = some (r, M') → pm_ev pmT sc e 119 false (21, [some (.ref b), u1], [], 129, 17845, hp M) (some (.int r), 129, 17845, hp M') := by
  intro u1 M r M' h
  unfold J119_21 at h
  refine pe_blk mm_119 1 (s' := (22, [some (.ref b), u1], [.ref b], _, _, _)) rfl ?_
  refine pe_get mm_119 rfl rfl (isD_0 hb _) (by have := isD_lt hb; omega) rfl ?_
  cases h
  exact pe_ret mm_119 rfl rfl
/-- ArmExpander$Definition.behind -/
def F119 (n : Nat) (b : Nat) (a0 : Int32) (M : Mem) : Option (Int32 × Mem) :=
  if a0 < 0 then (J119_21 n b M) else (if (M.1 b 6) ≤ a0 then (J119_21 n b M) else (if a0 < 0 ∨ 120 ≤ (a0 : Int32).toNatClampNeg then none else (if 0 ≤ (M.1 (b + 4) (a0 : Int32).toNatClampNeg) then (if a0 < 0 ∨ 120 ≤ (a0 : Int32).toNatClampNeg then none else (some ((M.1 (b + 4) (a0 : Int32).toNatClampNeg) + 1, M))) else (J119_21 n b M))))
set_option maxRecDepth 100000 in
set_option maxHeartbeats 4000000 in
theorem F119_ev (sc : Option (Nat × (Nat → Int32))) (n : Nat) (b : Nat) (a0 : Int32) (hb : isD b) (M : Mem) (e : Nat) (he : 1 ≤ e) (r : Int32) (M' : Mem) (h : F119 n b a0 M = some (r, M')) : pm_ev pmT sc e 119 false (0, [some (.ref b), some (.int a0)], [], 129, 17845, hp M) (some (.int r), 129, 17845, hp M') := by
  unfold F119 at h
  refine pe_blk mm_119 1 (s' := (1, [some (.ref b), some (.int a0)], [.int a0], _, _, _)) rfl ?_
  by_cases q1 : a0 < 0
  · rw [if_pos q1] at h
    refine pe_blk mm_119 1 (s' := (if a0 < 0 then 21 else 4, [some (.ref b), some (.int a0)], [], _, _, _)) rfl ?_
    rw [if_pos q1]
    exact J119_21_ev sc n b hb e he _ _ _ _ h
  · rw [if_neg q1] at h
    refine pe_blk mm_119 1 (s' := (if a0 < 0 then 21 else 4, [some (.ref b), some (.int a0)], [], _, _, _)) rfl ?_
    rw [if_neg q1]
    refine pe_blk mm_119 2 (s' := (6, [some (.ref b), some (.int a0)], [.ref b, .int a0], _, _, _)) rfl ?_
    refine pe_get mm_119 rfl rfl (isD_0 hb _) (by have := isD_lt hb; omega) rfl ?_
    by_cases q2 : (M.1 b 6) ≤ a0
    · rw [if_pos q2] at h
      refine pe_blk mm_119 1 (s' := (if (M.1 b 6) ≤ a0 then 21 else 12, [some (.ref b), some (.int a0)], [], _, _, _)) rfl ?_
      rw [if_pos q2]
      exact J119_21_ev sc n b hb e he _ _ _ _ h
    · rw [if_neg q2] at h
      refine pe_blk mm_119 1 (s' := (if (M.1 b 6) ≤ a0 then 21 else 12, [some (.ref b), some (.int a0)], [], _, _, _)) rfl ?_
      rw [if_neg q2]
      refine pe_blk mm_119 1 (s' := (13, [some (.ref b), some (.int a0)], [.ref b], _, _, _)) rfl ?_
      refine pe_get mm_119 rfl rfl (isD_0 hb _) (by have := isD_lt hb; omega) rfl ?_
      refine pe_blk mm_119 1 (s' := (17, [some (.ref b), some (.int a0)], [.int a0, .ref (b + 4)], _, _, _)) rfl ?_
      by_cases q3 : a0 < 0 ∨ 120 ≤ (a0 : Int32).toNatClampNeg
      · rw [if_pos q3] at h
        cases h
      · rw [if_neg q3] at h
        refine pe_iald (f := M.1 (b + 4)) mm_119 rfl (isD_4 hb _) (by have := isD_lt hb; omega) q3 ?_
        by_cases q4 : 0 ≤ (M.1 (b + 4) (a0 : Int32).toNatClampNeg)
        · rw [if_pos q4] at h
          refine pe_blk mm_119 1 (s' := (if 0 ≤ (M.1 (b + 4) (a0 : Int32).toNatClampNeg) then 26 else 21, [some (.ref b), some (.int a0)], [], _, _, _)) rfl ?_
          rw [if_pos q4]
          refine pe_blk mm_119 1 (s' := (27, [some (.ref b), some (.int a0)], [.ref b], _, _, _)) rfl ?_
          refine pe_get mm_119 rfl rfl (isD_0 hb _) (by have := isD_lt hb; omega) rfl ?_
          refine pe_blk mm_119 1 (s' := (31, [some (.ref b), some (.int a0)], [.int a0, .ref (b + 4)], _, _, _)) rfl ?_
          by_cases q5 : a0 < 0 ∨ 120 ≤ (a0 : Int32).toNatClampNeg
          · rw [if_pos q5] at h
            cases h
          · rw [if_neg q5] at h
            refine pe_iald (f := M.1 (b + 4)) mm_119 rfl (isD_4 hb _) (by have := isD_lt hb; omega) q5 ?_
            refine pe_blk mm_119 2 (s' := (34, [some (.ref b), some (.int a0)], [.int ((M.1 (b + 4) (a0 : Int32).toNatClampNeg) + 1)], _, _, _)) rfl ?_
            cases h
            exact pe_ret mm_119 rfl rfl
        · rw [if_neg q4] at h
          refine pe_blk mm_119 1 (s' := (if 0 ≤ (M.1 (b + 4) (a0 : Int32).toNatClampNeg) then 26 else 21, [some (.ref b), some (.int a0)], [], _, _, _)) rfl ?_
          rw [if_neg q4]
          exact J119_21_ev sc n b hb e he _ _ _ _ h
def J120_14 (n : Nat) (b : Nat) (M : Mem) : Option (Int32 × Mem) :=
  some ((-1), M)
set_option maxRecDepth 100000 in
set_option maxHeartbeats 4000000 in
theorem J120_14_ev (sc : Option (Nat × (Nat → Int32))) (n : Nat) (b : Nat) (hb : isD b) (e : Nat) (he : 1 ≤ e) : ∀ (u0 : Option Value) (u1 : Option Value) (u2 : Option Value) (M : Mem) (r : Int32) (M' : Mem), J120_14 n b  M = some (r, M') → pm_ev pmT sc e 120 false (14, [u0, u1, u2], [], 129, 17845, hp M) (some (.int r), 129, 17845, hp M') := by
  intro u0 u1 u2 M r M' h
  unfold J120_14 at h
  refine pe_blk mm_120 1 (s' := (15, [u0, u1, u2], [.int (-1)], _, _, _)) rfl ?_
  cases h
  exact pe_ret mm_120 rfl rfl
def J120_44 (n : Nat) (b : Nat) (s0 : Int32) (M : Mem) : Option (Int32 × Mem) :=
  some (s0, M)
set_option maxRecDepth 100000 in
set_option maxHeartbeats 4000000 in
theorem J120_44_ev (sc : Option (Nat × (Nat → Int32))) (n : Nat) (b : Nat) (hb : isD b) (e : Nat) (he : 1 ≤ e) : ∀ (s0 : Int32) (u0 : Option Value) (u1 : Option Value) (u2 : Option Value) (M : Mem) (r : Int32) (M' : Mem), J120_44 n b s0 M = some (r, M') → pm_ev pmT sc e 120 false (44, [u0, u1, u2], [.int s0], 129, 17845, hp M) (some (.int r), 129, 17845, hp M') := by
  intro s0 u0 u1 u2 M r M' h
  unfold J120_44 at h
  cases h
  exact pe_ret mm_120 rfl rfl
/-- ArmExpander$Definition.separatorOf -/
def F120 (n : Nat) (b : Nat) (a0 : Int32) (M : Mem) : Option (Int32 × Mem) :=
  if a0 < 0 then (J120_14 n b M) else (if (a0 + 1) < (M.1 b 6) then (if (a0 + 1) < 0 ∨ 120 ≤ (a0 + 1 : Int32).toNatClampNeg then none else (if a0 < 0 ∨ 120 ≤ (a0 : Int32).toNatClampNeg then none else (if (M.1 (b + 4) (a0 : Int32).toNatClampNeg) = ((M.1 (b + 2) (a0 + 1 : Int32).toNatClampNeg) + 2) then (J120_44 n b ((M.1 (b + 2) (a0 + 1 : Int32).toNatClampNeg) + 1) M) else (J120_44 n b (-1) M)))) else (J120_14 n b M))
set_option maxRecDepth 100000 in
set_option maxHeartbeats 4000000 in
theorem F120_ev (sc : Option (Nat × (Nat → Int32))) (n : Nat) (b : Nat) (a0 : Int32) (hb : isD b) (M : Mem) (e : Nat) (he : 1 ≤ e) (r : Int32) (M' : Mem) (h : F120 n b a0 M = some (r, M')) : pm_ev pmT sc e 120 false (0, [some (.ref b), some (.int a0), none], [], 129, 17845, hp M) (some (.int r), 129, 17845, hp M') := by
  unfold F120 at h
  refine pe_blk mm_120 1 (s' := (1, [some (.ref b), some (.int a0), none], [.int a0], _, _, _)) rfl ?_
  by_cases q1 : a0 < 0
  · rw [if_pos q1] at h
    refine pe_blk mm_120 1 (s' := (if a0 < 0 then 14 else 4, [some (.ref b), some (.int a0), none], [], _, _, _)) rfl ?_
    rw [if_pos q1]
    exact J120_14_ev sc n b hb e he _ _ _ _ _ _ h
  · rw [if_neg q1] at h
    refine pe_blk mm_120 1 (s' := (if a0 < 0 then 14 else 4, [some (.ref b), some (.int a0), none], [], _, _, _)) rfl ?_
    rw [if_neg q1]
    refine pe_blk mm_120 4 (s' := (8, [some (.ref b), some (.int a0), none], [.ref b, .int (a0 + 1)], _, _, _)) rfl ?_
    refine pe_get mm_120 rfl rfl (isD_0 hb _) (by have := isD_lt hb; omega) rfl ?_
    by_cases q2 : (a0 + 1) < (M.1 b 6)
    · rw [if_pos q2] at h
      refine pe_blk mm_120 1 (s' := (if (a0 + 1) < (M.1 b 6) then 16 else 14, [some (.ref b), some (.int a0), none], [], _, _, _)) rfl ?_
      rw [if_pos q2]
      refine pe_blk mm_120 1 (s' := (17, [some (.ref b), some (.int a0), none], [.ref b], _, _, _)) rfl ?_
      refine pe_get mm_120 rfl rfl (isD_0 hb _) (by have := isD_lt hb; omega) rfl ?_
      refine pe_blk mm_120 3 (s' := (23, [some (.ref b), some (.int a0), none], [.int (a0 + 1), .ref (b + 2)], _, _, _)) rfl ?_
      by_cases q3 : (a0 + 1) < 0 ∨ 120 ≤ (a0 + 1 : Int32).toNatClampNeg
      · rw [if_pos q3] at h
        cases h
      · rw [if_neg q3] at h
        refine pe_iald (f := M.1 (b + 2)) mm_120 rfl (isD_2 hb _) (by have := isD_lt hb; omega) q3 ?_
        refine pe_blk mm_120 2 (s' := (26, [some (.ref b), some (.int a0), some (.int (M.1 (b + 2) (a0 + 1 : Int32).toNatClampNeg))], [.ref b], _, _, _)) rfl ?_
        refine pe_get mm_120 rfl rfl (isD_0 hb _) (by have := isD_lt hb; omega) rfl ?_
        refine pe_blk mm_120 1 (s' := (30, [some (.ref b), some (.int a0), some (.int (M.1 (b + 2) (a0 + 1 : Int32).toNatClampNeg))], [.int a0, .ref (b + 4)], _, _, _)) rfl ?_
        by_cases q4 : a0 < 0 ∨ 120 ≤ (a0 : Int32).toNatClampNeg
        · rw [if_pos q4] at h
          cases h
        · rw [if_neg q4] at h
          refine pe_iald (f := M.1 (b + 4)) mm_120 rfl (isD_4 hb _) (by have := isD_lt hb; omega) q4 ?_
          refine pe_blk mm_120 3 (s' := (34, [some (.ref b), some (.int a0), some (.int (M.1 (b + 2) (a0 + 1 : Int32).toNatClampNeg))], [.int ((M.1 (b + 2) (a0 + 1 : Int32).toNatClampNeg) + 2), .int (M.1 (b + 4) (a0 : Int32).toNatClampNeg)], _, _, _)) rfl ?_
          by_cases q5 : (M.1 (b + 4) (a0 : Int32).toNatClampNeg) = ((M.1 (b + 2) (a0 + 1 : Int32).toNatClampNeg) + 2)
          · rw [if_pos q5] at h
            refine pe_blk mm_120 1 (s' := (if (M.1 (b + 4) (a0 : Int32).toNatClampNeg) = ((M.1 (b + 2) (a0 + 1 : Int32).toNatClampNeg) + 2) then 37 else 43, [some (.ref b), some (.int a0), some (.int (M.1 (b + 2) (a0 + 1 : Int32).toNatClampNeg))], [], _, _, _)) rfl ?_
            rw [if_pos q5]
            refine pe_blk mm_120 4 (s' := (44, [some (.ref b), some (.int a0), some (.int (M.1 (b + 2) (a0 + 1 : Int32).toNatClampNeg))], [.int ((M.1 (b + 2) (a0 + 1 : Int32).toNatClampNeg) + 1)], _, _, _)) rfl ?_
            exact J120_44_ev sc n b hb e he ((M.1 (b + 2) (a0 + 1 : Int32).toNatClampNeg) + 1) _ _ _ _ _ _ h
          · rw [if_neg q5] at h
            refine pe_blk mm_120 1 (s' := (if (M.1 (b + 4) (a0 : Int32).toNatClampNeg) = ((M.1 (b + 2) (a0 + 1 : Int32).toNatClampNeg) + 2) then 37 else 43, [some (.ref b), some (.int a0), some (.int (M.1 (b + 2) (a0 + 1 : Int32).toNatClampNeg))], [], _, _, _)) rfl ?_
            rw [if_neg q5]
            refine pe_blk mm_120 1 (s' := (44, [some (.ref b), some (.int a0), some (.int (M.1 (b + 2) (a0 + 1 : Int32).toNatClampNeg))], [.int (-1)], _, _, _)) rfl ?_
            exact J120_44_ev sc n b hb e he (-1) _ _ _ _ _ _ h
    · rw [if_neg q2] at h
      refine pe_blk mm_120 1 (s' := (if (a0 + 1) < (M.1 b 6) then 16 else 14, [some (.ref b), some (.int a0), none], [], _, _, _)) rfl ?_
      rw [if_neg q2]
      exact J120_14_ev sc n b hb e he _ _ _ _ _ _ h
def J121_22 (n : Nat) (b : Nat) (s0 : Int32) (M : Mem) : Option (Int32 × Mem) :=
  some (s0, M)
set_option maxRecDepth 100000 in
set_option maxHeartbeats 4000000 in
theorem J121_22_ev (sc : Option (Nat × (Nat → Int32))) (n : Nat) (b : Nat) (hb : isD b) (e : Nat) (he : 1 ≤ e) : ∀ (s0 : Int32) (u0 : Option Value) (u1 : Option Value) (M : Mem) (r : Int32) (M' : Mem), J121_22 n b s0 M = some (r, M') → pm_ev pmT sc e 121 false (22, [u0, u1], [.int s0], 129, 17845, hp M) (some (.int r), 129, 17845, hp M') := by
  intro s0 u0 u1 M r M' h
  unfold J121_22 at h
  cases h
  exact pe_ret mm_121 rfl rfl
def J121_21 (n : Nat) (b : Nat) (M : Mem) : Option (Int32 × Mem) :=
  J121_22 n b (-1) M
set_option maxRecDepth 100000 in
set_option maxHeartbeats 4000000 in
theorem J121_21_ev (sc : Option (Nat × (Nat → Int32))) (n : Nat) (b : Nat) (hb : isD b) (e : Nat) (he : 1 ≤ e) : ∀ (u0 : Option Value) (u1 : Option Value) (M : Mem) (r : Int32) (M' : Mem), J121_21 n b  M = some (r, M') → pm_ev pmT sc e 121 false (21, [u0, u1], [], 129, 17845, hp M) (some (.int r), 129, 17845, hp M') := by
  intro u0 u1 M r M' h
  unfold J121_21 at h
  refine pe_blk mm_121 1 (s' := (22, [u0, u1], [.int (-1)], _, _, _)) rfl ?_
  exact J121_22_ev sc n b hb e he (-1) _ _ _ _ _ h
/-- ArmExpander$Definition.repetitionAround -/
def F121 (n : Nat) (b : Nat) (a0 : Int32) (M : Mem) : Option (Int32 × Mem) :=
  if a0 < 0 then (J121_21 n b M) else (if (M.1 b 6) ≤ a0 then (J121_21 n b M) else (if a0 < 0 ∨ 120 ≤ (a0 : Int32).toNatClampNeg then none else (J121_22 n b (M.1 (b + 3) (a0 : Int32).toNatClampNeg) M)))
set_option maxRecDepth 100000 in
set_option maxHeartbeats 4000000 in
theorem F121_ev (sc : Option (Nat × (Nat → Int32))) (n : Nat) (b : Nat) (a0 : Int32) (hb : isD b) (M : Mem) (e : Nat) (he : 1 ≤ e) (r : Int32) (M' : Mem) (h : F121 n b a0 M = some (r, M')) : pm_ev pmT sc e 121 false (0, [some (.ref b), some (.int a0)], [], 129, 17845, hp M) (some (.int r), 129, 17845, hp M') := by
  unfold F121 at h
  refine pe_blk mm_121 1 (s' := (1, [some (.ref b), some (.int a0)], [.int a0], _, _, _)) rfl ?_
  by_cases q1 : a0 < 0
  · rw [if_pos q1] at h
    refine pe_blk mm_121 1 (s' := (if a0 < 0 then 21 else 4, [some (.ref b), some (.int a0)], [], _, _, _)) rfl ?_
    rw [if_pos q1]
    exact J121_21_ev sc n b hb e he _ _ _ _ _ h
  · rw [if_neg q1] at h
    refine pe_blk mm_121 1 (s' := (if a0 < 0 then 21 else 4, [some (.ref b), some (.int a0)], [], _, _, _)) rfl ?_
    rw [if_neg q1]
    refine pe_blk mm_121 2 (s' := (6, [some (.ref b), some (.int a0)], [.ref b, .int a0], _, _, _)) rfl ?_
    refine pe_get mm_121 rfl rfl (isD_0 hb _) (by have := isD_lt hb; omega) rfl ?_
    by_cases q2 : (M.1 b 6) ≤ a0
    · rw [if_pos q2] at h
      refine pe_blk mm_121 1 (s' := (if (M.1 b 6) ≤ a0 then 21 else 12, [some (.ref b), some (.int a0)], [], _, _, _)) rfl ?_
      rw [if_pos q2]
      exact J121_21_ev sc n b hb e he _ _ _ _ _ h
    · rw [if_neg q2] at h
      refine pe_blk mm_121 1 (s' := (if (M.1 b 6) ≤ a0 then 21 else 12, [some (.ref b), some (.int a0)], [], _, _, _)) rfl ?_
      rw [if_neg q2]
      refine pe_blk mm_121 1 (s' := (13, [some (.ref b), some (.int a0)], [.ref b], _, _, _)) rfl ?_
      refine pe_get mm_121 rfl rfl (isD_0 hb _) (by have := isD_lt hb; omega) rfl ?_
      refine pe_blk mm_121 1 (s' := (17, [some (.ref b), some (.int a0)], [.int a0, .ref (b + 3)], _, _, _)) rfl ?_
      by_cases q3 : a0 < 0 ∨ 120 ≤ (a0 : Int32).toNatClampNeg
      · rw [if_pos q3] at h
        cases h
      · rw [if_neg q3] at h
        refine pe_iald (f := M.1 (b + 3)) mm_121 rfl (isD_3 hb _) (by have := isD_lt hb; omega) q3 ?_
        refine pe_blk mm_121 1 (s' := (22, [some (.ref b), some (.int a0)], [.int (M.1 (b + 3) (a0 : Int32).toNatClampNeg)], _, _, _)) rfl ?_
        exact J121_22_ev sc n b hb e he (M.1 (b + 3) (a0 : Int32).toNatClampNeg) _ _ _ _ _ h
def J122_29 (n : Nat) (b : Nat) (s0 : Int32) (M : Mem) : Option (Int32 × Mem) :=
  some (s0, M)
set_option maxRecDepth 100000 in
set_option maxHeartbeats 4000000 in
theorem J122_29_ev (sc : Option (Nat × (Nat → Int32))) (n : Nat) (b : Nat) (hb : isD b) (e : Nat) (he : 2 ≤ e) : ∀ (s0 : Int32) (u0 : Option Value) (u1 : Option Value) (u2 : Option Value) (M : Mem) (r : Int32) (M' : Mem), J122_29 n b s0 M = some (r, M') → pm_ev pmT sc e 122 false (29, [u0, u1, u2], [.int s0], 129, 17845, hp M) (some (.int r), 129, 17845, hp M') := by
  intro s0 u0 u1 u2 M r M' h
  unfold J122_29 at h
  cases h
  exact pe_ret mm_122 rfl rfl
/-- ArmExpander$Definition.repetitionsAround -/
def F122 (n : Nat) (b : Nat) (a0 : Int32) (M : Mem) : Option (Int32 × Mem) :=
  match F121 n b a0 M with | some (v1, M2) => (if v1 = (-1) then (J122_29 n b 0 M2) else (match F121 n b v1 M2 with | some (v5, M6) => (if v5 = (-1) then (J122_29 n b 1 M6) else (J122_29 n b 2 M6)) | none => none)) | none => none
set_option maxRecDepth 100000 in
set_option maxHeartbeats 4000000 in
theorem F122_ev (sc : Option (Nat × (Nat → Int32))) (n : Nat) (b : Nat) (a0 : Int32) (hb : isD b) (M : Mem) (e : Nat) (he : 2 ≤ e) (r : Int32) (M' : Mem) (h : F122 n b a0 M = some (r, M')) : pm_ev pmT sc e 122 false (0, [some (.ref b), some (.int a0), none], [], 129, 17845, hp M) (some (.int r), 129, 17845, hp M') := by
  unfold F122 at h
  refine pe_blk mm_122 2 (s' := (2, [some (.ref b), some (.int a0), none], [.int a0, .ref b], _, _, _)) rfl ?_
  obtain ⟨e1, rfl⟩ : ∃ e1, e = e1 + 1 := ⟨e - 1, by omega⟩
  cases hc3 : F121 n b a0 M with
  | none => rw [hc3] at h; cases h
  | some w =>
    obtain ⟨v1, M2⟩ := w
    rw [hc3] at h
    dsimp only at h
    refine pe_virt (al := [.int a0]) (a := b) (L0 := [some (.ref b), some (.int a0)]) (r1 := (some (.int v1), 129, 17845, hp M2)) mm_122 rfl rfl rfl mm_121 (isD_0 hb _) (by have := isD_lt hb; omega) (by decide) rfl (Nat.le_of_ble_eq_true rfl) (Nat.le_of_ble_eq_true rfl) rfl rfl (F121_ev sc n b a0 hb _ e1 (by omega) _ _ hc3) ?_
    show pm_ev _ _ _ _ _ (5, [some (.ref b), some (.int a0), none], [.int v1], _, _, _) _
    refine pe_blk mm_122 3 (s' := (8, [some (.ref b), some (.int a0), some (.int v1)], [.int (-1), .int v1], _, _, _)) rfl ?_
    by_cases q4 : v1 = (-1)
    · rw [if_pos q4] at h
      refine pe_blk mm_122 1 (s' := (if v1 = (-1) then 11 else 15, [some (.ref b), some (.int a0), some (.int v1)], [], _, _, _)) rfl ?_
      rw [if_pos q4]
      refine pe_blk mm_122 2 (s' := (29, [some (.ref b), some (.int a0), some (.int v1)], [.int 0], _, _, _)) rfl ?_
      exact J122_29_ev sc n b hb (e1 + 1) he 0 _ _ _ _ _ _ h
    · rw [if_neg q4] at h
      refine pe_blk mm_122 1 (s' := (if v1 = (-1) then 11 else 15, [some (.ref b), some (.int a0), some (.int v1)], [], _, _, _)) rfl ?_
      rw [if_neg q4]
      refine pe_blk mm_122 2 (s' := (17, [some (.ref b), some (.int a0), some (.int v1)], [.int v1, .ref b], _, _, _)) rfl ?_
      skip
      cases hc7 : F121 n b v1 M2 with
      | none => rw [hc7] at h; cases h
      | some w =>
        obtain ⟨v5, M6⟩ := w
        rw [hc7] at h
        dsimp only at h
        refine pe_virt (al := [.int v1]) (a := b) (L0 := [some (.ref b), some (.int v1)]) (r1 := (some (.int v5), 129, 17845, hp M6)) mm_122 rfl rfl rfl mm_121 (isD_0 hb _) (by have := isD_lt hb; omega) (by decide) rfl (Nat.le_of_ble_eq_true rfl) (Nat.le_of_ble_eq_true rfl) rfl rfl (F121_ev sc n b v1 hb _ e1 (by omega) _ _ hc7) ?_
        show pm_ev _ _ _ _ _ (20, [some (.ref b), some (.int a0), some (.int v1)], [.int v5], _, _, _) _
        refine pe_blk mm_122 1 (s' := (21, [some (.ref b), some (.int a0), some (.int v1)], [.int (-1), .int v5], _, _, _)) rfl ?_
        by_cases q8 : v5 = (-1)
        · rw [if_pos q8] at h
          refine pe_blk mm_122 1 (s' := (if v5 = (-1) then 24 else 28, [some (.ref b), some (.int a0), some (.int v1)], [], _, _, _)) rfl ?_
          rw [if_pos q8]
          refine pe_blk mm_122 2 (s' := (29, [some (.ref b), some (.int a0), some (.int v1)], [.int 1], _, _, _)) rfl ?_
          exact J122_29_ev sc n b hb (e1 + 1) he 1 _ _ _ _ _ _ h
        · rw [if_neg q8] at h
          refine pe_blk mm_122 1 (s' := (if v5 = (-1) then 24 else 28, [some (.ref b), some (.int a0), some (.int v1)], [], _, _, _)) rfl ?_
          rw [if_neg q8]
          refine pe_blk mm_122 1 (s' := (29, [some (.ref b), some (.int a0), some (.int v1)], [.int 2], _, _, _)) rfl ?_
          exact J122_29_ev sc n b hb (e1 + 1) he 2 _ _ _ _ _ _ h
def J123_22 (n : Nat) (b : Nat) (M : Mem) : Option (Int32 × Mem) :=
  some ((-1), M)
set_option maxRecDepth 100000 in
set_option maxHeartbeats 4000000 in
theorem J123_22_ev (sc : Option (Nat × (Nat → Int32))) (n : Nat) (b : Nat) (hb : isD b) (e : Nat) (he : 1 ≤ e) : ∀ (u0 : Option Value) (u1 : Option Value) (M : Mem) (r : Int32) (M' : Mem), J123_22 n b  M = some (r, M') → pm_ev pmT sc e 123 false (22, [u0, u1], [], 129, 17845, hp M) (some (.int r), 129, 17845, hp M') := by
  intro u0 u1 M r M' h
  unfold J123_22 at h
  refine pe_blk mm_123 1 (s' := (23, [u0, u1], [.int (-1)], _, _, _)) rfl ?_
  cases h
  exact pe_ret mm_123 rfl rfl
/-- ArmExpander$Definition.outerOrder -/
def F123 (n : Nat) (b : Nat) (a0 : Int32) (M : Mem) : Option (Int32 × Mem) :=
  if a0 < 0 then (J123_22 n b M) else (if (M.1 b 6) ≤ a0 then (J123_22 n b M) else (if a0 < 0 ∨ 120 ≤ (a0 : Int32).toNatClampNeg then none else (if (M.1 (b + 3) (a0 : Int32).toNatClampNeg) = (-1) then (if a0 < 0 ∨ 120 ≤ (a0 : Int32).toNatClampNeg then none else (some (M.1 (b + 5) (a0 : Int32).toNatClampNeg, M))) else (J123_22 n b M))))
set_option maxRecDepth 100000 in
set_option maxHeartbeats 4000000 in
theorem F123_ev (sc : Option (Nat × (Nat → Int32))) (n : Nat) (b : Nat) (a0 : Int32) (hb : isD b) (M : Mem) (e : Nat) (he : 1 ≤ e) (r : Int32) (M' : Mem) (h : F123 n b a0 M = some (r, M')) : pm_ev pmT sc e 123 false (0, [some (.ref b), some (.int a0)], [], 129, 17845, hp M) (some (.int r), 129, 17845, hp M') := by
  unfold F123 at h
  refine pe_blk mm_123 1 (s' := (1, [some (.ref b), some (.int a0)], [.int a0], _, _, _)) rfl ?_
  by_cases q1 : a0 < 0
  · rw [if_pos q1] at h
    refine pe_blk mm_123 1 (s' := (if a0 < 0 then 22 else 4, [some (.ref b), some (.int a0)], [], _, _, _)) rfl ?_
    rw [if_pos q1]
    exact J123_22_ev sc n b hb e he _ _ _ _ _ h
  · rw [if_neg q1] at h
    refine pe_blk mm_123 1 (s' := (if a0 < 0 then 22 else 4, [some (.ref b), some (.int a0)], [], _, _, _)) rfl ?_
    rw [if_neg q1]
    refine pe_blk mm_123 2 (s' := (6, [some (.ref b), some (.int a0)], [.ref b, .int a0], _, _, _)) rfl ?_
    refine pe_get mm_123 rfl rfl (isD_0 hb _) (by have := isD_lt hb; omega) rfl ?_
    by_cases q2 : (M.1 b 6) ≤ a0
    · rw [if_pos q2] at h
      refine pe_blk mm_123 1 (s' := (if (M.1 b 6) ≤ a0 then 22 else 12, [some (.ref b), some (.int a0)], [], _, _, _)) rfl ?_
      rw [if_pos q2]
      exact J123_22_ev sc n b hb e he _ _ _ _ _ h
    · rw [if_neg q2] at h
      refine pe_blk mm_123 1 (s' := (if (M.1 b 6) ≤ a0 then 22 else 12, [some (.ref b), some (.int a0)], [], _, _, _)) rfl ?_
      rw [if_neg q2]
      refine pe_blk mm_123 1 (s' := (13, [some (.ref b), some (.int a0)], [.ref b], _, _, _)) rfl ?_
      refine pe_get mm_123 rfl rfl (isD_0 hb _) (by have := isD_lt hb; omega) rfl ?_
      refine pe_blk mm_123 1 (s' := (17, [some (.ref b), some (.int a0)], [.int a0, .ref (b + 3)], _, _, _)) rfl ?_
      by_cases q3 : a0 < 0 ∨ 120 ≤ (a0 : Int32).toNatClampNeg
      · rw [if_pos q3] at h
        cases h
      · rw [if_neg q3] at h
        refine pe_iald (f := M.1 (b + 3)) mm_123 rfl (isD_3 hb _) (by have := isD_lt hb; omega) q3 ?_
        refine pe_blk mm_123 1 (s' := (19, [some (.ref b), some (.int a0)], [.int (-1), .int (M.1 (b + 3) (a0 : Int32).toNatClampNeg)], _, _, _)) rfl ?_
        by_cases q4 : (M.1 (b + 3) (a0 : Int32).toNatClampNeg) = (-1)
        · rw [if_pos q4] at h
          refine pe_blk mm_123 1 (s' := (if (M.1 (b + 3) (a0 : Int32).toNatClampNeg) = (-1) then 24 else 22, [some (.ref b), some (.int a0)], [], _, _, _)) rfl ?_
          rw [if_pos q4]
          refine pe_blk mm_123 1 (s' := (25, [some (.ref b), some (.int a0)], [.ref b], _, _, _)) rfl ?_
          refine pe_get mm_123 rfl rfl (isD_0 hb _) (by have := isD_lt hb; omega) rfl ?_
          refine pe_blk mm_123 1 (s' := (29, [some (.ref b), some (.int a0)], [.int a0, .ref (b + 5)], _, _, _)) rfl ?_
          by_cases q5 : a0 < 0 ∨ 120 ≤ (a0 : Int32).toNatClampNeg
          · rw [if_pos q5] at h
            cases h
          · rw [if_neg q5] at h
            refine pe_iald (f := M.1 (b + 5)) mm_123 rfl (isD_5 hb _) (by have := isD_lt hb; omega) q5 ?_
            cases h
            exact pe_ret mm_123 rfl rfl
        · rw [if_neg q4] at h
          refine pe_blk mm_123 1 (s' := (if (M.1 (b + 3) (a0 : Int32).toNatClampNeg) = (-1) then 24 else 22, [some (.ref b), some (.int a0)], [], _, _, _)) rfl ?_
          rw [if_neg q4]
          exact J123_22_ev sc n b hb e he _ _ _ _ _ h
def J124_21 (n : Nat) (b : Nat) (M : Mem) : Option (Int32 × Mem) :=
  some ((-1), M)
set_option maxRecDepth 100000 in
set_option maxHeartbeats 4000000 in
theorem J124_21_ev (sc : Option (Nat × (Nat → Int32))) (n : Nat) (b : Nat) (hb : isD b) (e : Nat) (he : 1 ≤ e) : ∀ (u0 : Option Value) (u1 : Option Value) (u2 : Option Value) (M : Mem) (r : Int32) (M' : Mem), J124_21 n b  M = some (r, M') → pm_ev pmT sc e 124 false (21, [u0, u1, u2], [], 129, 17845, hp M) (some (.int r), 129, 17845, hp M') := by
  intro u0 u1 u2 M r M' h
  unfold J124_21 at h
  refine pe_blk mm_124 1 (s' := (22, [u0, u1, u2], [.int (-1)], _, _, _)) rfl ?_
  cases h
  exact pe_ret mm_124 rfl rfl
def J124_59 (n : Nat) (b : Nat) (s0 : Int32) (M : Mem) : Option (Int32 × Mem) :=
  some (s0, M)
set_option maxRecDepth 100000 in
set_option maxHeartbeats 4000000 in
theorem J124_59_ev (sc : Option (Nat × (Nat → Int32))) (n : Nat) (b : Nat) (hb : isD b) (e : Nat) (he : 1 ≤ e) : ∀ (s0 : Int32) (u0 : Option Value) (u1 : Option Value) (u2 : Option Value) (M : Mem) (r : Int32) (M' : Mem), J124_59 n b s0 M = some (r, M') → pm_ev pmT sc e 124 false (59, [u0, u1, u2], [.int s0], 129, 17845, hp M) (some (.int r), 129, 17845, hp M') := by
  intro s0 u0 u1 u2 M r M' h
  unfold J124_59 at h
  cases h
  exact pe_ret mm_124 rfl rfl
/-- ArmExpander$Definition.orderAround -/
def F124 (n : Nat) (b : Nat) (a0 : Int32) (M : Mem) : Option (Int32 × Mem) :=
  if a0 < 0 then (J124_21 n b M) else (if (M.1 b 6) ≤ a0 then (J124_21 n b M) else (if a0 < 0 ∨ 120 ≤ (a0 : Int32).toNatClampNeg then none else (if 0 ≤ (M.1 (b + 3) (a0 : Int32).toNatClampNeg) then (if a0 < 0 ∨ 120 ≤ (a0 : Int32).toNatClampNeg then none else (if (M.1 (b + 3) (a0 : Int32).toNatClampNeg) < 0 ∨ 120 ≤ (M.1 (b + 3) (a0 : Int32).toNatClampNeg : Int32).toNatClampNeg then none else (if 0 ≤ (M.1 (b + 3) (M.1 (b + 3) (a0 : Int32).toNatClampNeg : Int32).toNatClampNeg) then (if (M.1 (b + 3) (a0 : Int32).toNatClampNeg) < 0 ∨ 120 ≤ (M.1 (b + 3) (a0 : Int32).toNatClampNeg : Int32).toNatClampNeg then none else (if (M.1 (b + 3) (M.1 (b + 3) (a0 : Int32).toNatClampNeg : Int32).toNatClampNeg) < 0 ∨ 120 ≤ (M.1 (b + 3) (M.1 (b + 3) (a0 : Int32).toNatClampNeg : Int32).toNatClampNeg : Int32).toNatClampNeg then none else (J124_59 n b (M.1 (b + 5) (M.1 (b + 3) (M.1 (b + 3) (a0 : Int32).toNatClampNeg : Int32).toNatClampNeg : Int32).toNatClampNeg) M))) else (if (M.1 (b + 3) (a0 : Int32).toNatClampNeg) < 0 ∨ 120 ≤ (M.1 (b + 3) (a0 : Int32).toNatClampNeg : Int32).toNatClampNeg then none else (J124_59 n b (M.1 (b + 5) (M.1 (b + 3) (a0 : Int32).toNatClampNeg : Int32).toNatClampNeg) M))))) else (J124_21 n b M))))
set_option maxRecDepth 100000 in
set_option maxHeartbeats 4000000 in
theorem F124_ev (sc : Option (Nat × (Nat → Int32))) (n : Nat) (b : Nat) (a0 : Int32) (hb : isD b) (M : Mem) (e : Nat) (he : 1 ≤ e) (r : Int32) (M' : Mem) (h : F124 n b a0 M = some (r, M')) : pm_ev pmT sc e 124 false (0, [some (.ref b), some (.int a0), none], [], 129, 17845, hp M) (some (.int r), 129, 17845, hp M') := by
  unfold F124 at h
  refine pe_blk mm_124 1 (s' := (1, [some (.ref b), some (.int a0), none], [.int a0], _, _, _)) rfl ?_
  by_cases q1 : a0 < 0
  · rw [if_pos q1] at h
    refine pe_blk mm_124 1 (s' := (if a0 < 0 then 21 else 4, [some (.ref b), some (.int a0), none], [], _, _, _)) rfl ?_
    rw [if_pos q1]
    exact J124_21_ev sc n b hb e he _ _ _ _ _ _ h
  · rw [if_neg q1] at h
    refine pe_blk mm_124 1 (s' := (if a0 < 0 then 21 else 4, [some (.ref b), some (.int a0), none], [], _, _, _)) rfl ?_
    rw [if_neg q1]
    refine pe_blk mm_124 2 (s' := (6, [some (.ref b), some (.int a0), none], [.ref b, .int a0], _, _, _)) rfl ?_
    refine pe_get mm_124 rfl rfl (isD_0 hb _) (by have := isD_lt hb; omega) rfl ?_
    by_cases q2 : (M.1 b 6) ≤ a0
    · rw [if_pos q2] at h
      refine pe_blk mm_124 1 (s' := (if (M.1 b 6) ≤ a0 then 21 else 12, [some (.ref b), some (.int a0), none], [], _, _, _)) rfl ?_
      rw [if_pos q2]
      exact J124_21_ev sc n b hb e he _ _ _ _ _ _ h
    · rw [if_neg q2] at h
      refine pe_blk mm_124 1 (s' := (if (M.1 b 6) ≤ a0 then 21 else 12, [some (.ref b), some (.int a0), none], [], _, _, _)) rfl ?_
      rw [if_neg q2]
      refine pe_blk mm_124 1 (s' := (13, [some (.ref b), some (.int a0), none], [.ref b], _, _, _)) rfl ?_
      refine pe_get mm_124 rfl rfl (isD_0 hb _) (by have := isD_lt hb; omega) rfl ?_
      refine pe_blk mm_124 1 (s' := (17, [some (.ref b), some (.int a0), none], [.int a0, .ref (b + 3)], _, _, _)) rfl ?_
      by_cases q3 : a0 < 0 ∨ 120 ≤ (a0 : Int32).toNatClampNeg
      · rw [if_pos q3] at h
        cases h
      · rw [if_neg q3] at h
        refine pe_iald (f := M.1 (b + 3)) mm_124 rfl (isD_3 hb _) (by have := isD_lt hb; omega) q3 ?_
        by_cases q4 : 0 ≤ (M.1 (b + 3) (a0 : Int32).toNatClampNeg)
        · rw [if_pos q4] at h
          refine pe_blk mm_124 1 (s' := (if 0 ≤ (M.1 (b + 3) (a0 : Int32).toNatClampNeg) then 23 else 21, [some (.ref b), some (.int a0), none], [], _, _, _)) rfl ?_
          rw [if_pos q4]
          refine pe_blk mm_124 1 (s' := (24, [some (.ref b), some (.int a0), none], [.ref b], _, _, _)) rfl ?_
          refine pe_get mm_124 rfl rfl (isD_0 hb _) (by have := isD_lt hb; omega) rfl ?_
          refine pe_blk mm_124 1 (s' := (28, [some (.ref b), some (.int a0), none], [.int a0, .ref (b + 3)], _, _, _)) rfl ?_
          by_cases q5 : a0 < 0 ∨ 120 ≤ (a0 : Int32).toNatClampNeg
          · rw [if_pos q5] at h
            cases h
          · rw [if_neg q5] at h
            refine pe_iald (f := M.1 (b + 3)) mm_124 rfl (isD_3 hb _) (by have := isD_lt hb; omega) q5 ?_
            refine pe_blk mm_124 2 (s' := (31, [some (.ref b), some (.int a0), some (.int (M.1 (b + 3) (a0 : Int32).toNatClampNeg))], [.ref b], _, _, _)) rfl ?_
            refine pe_get mm_124 rfl rfl (isD_0 hb _) (by have := isD_lt hb; omega) rfl ?_
            refine pe_blk mm_124 1 (s' := (35, [some (.ref b), some (.int a0), some (.int (M.1 (b + 3) (a0 : Int32).toNatClampNeg))], [.int (M.1 (b + 3) (a0 : Int32).toNatClampNeg), .ref (b + 3)], _, _, _)) rfl ?_
            by_cases q6 : (M.1 (b + 3) (a0 : Int32).toNatClampNeg) < 0 ∨ 120 ≤ (M.1 (b + 3) (a0 : Int32).toNatClampNeg : Int32).toNatClampNeg
            · rw [if_pos q6] at h
              cases h
            · rw [if_neg q6] at h
              refine pe_iald (f := M.1 (b + 3)) mm_124 rfl (isD_3 hb _) (by have := isD_lt hb; omega) q6 ?_
              by_cases q7 : 0 ≤ (M.1 (b + 3) (M.1 (b + 3) (a0 : Int32).toNatClampNeg : Int32).toNatClampNeg)
              · rw [if_pos q7] at h
                refine pe_blk mm_124 1 (s' := (if 0 ≤ (M.1 (b + 3) (M.1 (b + 3) (a0 : Int32).toNatClampNeg : Int32).toNatClampNeg) then 48 else 39, [some (.ref b), some (.int a0), some (.int (M.1 (b + 3) (a0 : Int32).toNatClampNeg))], [], _, _, _)) rfl ?_
                rw [if_pos q7]
                refine pe_blk mm_124 1 (s' := (49, [some (.ref b), some (.int a0), some (.int (M.1 (b + 3) (a0 : Int32).toNatClampNeg))], [.ref b], _, _, _)) rfl ?_
                refine pe_get mm_124 rfl rfl (isD_0 hb _) (by have := isD_lt hb; omega) rfl ?_
                refine pe_blk mm_124 1 (s' := (53, [some (.ref b), some (.int a0), some (.int (M.1 (b + 3) (a0 : Int32).toNatClampNeg))], [.ref b, .ref (b + 5)], _, _, _)) rfl ?_
                refine pe_get mm_124 rfl rfl (isD_0 hb _) (by have := isD_lt hb; omega) rfl ?_
                refine pe_blk mm_124 1 (s' := (57, [some (.ref b), some (.int a0), some (.int (M.1 (b + 3) (a0 : Int32).toNatClampNeg))], [.int (M.1 (b + 3) (a0 : Int32).toNatClampNeg), .ref (b + 3), .ref (b + 5)], _, _, _)) rfl ?_
                by_cases q8 : (M.1 (b + 3) (a0 : Int32).toNatClampNeg) < 0 ∨ 120 ≤ (M.1 (b + 3) (a0 : Int32).toNatClampNeg : Int32).toNatClampNeg
                · rw [if_pos q8] at h
                  cases h
                · rw [if_neg q8] at h
                  refine pe_iald (f := M.1 (b + 3)) mm_124 rfl (isD_3 hb _) (by have := isD_lt hb; omega) q8 ?_
                  by_cases q9 : (M.1 (b + 3) (M.1 (b + 3) (a0 : Int32).toNatClampNeg : Int32).toNatClampNeg) < 0 ∨ 120 ≤ (M.1 (b + 3) (M.1 (b + 3) (a0 : Int32).toNatClampNeg : Int32).toNatClampNeg : Int32).toNatClampNeg
                  · rw [if_pos q9] at h
                    cases h
                  · rw [if_neg q9] at h
                    refine pe_iald (f := M.1 (b + 5)) mm_124 rfl (isD_5 hb _) (by have := isD_lt hb; omega) q9 ?_
                    exact J124_59_ev sc n b hb e he (M.1 (b + 5) (M.1 (b + 3) (M.1 (b + 3) (a0 : Int32).toNatClampNeg : Int32).toNatClampNeg : Int32).toNatClampNeg) _ _ _ _ _ _ h
              · rw [if_neg q7] at h
                refine pe_blk mm_124 1 (s' := (if 0 ≤ (M.1 (b + 3) (M.1 (b + 3) (a0 : Int32).toNatClampNeg : Int32).toNatClampNeg) then 48 else 39, [some (.ref b), some (.int a0), some (.int (M.1 (b + 3) (a0 : Int32).toNatClampNeg))], [], _, _, _)) rfl ?_
                rw [if_neg q7]
                refine pe_blk mm_124 1 (s' := (40, [some (.ref b), some (.int a0), some (.int (M.1 (b + 3) (a0 : Int32).toNatClampNeg))], [.ref b], _, _, _)) rfl ?_
                refine pe_get mm_124 rfl rfl (isD_0 hb _) (by have := isD_lt hb; omega) rfl ?_
                refine pe_blk mm_124 1 (s' := (44, [some (.ref b), some (.int a0), some (.int (M.1 (b + 3) (a0 : Int32).toNatClampNeg))], [.int (M.1 (b + 3) (a0 : Int32).toNatClampNeg), .ref (b + 5)], _, _, _)) rfl ?_
                by_cases q10 : (M.1 (b + 3) (a0 : Int32).toNatClampNeg) < 0 ∨ 120 ≤ (M.1 (b + 3) (a0 : Int32).toNatClampNeg : Int32).toNatClampNeg
                · rw [if_pos q10] at h
                  cases h
                · rw [if_neg q10] at h
                  refine pe_iald (f := M.1 (b + 5)) mm_124 rfl (isD_5 hb _) (by have := isD_lt hb; omega) q10 ?_
                  refine pe_blk mm_124 1 (s' := (59, [some (.ref b), some (.int a0), some (.int (M.1 (b + 3) (a0 : Int32).toNatClampNeg))], [.int (M.1 (b + 5) (M.1 (b + 3) (a0 : Int32).toNatClampNeg : Int32).toNatClampNeg)], _, _, _)) rfl ?_
                  exact J124_59_ev sc n b hb e he (M.1 (b + 5) (M.1 (b + 3) (a0 : Int32).toNatClampNeg : Int32).toNatClampNeg) _ _ _ _ _ _ h
        · rw [if_neg q4] at h
          refine pe_blk mm_124 1 (s' := (if 0 ≤ (M.1 (b + 3) (a0 : Int32).toNatClampNeg) then 23 else 21, [some (.ref b), some (.int a0), none], [], _, _, _)) rfl ?_
          rw [if_neg q4]
          exact J124_21_ev sc n b hb e he _ _ _ _ _ _ h
def J125_12 (n : Nat) (b : Nat) (M : Mem) : Option (Int32 × Mem) :=
  some ((-1), M)
set_option maxRecDepth 100000 in
set_option maxHeartbeats 4000000 in
theorem J125_12_ev (sc : Option (Nat × (Nat → Int32))) (n : Nat) (b : Nat) (hb : isD b) (e : Nat) (he : 1 ≤ e) : ∀ (u0 : Option Value) (u1 : Option Value) (u2 : Option Value) (u3 : Option Value) (u4 : Option Value) (M : Mem) (r : Int32) (M' : Mem), J125_12 n b  M = some (r, M') → pm_ev pmT sc e 125 false (12, [u0, u1, u2, u3, u4], [], 129, 17845, hp M) (some (.int r), 129, 17845, hp M') := by
  intro u0 u1 u2 u3 u4 M r M' h
  unfold J125_12 at h
  refine pe_blk mm_125 1 (s' := (13, [u0, u1, u2, u3, u4], [.int (-1)], _, _, _)) rfl ?_
  cases h
  exact pe_ret mm_125 rfl rfl
def J125_85 (n : Nat) (b : Nat) (M : Mem) : Option (Int32 × Mem) :=
  some ((-1), M)
set_option maxRecDepth 100000 in
set_option maxHeartbeats 4000000 in
theorem J125_85_ev (sc : Option (Nat × (Nat → Int32))) (n : Nat) (b : Nat) (hb : isD b) (e : Nat) (he : 1 ≤ e) : ∀ (u0 : Option Value) (u1 : Option Value) (u2 : Option Value) (u3 : Option Value) (u4 : Option Value) (M : Mem) (r : Int32) (M' : Mem), J125_85 n b  M = some (r, M') → pm_ev pmT sc e 125 false (85, [u0, u1, u2, u3, u4], [], 129, 17845, hp M) (some (.int r), 129, 17845, hp M') := by
  intro u0 u1 u2 u3 u4 M r M' h
  unfold J125_85 at h
  refine pe_blk mm_125 1 (s' := (86, [u0, u1, u2, u3, u4], [.int (-1)], _, _, _)) rfl ?_
  cases h
  exact pe_ret mm_125 rfl rfl
def J125_79 (n : Nat) (b : Nat) (rec34 : Int32 → Int32 → Int32 → Mem → Option (Int32 × Mem)) (x2 : Int32) (x3 : Int32) (x4 : Int32) (M : Mem) : Option (Int32 × Mem) :=
  rec34 x2 x3 (x4 + 1) M
set_option maxRecDepth 100000 in
set_option maxHeartbeats 4000000 in
theorem J125_79_ev (sc : Option (Nat × (Nat → Int32))) (n : Nat) (b : Nat) (hb : isD b) (e : Nat) (he : 1 ≤ e) (rec34 : Int32 → Int32 → Int32 → Mem → Option (Int32 × Mem)) (hr34 : ∀ (x2 : Int32) (x3 : Int32) (x4 : Int32) (u1 : Option Value) (M : Mem) (r : Int32) (M' : Mem), rec34 x2 x3 x4 M = some (r, M') → pm_ev pmT sc e 125 false (34, [some (.ref b), u1, some (.int x2), some (.int x3), some (.int x4)], [], 129, 17845, hp M) (some (.int r), 129, 17845, hp M')) : ∀ (x2 : Int32) (x3 : Int32) (x4 : Int32) (u1 : Option Value) (M : Mem) (r : Int32) (M' : Mem), J125_79 n b rec34 x2 x3 x4 M = some (r, M') → pm_ev pmT sc e 125 false (79, [some (.ref b), u1, some (.int x2), some (.int x3), some (.int x4)], [], 129, 17845, hp M) (some (.int r), 129, 17845, hp M') := by
  intro x2 x3 x4 u1 M r M' h
  unfold J125_79 at h
  refine pe_blk mm_125 2 (s' := (34, [some (.ref b), u1, some (.int x2), some (.int x3), some (.int (x4 + 1))], [], _, _, _)) rfl ?_
  exact hr34 x2 x3 (x4 + 1) _ _ _ _ h
def L125_34 (n : Nat) (b : Nat) : Nat → Int32 → Int32 → Int32 → Mem → Option (Int32 × Mem)
  | 0, _, _, _, _ => none
  | k + 1, x2, x3, x4, M => if x3 ≤ x4 then (J125_85 n b M) else (if (M.1 b 6) ≤ (x4 + 1) then (J125_85 n b M) else (if x4 < 0 ∨ 120 ≤ (x4 : Int32).toNatClampNeg then none else (if (M.1 (b + 1) (x4 : Int32).toNatClampNeg) = 36 then (if (x4 + 1) < 0 ∨ 120 ≤ (x4 + 1 : Int32).toNatClampNeg then none else (if (M.1 (b + 1) (x4 + 1 : Int32).toNatClampNeg) = x2 then (some (x4, M)) else (J125_79 n b (L125_34 n b k) x2 x3 x4 M))) else (J125_79 n b (L125_34 n b k) x2 x3 x4 M))))
set_option maxRecDepth 100000 in
set_option maxHeartbeats 4000000 in
theorem L125_34_ev (sc : Option (Nat × (Nat → Int32))) (n : Nat) (b : Nat) (hb : isD b) (e : Nat) (he : 1 ≤ e) : ∀ k : Nat, ∀ (x2 : Int32) (x3 : Int32) (x4 : Int32) (u1 : Option Value) (M : Mem) (r : Int32) (M' : Mem), L125_34 n b k x2 x3 x4 M = some (r, M') → pm_ev pmT sc e 125 false (34, [some (.ref b), u1, some (.int x2), some (.int x3), some (.int x4)], [], 129, 17845, hp M) (some (.int r), 129, 17845, hp M') := by
  intro k
  induction k with
  | zero => intro x2 x3 x4 u1 M r M' h; cases h
  | succ k hr34 =>
    intro x2 x3 x4 u1 M r M' h
    rw [L125_34] at h
    refine pe_blk mm_125 2 (s' := (37, [some (.ref b), u1, some (.int x2), some (.int x3), some (.int x4)], [.int x3, .int x4], _, _, _)) rfl ?_
    by_cases q6 : x3 ≤ x4
    · rw [if_pos q6] at h
      refine pe_blk mm_125 1 (s' := (if x3 ≤ x4 then 85 else 40, [some (.ref b), u1, some (.int x2), some (.int x3), some (.int x4)], [], _, _, _)) rfl ?_
      rw [if_pos q6]
      exact J125_85_ev sc n b hb e he _ _ _ _ _ _ _ _ h
    · rw [if_neg q6] at h
      refine pe_blk mm_125 1 (s' := (if x3 ≤ x4 then 85 else 40, [some (.ref b), u1, some (.int x2), some (.int x3), some (.int x4)], [], _, _, _)) rfl ?_
      rw [if_neg q6]
      refine pe_blk mm_125 4 (s' := (45, [some (.ref b), u1, some (.int x2), some (.int x3), some (.int x4)], [.ref b, .int (x4 + 1)], _, _, _)) rfl ?_
      refine pe_get mm_125 rfl rfl (isD_0 hb _) (by have := isD_lt hb; omega) rfl ?_
      by_cases q7 : (M.1 b 6) ≤ (x4 + 1)
      · rw [if_pos q7] at h
        refine pe_blk mm_125 1 (s' := (if (M.1 b 6) ≤ (x4 + 1) then 85 else 51, [some (.ref b), u1, some (.int x2), some (.int x3), some (.int x4)], [], _, _, _)) rfl ?_
        rw [if_pos q7]
        exact J125_85_ev sc n b hb e he _ _ _ _ _ _ _ _ h
      · rw [if_neg q7] at h
        refine pe_blk mm_125 1 (s' := (if (M.1 b 6) ≤ (x4 + 1) then 85 else 51, [some (.ref b), u1, some (.int x2), some (.int x3), some (.int x4)], [], _, _, _)) rfl ?_
        rw [if_neg q7]
        refine pe_blk mm_125 1 (s' := (52, [some (.ref b), u1, some (.int x2), some (.int x3), some (.int x4)], [.ref b], _, _, _)) rfl ?_
        refine pe_get mm_125 rfl rfl (isD_0 hb _) (by have := isD_lt hb; omega) rfl ?_
        refine pe_blk mm_125 1 (s' := (57, [some (.ref b), u1, some (.int x2), some (.int x3), some (.int x4)], [.int x4, .ref (b + 1)], _, _, _)) rfl ?_
        by_cases q8 : x4 < 0 ∨ 120 ≤ (x4 : Int32).toNatClampNeg
        · rw [if_pos q8] at h
          cases h
        · rw [if_neg q8] at h
          refine pe_iald (f := M.1 (b + 1)) mm_125 rfl (isD_1 hb _) (by have := isD_lt hb; omega) q8 ?_
          refine pe_blk mm_125 1 (s' := (60, [some (.ref b), u1, some (.int x2), some (.int x3), some (.int x4)], [.int 36, .int (M.1 (b + 1) (x4 : Int32).toNatClampNeg)], _, _, _)) rfl ?_
          by_cases q9 : (M.1 (b + 1) (x4 : Int32).toNatClampNeg) = 36
          · rw [if_pos q9] at h
            refine pe_blk mm_125 1 (s' := (if (M.1 (b + 1) (x4 : Int32).toNatClampNeg) = 36 then 63 else 79, [some (.ref b), u1, some (.int x2), some (.int x3), some (.int x4)], [], _, _, _)) rfl ?_
            rw [if_pos q9]
            refine pe_blk mm_125 1 (s' := (64, [some (.ref b), u1, some (.int x2), some (.int x3), some (.int x4)], [.ref b], _, _, _)) rfl ?_
            refine pe_get mm_125 rfl rfl (isD_0 hb _) (by have := isD_lt hb; omega) rfl ?_
            refine pe_blk mm_125 3 (s' := (71, [some (.ref b), u1, some (.int x2), some (.int x3), some (.int x4)], [.int (x4 + 1), .ref (b + 1)], _, _, _)) rfl ?_
            by_cases q10 : (x4 + 1) < 0 ∨ 120 ≤ (x4 + 1 : Int32).toNatClampNeg
            · rw [if_pos q10] at h
              cases h
            · rw [if_neg q10] at h
              refine pe_iald (f := M.1 (b + 1)) mm_125 rfl (isD_1 hb _) (by have := isD_lt hb; omega) q10 ?_
              refine pe_blk mm_125 1 (s' := (73, [some (.ref b), u1, some (.int x2), some (.int x3), some (.int x4)], [.int x2, .int (M.1 (b + 1) (x4 + 1 : Int32).toNatClampNeg)], _, _, _)) rfl ?_
              by_cases q11 : (M.1 (b + 1) (x4 + 1 : Int32).toNatClampNeg) = x2
              · rw [if_pos q11] at h
                refine pe_blk mm_125 1 (s' := (if (M.1 (b + 1) (x4 + 1 : Int32).toNatClampNeg) = x2 then 76 else 79, [some (.ref b), u1, some (.int x2), some (.int x3), some (.int x4)], [], _, _, _)) rfl ?_
                rw [if_pos q11]
                refine pe_blk mm_125 1 (s' := (78, [some (.ref b), u1, some (.int x2), some (.int x3), some (.int x4)], [.int x4], _, _, _)) rfl ?_
                cases h
                exact pe_ret mm_125 rfl rfl
              · rw [if_neg q11] at h
                refine pe_blk mm_125 1 (s' := (if (M.1 (b + 1) (x4 + 1 : Int32).toNatClampNeg) = x2 then 76 else 79, [some (.ref b), u1, some (.int x2), some (.int x3), some (.int x4)], [], _, _, _)) rfl ?_
                rw [if_neg q11]
                exact J125_79_ev sc n b hb e he (L125_34 n b k) hr34 x2 x3 x4 _ _ _ _ h
          · rw [if_neg q9] at h
            refine pe_blk mm_125 1 (s' := (if (M.1 (b + 1) (x4 : Int32).toNatClampNeg) = 36 then 63 else 79, [some (.ref b), u1, some (.int x2), some (.int x3), some (.int x4)], [], _, _, _)) rfl ?_
            rw [if_neg q9]
            exact J125_79_ev sc n b hb e he (L125_34 n b k) hr34 x2 x3 x4 _ _ _ _ h
/-- ArmExpander$Definition.fragmentOf -/
def F125 (n : Nat) (b : Nat) (a0 : Int32) (a1 : Int32) (M : Mem) : Option (Int32 × Mem) :=
  if a0 < 0 then (J125_12 n b M) else (if a0 < (M.1 b 7) then (if a0 < 0 ∨ 3 ≤ (a0 : Int32).toNatClampNeg then none else (if (M.1 (b + 6) (a0 : Int32).toNatClampNeg) < 0 ∨ 120 ≤ (M.1 (b + 6) (a0 : Int32).toNatClampNeg : Int32).toNatClampNeg then none else (if a0 < 0 ∨ 3 ≤ (a0 : Int32).toNatClampNeg then none else (L125_34 n b n a1 (M.1 (b + 2) (M.1 (b + 6) (a0 : Int32).toNatClampNeg : Int32).toNatClampNeg) (M.1 (b + 6) (a0 : Int32).toNatClampNeg) M)))) else (J125_12 n b M))
set_option maxRecDepth 100000 in
set_option maxHeartbeats 4000000 in
theorem F125_ev (sc : Option (Nat × (Nat → Int32))) (n : Nat) (b : Nat) (a0 : Int32) (a1 : Int32) (hb : isD b) (M : Mem) (e : Nat) (he : 1 ≤ e) (r : Int32) (M' : Mem) (h : F125 n b a0 a1 M = some (r, M')) : pm_ev pmT sc e 125 false (0, [some (.ref b), some (.int a0), some (.int a1), none, none], [], 129, 17845, hp M) (some (.int r), 129, 17845, hp M') := by
  unfold F125 at h
  refine pe_blk mm_125 1 (s' := (1, [some (.ref b), some (.int a0), some (.int a1), none, none], [.int a0], _, _, _)) rfl ?_
  by_cases q1 : a0 < 0
  · rw [if_pos q1] at h
    refine pe_blk mm_125 1 (s' := (if a0 < 0 then 12 else 4, [some (.ref b), some (.int a0), some (.int a1), none, none], [], _, _, _)) rfl ?_
    rw [if_pos q1]
    exact J125_12_ev sc n b hb e he _ _ _ _ _ _ _ _ h
  · rw [if_neg q1] at h
    refine pe_blk mm_125 1 (s' := (if a0 < 0 then 12 else 4, [some (.ref b), some (.int a0), some (.int a1), none, none], [], _, _, _)) rfl ?_
    rw [if_neg q1]
    refine pe_blk mm_125 2 (s' := (6, [some (.ref b), some (.int a0), some (.int a1), none, none], [.ref b, .int a0], _, _, _)) rfl ?_
    refine pe_get mm_125 rfl rfl (isD_0 hb _) (by have := isD_lt hb; omega) rfl ?_
    by_cases q2 : a0 < (M.1 b 7)
    · rw [if_pos q2] at h
      refine pe_blk mm_125 1 (s' := (if a0 < (M.1 b 7) then 14 else 12, [some (.ref b), some (.int a0), some (.int a1), none, none], [], _, _, _)) rfl ?_
      rw [if_pos q2]
      refine pe_blk mm_125 1 (s' := (15, [some (.ref b), some (.int a0), some (.int a1), none, none], [.ref b], _, _, _)) rfl ?_
      refine pe_get mm_125 rfl rfl (isD_0 hb _) (by have := isD_lt hb; omega) rfl ?_
      refine pe_blk mm_125 1 (s' := (19, [some (.ref b), some (.int a0), some (.int a1), none, none], [.ref b, .ref (b + 2)], _, _, _)) rfl ?_
      refine pe_get mm_125 rfl rfl (isD_0 hb _) (by have := isD_lt hb; omega) rfl ?_
      refine pe_blk mm_125 1 (s' := (23, [some (.ref b), some (.int a0), some (.int a1), none, none], [.int a0, .ref (b + 6), .ref (b + 2)], _, _, _)) rfl ?_
      by_cases q3 : a0 < 0 ∨ 3 ≤ (a0 : Int32).toNatClampNeg
      · rw [if_pos q3] at h
        cases h
      · rw [if_neg q3] at h
        refine pe_iald (f := M.1 (b + 6)) mm_125 rfl (isD_6 hb _) (by have := isD_lt hb; omega) q3 ?_
        by_cases q4 : (M.1 (b + 6) (a0 : Int32).toNatClampNeg) < 0 ∨ 120 ≤ (M.1 (b + 6) (a0 : Int32).toNatClampNeg : Int32).toNatClampNeg
        · rw [if_pos q4] at h
          cases h
        · rw [if_neg q4] at h
          refine pe_iald (f := M.1 (b + 2)) mm_125 rfl (isD_2 hb _) (by have := isD_lt hb; omega) q4 ?_
          refine pe_blk mm_125 2 (s' := (27, [some (.ref b), some (.int a0), some (.int a1), some (.int (M.1 (b + 2) (M.1 (b + 6) (a0 : Int32).toNatClampNeg : Int32).toNatClampNeg)), none], [.ref b], _, _, _)) rfl ?_
          refine pe_get mm_125 rfl rfl (isD_0 hb _) (by have := isD_lt hb; omega) rfl ?_
          refine pe_blk mm_125 1 (s' := (31, [some (.ref b), some (.int a0), some (.int a1), some (.int (M.1 (b + 2) (M.1 (b + 6) (a0 : Int32).toNatClampNeg : Int32).toNatClampNeg)), none], [.int a0, .ref (b + 6)], _, _, _)) rfl ?_
          by_cases q5 : a0 < 0 ∨ 3 ≤ (a0 : Int32).toNatClampNeg
          · rw [if_pos q5] at h
            cases h
          · rw [if_neg q5] at h
            refine pe_iald (f := M.1 (b + 6)) mm_125 rfl (isD_6 hb _) (by have := isD_lt hb; omega) q5 ?_
            refine pe_blk mm_125 1 (s' := (34, [some (.ref b), some (.int a0), some (.int a1), some (.int (M.1 (b + 2) (M.1 (b + 6) (a0 : Int32).toNatClampNeg : Int32).toNatClampNeg)), some (.int (M.1 (b + 6) (a0 : Int32).toNatClampNeg))], [], _, _, _)) rfl ?_
            exact L125_34_ev sc n b hb e he n a1 (M.1 (b + 2) (M.1 (b + 6) (a0 : Int32).toNatClampNeg : Int32).toNatClampNeg) (M.1 (b + 6) (a0 : Int32).toNatClampNeg) _ _ _ _ h
    · rw [if_neg q2] at h
      refine pe_blk mm_125 1 (s' := (if a0 < (M.1 b 7) then 14 else 12, [some (.ref b), some (.int a0), some (.int a1), none, none], [], _, _, _)) rfl ?_
      rw [if_neg q2]
      exact J125_12_ev sc n b hb e he _ _ _ _ _ _ _ _ h
/-- ArmExpander$DefinitionReader.acceptsIf -/
def F129 (n : Nat) (a0 : Int32) (a1 : Int32) (M : Mem) : Option (Int32 × Mem) :=
  mlet (m_i M 3 2 a1) (fun M1 => if a0 = 0 ∨ a0 = 1 then some (a0, M1) else none)
set_option maxRecDepth 100000 in
set_option maxHeartbeats 4000000 in
theorem F129_ev (sc : Option (Nat × (Nat → Int32))) (n : Nat) (a0 : Int32) (a1 : Int32)  (M : Mem) (e : Nat) (he : 1 ≤ e) (r : Int32) (M' : Mem) (h : F129 n a0 a1 M = some (r, M')) : pm_ev pmT sc e 129 false (0, [some (.ref 3), some (.int a0), some (.int a1)], [], 129, 17845, hp M) (some (.int r), 129, 17845, hp M') := by
  unfold F129 at h
  refine pe_blk mm_129 2 (s' := (2, [some (.ref 3), some (.int a0), some (.int a1)], [.int a1, .ref 3], _, _, _)) rfl ?_
  refine pe_puti mm_129 rfl rfl rfl (by decide) (Nat.le_of_ble_eq_true rfl) rfl rfl ?_
  show pm_ev _ _ _ _ _ (5, [some (.ref 3), some (.int a0), some (.int a1)], [], _, _, hp (m_i M 3 2 a1)) _
  generalize m_i M 3 2 a1 = M1 at h ⊢
  rw [mlet] at h
  refine pe_blk mm_129 1 (s' := (6, [some (.ref 3), some (.int a0), some (.int a1)], [.int a0], _, _, _)) rfl ?_
  by_cases q2 : a0 = 0 ∨ a0 = 1
  · rw [if_pos q2] at h
    cases h
    exact pe_ret mm_129 rfl (if_pos q2)
  · rw [if_neg q2] at h
    cases h
/-- ArmExpander$Expander.done -/
def F137 (n : Nat) (M : Mem) : Option (Int32 × Mem) :=
  some (M.1 12 6, M)
set_option maxRecDepth 100000 in
set_option maxHeartbeats 4000000 in
theorem F137_ev (sc : Option (Nat × (Nat → Int32))) (n : Nat)  (M : Mem) (e : Nat) (he : 1 ≤ e) (r : Int32) (M' : Mem) (h : F137 n M = some (r, M')) : pm_ev pmT sc e 137 false (0, [some (.ref 12)], [], 129, 17845, hp M) (some (.int r), 129, 17845, hp M') := by
  unfold F137 at h
  refine pe_blk mm_137 1 (s' := (1, [some (.ref 12)], [.ref 12], _, _, _)) rfl ?_
  refine pe_get mm_137 rfl rfl rfl (by decide) rfl ?_
  cases h
  exact pe_ret mm_137 rfl rfl
def J138_25 (n : Nat) (s0 : Int32) (M : Mem) : Option (Int32 × Mem) :=
  some (s0, M)
set_option maxRecDepth 100000 in
set_option maxHeartbeats 4000000 in
theorem J138_25_ev (sc : Option (Nat × (Nat → Int32))) (n : Nat)  (e : Nat) (he : 1 ≤ e) : ∀ (s0 : Int32) (u0 : Option Value) (u1 : Option Value) (M : Mem) (r : Int32) (M' : Mem), J138_25 n s0 M = some (r, M') → pm_ev pmT sc e 138 false (25, [u0, u1], [.int s0], 129, 17845, hp M) (some (.int r), 129, 17845, hp M') := by
  intro s0 u0 u1 M r M' h
  unfold J138_25 at h
  cases h
  exact pe_ret mm_138 rfl rfl
def J138_24 (n : Nat) (M : Mem) : Option (Int32 × Mem) :=
  J138_25 n (-1) M
set_option maxRecDepth 100000 in
set_option maxHeartbeats 4000000 in
theorem J138_24_ev (sc : Option (Nat × (Nat → Int32))) (n : Nat)  (e : Nat) (he : 1 ≤ e) : ∀ (u0 : Option Value) (u1 : Option Value) (M : Mem) (r : Int32) (M' : Mem), J138_24 n  M = some (r, M') → pm_ev pmT sc e 138 false (24, [u0, u1], [], 129, 17845, hp M) (some (.int r), 129, 17845, hp M') := by
  intro u0 u1 M r M' h
  unfold J138_24 at h
  refine pe_blk mm_138 1 (s' := (25, [u0, u1], [.int (-1)], _, _, _)) rfl ?_
  exact J138_25_ev sc n e he (-1) _ _ _ _ _ h
/-- ArmExpander$Expander.armOf -/
def F138 (n : Nat) (a0 : Int32) (M : Mem) : Option (Int32 × Mem) :=
  if a0 < 1 then (J138_24 n M) else (if (M.1 12 6) < a0 then (J138_24 n M) else (if (a0 - 1) < 0 ∨ 10 ≤ (a0 - 1 : Int32).toNatClampNeg then none else (J138_25 n (M.1 33 (a0 - 1 : Int32).toNatClampNeg) M)))
set_option maxRecDepth 100000 in
set_option maxHeartbeats 4000000 in
theorem F138_ev (sc : Option (Nat × (Nat → Int32))) (n : Nat) (a0 : Int32)  (M : Mem) (e : Nat) (he : 1 ≤ e) (r : Int32) (M' : Mem) (h : F138 n a0 M = some (r, M')) : pm_ev pmT sc e 138 false (0, [some (.ref 12), some (.int a0)], [], 129, 17845, hp M) (some (.int r), 129, 17845, hp M') := by
  unfold F138 at h
  refine pe_blk mm_138 2 (s' := (2, [some (.ref 12), some (.int a0)], [.int 1, .int a0], _, _, _)) rfl ?_
  by_cases q1 : a0 < 1
  · rw [if_pos q1] at h
    refine pe_blk mm_138 1 (s' := (if a0 < 1 then 24 else 5, [some (.ref 12), some (.int a0)], [], _, _, _)) rfl ?_
    rw [if_pos q1]
    exact J138_24_ev sc n e he _ _ _ _ _ h
  · rw [if_neg q1] at h
    refine pe_blk mm_138 1 (s' := (if a0 < 1 then 24 else 5, [some (.ref 12), some (.int a0)], [], _, _, _)) rfl ?_
    rw [if_neg q1]
    refine pe_blk mm_138 2 (s' := (7, [some (.ref 12), some (.int a0)], [.ref 12, .int a0], _, _, _)) rfl ?_
    refine pe_get mm_138 rfl rfl rfl (by decide) rfl ?_
    by_cases q2 : (M.1 12 6) < a0
    · rw [if_pos q2] at h
      refine pe_blk mm_138 1 (s' := (if (M.1 12 6) < a0 then 24 else 13, [some (.ref 12), some (.int a0)], [], _, _, _)) rfl ?_
      rw [if_pos q2]
      exact J138_24_ev sc n e he _ _ _ _ _ h
    · rw [if_neg q2] at h
      refine pe_blk mm_138 1 (s' := (if (M.1 12 6) < a0 then 24 else 13, [some (.ref 12), some (.int a0)], [], _, _, _)) rfl ?_
      rw [if_neg q2]
      refine pe_blk mm_138 1 (s' := (14, [some (.ref 12), some (.int a0)], [.ref 12], _, _, _)) rfl ?_
      refine pe_get mm_138 rfl rfl rfl (by decide) rfl ?_
      refine pe_blk mm_138 3 (s' := (20, [some (.ref 12), some (.int a0)], [.int (a0 - 1), .ref 33], _, _, _)) rfl ?_
      by_cases q3 : (a0 - 1) < 0 ∨ 10 ≤ (a0 - 1 : Int32).toNatClampNeg
      · rw [if_pos q3] at h
        cases h
      · rw [if_neg q3] at h
        refine pe_iald (f := M.1 33) mm_138 rfl rfl (by decide) q3 ?_
        refine pe_blk mm_138 1 (s' := (25, [some (.ref 12), some (.int a0)], [.int (M.1 33 (a0 - 1 : Int32).toNatClampNeg)], _, _, _)) rfl ?_
        exact J138_25_ev sc n e he (M.1 33 (a0 - 1 : Int32).toNatClampNeg) _ _ _ _ _ h
/-- ArmExpander$Nesting.clear -/
def F160 (n : Nat) (b : Nat) (M : Mem) : Option (Unit × Mem) :=
  mlet (m_i M b 2 0) (fun M1 => some ((), M1))
set_option maxRecDepth 100000 in
set_option maxHeartbeats 4000000 in
theorem F160_ev (sc : Option (Nat × (Nat → Int32))) (n : Nat) (b : Nat) (hb : isN b) (M : Mem) (e : Nat) (he : 1 ≤ e) (r : Unit) (M' : Mem) (h : F160 n b M = some (r, M')) : pm_ev pmT sc e 160 false (0, [some (.ref b)], [], 129, 17845, hp M) (none, 129, 17845, hp M') := by
  unfold F160 at h
  refine pe_blk mm_160 2 (s' := (2, [some (.ref b)], [.int 0, .ref b], _, _, _)) rfl ?_
  refine pe_puti mm_160 rfl rfl (isN_0 hb _) (by have := isN_lt hb; omega) (Nat.le_of_ble_eq_true rfl) rfl ((isN_0 hb _).trans (by simp [m_i, upd])) ?_
  show pm_ev _ _ _ _ _ (5, [some (.ref b)], [], _, _, hp (m_i M b 2 0)) _
  generalize m_i M b 2 0 = M1 at h ⊢
  rw [mlet] at h
  cases h
  exact pe_ret mm_160 rfl rfl
def J161_12 (n : Nat) (b : Nat) (s0 : Int32) (M : Mem) : Option (Int32 × Mem) :=
  if s0 = 0 ∨ s0 = 1 then some (s0, M) else none
set_option maxRecDepth 100000 in
set_option maxHeartbeats 4000000 in
theorem J161_12_ev (sc : Option (Nat × (Nat → Int32))) (n : Nat) (b : Nat) (hb : isN b) (e : Nat) (he : 1 ≤ e) : ∀ (s0 : Int32) (u0 : Option Value) (M : Mem) (r : Int32) (M' : Mem), J161_12 n b s0 M = some (r, M') → pm_ev pmT sc e 161 false (12, [u0], [.int s0], 129, 17845, hp M) (some (.int r), 129, 17845, hp M') := by
  intro s0 u0 M r M' h
  unfold J161_12 at h
  by_cases q2 : s0 = 0 ∨ s0 = 1
  · rw [if_pos q2] at h
    cases h
    exact pe_ret mm_161 rfl (if_pos q2)
  · rw [if_neg q2] at h
    cases h
/-- ArmExpander$Nesting.isEmpty -/
def F161 (n : Nat) (b : Nat) (M : Mem) : Option (Int32 × Mem) :=
  if (M.1 b 2) = 0 then (J161_12 n b 1 M) else (J161_12 n b 0 M)
set_option maxRecDepth 100000 in
set_option maxHeartbeats 4000000 in
theorem F161_ev (sc : Option (Nat × (Nat → Int32))) (n : Nat) (b : Nat) (hb : isN b) (M : Mem) (e : Nat) (he : 1 ≤ e) (r : Int32) (M' : Mem) (h : F161 n b M = some (r, M')) : pm_ev pmT sc e 161 false (0, [some (.ref b)], [], 129, 17845, hp M) (some (.int r), 129, 17845, hp M') := by
  unfold F161 at h
  refine pe_blk mm_161 1 (s' := (1, [some (.ref b)], [.ref b], _, _, _)) rfl ?_
  refine pe_get mm_161 rfl rfl (isN_0 hb _) (by have := isN_lt hb; omega) rfl ?_
  by_cases q1 : (M.1 b 2) = 0
  · rw [if_pos q1] at h
    refine pe_blk mm_161 1 (s' := (if (M.1 b 2) = 0 then 7 else 11, [some (.ref b)], [], _, _, _)) rfl ?_
    rw [if_pos q1]
    refine pe_blk mm_161 2 (s' := (12, [some (.ref b)], [.int 1], _, _, _)) rfl ?_
    exact J161_12_ev sc n b hb e he 1 _ _ _ _ h
  · rw [if_neg q1] at h
    refine pe_blk mm_161 1 (s' := (if (M.1 b 2) = 0 then 7 else 11, [some (.ref b)], [], _, _, _)) rfl ?_
    rw [if_neg q1]
    refine pe_blk mm_161 1 (s' := (12, [some (.ref b)], [.int 0], _, _, _)) rfl ?_
    exact J161_12_ev sc n b hb e he 0 _ _ _ _ h
/-- ArmExpander$Nesting.open -/
def F162 (n : Nat) (b : Nat) (a0 : Int32) (a1 : Int32) (M : Mem) : Option (Int32 × Mem) :=
  if (M.1 b 2) < 10 then (if (M.1 b 2) < 0 ∨ 10 ≤ (M.1 b 2 : Int32).toNatClampNeg then none else (mlet (m_i M (b + 1) (M.1 b 2 : Int32).toNatClampNeg a0) (fun M3 => match F17 n a1 M3 with | some (v4, M5) => (if (M3.1 b 2) < 0 ∨ 10 ≤ (M3.1 b 2 : Int32).toNatClampNeg then none else (mlet (m_i M5 (b + 2) (M3.1 b 2 : Int32).toNatClampNeg v4) (fun M8 => mlet (m_i M8 b 2 ((M8.1 b 2) + 1)) (fun M9 => some (1, M9))))) | none => none))) else (some (0, M))
set_option maxRecDepth 100000 in
set_option maxHeartbeats 4000000 in
theorem F162_ev (sc : Option (Nat × (Nat → Int32))) (n : Nat) (b : Nat) (a0 : Int32) (a1 : Int32) (hb : isN b) (M : Mem) (e : Nat) (he : 2 ≤ e) (r : Int32) (M' : Mem) (h : F162 n b a0 a1 M = some (r, M')) : pm_ev pmT sc e 162 false (0, [some (.ref b), some (.int a0), some (.int a1)], [], 129, 17845, hp M) (some (.int r), 129, 17845, hp M') := by
  unfold F162 at h
  refine pe_blk mm_162 1 (s' := (1, [some (.ref b), some (.int a0), some (.int a1)], [.ref b], _, _, _)) rfl ?_
  refine pe_get mm_162 rfl rfl (isN_0 hb _) (by have := isN_lt hb; omega) rfl ?_
  refine pe_blk mm_162 1 (s' := (6, [some (.ref b), some (.int a0), some (.int a1)], [.int 10, .int (M.1 b 2)], _, _, _)) rfl ?_
  by_cases q1 : (M.1 b 2) < 10
  · rw [if_pos q1] at h
    refine pe_blk mm_162 1 (s' := (if (M.1 b 2) < 10 then 11 else 9, [some (.ref b), some (.int a0), some (.int a1)], [], _, _, _)) rfl ?_
    rw [if_pos q1]
    refine pe_blk mm_162 1 (s' := (12, [some (.ref b), some (.int a0), some (.int a1)], [.ref b], _, _, _)) rfl ?_
    refine pe_get mm_162 rfl rfl (isN_0 hb _) (by have := isN_lt hb; omega) rfl ?_
    refine pe_blk mm_162 1 (s' := (16, [some (.ref b), some (.int a0), some (.int a1)], [.ref b, .ref (b + 1)], _, _, _)) rfl ?_
    refine pe_get mm_162 rfl rfl (isN_0 hb _) (by have := isN_lt hb; omega) rfl ?_
    refine pe_blk mm_162 1 (s' := (20, [some (.ref b), some (.int a0), some (.int a1)], [.int a0, .int (M.1 b 2), .ref (b + 1)], _, _, _)) rfl ?_
    by_cases q2 : (M.1 b 2) < 0 ∨ 10 ≤ (M.1 b 2 : Int32).toNatClampNeg
    · rw [if_pos q2] at h
      cases h
    · rw [if_neg q2] at h
      refine pe_iasti mm_162 rfl (isN_1 hb _) (by have := isN_lt hb; omega) q2 ((isN_1 hb _).trans (by simp [m_i])) ?_
      show pm_ev _ _ _ _ _ (21, [some (.ref b), some (.int a0), some (.int a1)], [], _, _, hp (m_i M (b + 1) (M.1 b 2 : Int32).toNatClampNeg a0)) _
      generalize m_i M (b + 1) (M.1 b 2 : Int32).toNatClampNeg a0 = M3 at h ⊢
      rw [mlet] at h
      refine pe_blk mm_162 1 (s' := (22, [some (.ref b), some (.int a0), some (.int a1)], [.ref b], _, _, _)) rfl ?_
      refine pe_get mm_162 rfl rfl (isN_0 hb _) (by have := isN_lt hb; omega) rfl ?_
      refine pe_blk mm_162 1 (s' := (26, [some (.ref b), some (.int a0), some (.int a1)], [.ref b, .ref (b + 2)], _, _, _)) rfl ?_
      refine pe_get mm_162 rfl rfl (isN_0 hb _) (by have := isN_lt hb; omega) rfl ?_
      refine pe_blk mm_162 1 (s' := (30, [some (.ref b), some (.int a0), some (.int a1)], [.int a1, .int (M3.1 b 2), .ref (b + 2)], _, _, _)) rfl ?_
      obtain ⟨e1, rfl⟩ : ∃ e1, e = e1 + 1 := ⟨e - 1, by omega⟩
      cases hc6 : F17 n a1 M3 with
      | none => rw [hc6] at h; cases h
      | some w =>
        obtain ⟨v4, M5⟩ := w
        rw [hc6] at h
        dsimp only at h
        refine pe_stat (al := [.int a1]) (L0 := [some (.int a1)]) (r1 := (some (.int v4), 129, 17845, hp M5)) mm_162 rfl rfl rfl mm_17 rfl (Nat.le_of_ble_eq_true rfl) (Nat.le_of_ble_eq_true rfl) rfl rfl (F17_ev sc n a1 _ e1 (by omega) _ _ hc6) ?_
        show pm_ev _ _ _ _ _ (33, [some (.ref b), some (.int a0), some (.int a1)], [.int v4, .int (M3.1 b 2), .ref (b + 2)], _, _, _) _
        by_cases q7 : (M3.1 b 2) < 0 ∨ 10 ≤ (M3.1 b 2 : Int32).toNatClampNeg
        · rw [if_pos q7] at h
          cases h
        · rw [if_neg q7] at h
          refine pe_iasti mm_162 rfl (isN_2 hb _) (by have := isN_lt hb; omega) q7 ((isN_2 hb _).trans (by simp [m_i])) ?_
          show pm_ev _ _ _ _ _ (34, [some (.ref b), some (.int a0), some (.int a1)], [], _, _, hp (m_i M5 (b + 2) (M3.1 b 2 : Int32).toNatClampNeg v4)) _
          generalize m_i M5 (b + 2) (M3.1 b 2 : Int32).toNatClampNeg v4 = M8 at h ⊢
          rw [mlet] at h
          refine pe_blk mm_162 2 (s' := (36, [some (.ref b), some (.int a0), some (.int a1)], [.ref b, .ref b], _, _, _)) rfl ?_
          refine pe_get mm_162 rfl rfl (isN_0 hb _) (by have := isN_lt hb; omega) rfl ?_
          refine pe_blk mm_162 2 (s' := (41, [some (.ref b), some (.int a0), some (.int a1)], [.int ((M8.1 b 2) + 1), .ref b], _, _, _)) rfl ?_
          refine pe_puti mm_162 rfl rfl (isN_0 hb _) (by have := isN_lt hb; omega) (Nat.le_of_ble_eq_true rfl) rfl ((isN_0 hb _).trans (by simp [m_i, upd])) ?_
          show pm_ev _ _ _ _ _ (44, [some (.ref b), some (.int a0), some (.int a1)], [], _, _, hp (m_i M8 b 2 ((M8.1 b 2) + 1))) _
          generalize m_i M8 b 2 ((M8.1 b 2) + 1) = M9 at h ⊢
          rw [mlet] at h
          refine pe_blk mm_162 1 (s' := (45, [some (.ref b), some (.int a0), some (.int a1)], [.int 1], _, _, _)) rfl ?_
          cases h
          exact pe_ret mm_162 rfl rfl
  · rw [if_neg q1] at h
    refine pe_blk mm_162 1 (s' := (if (M.1 b 2) < 10 then 11 else 9, [some (.ref b), some (.int a0), some (.int a1)], [], _, _, _)) rfl ?_
    rw [if_neg q1]
    refine pe_blk mm_162 1 (s' := (10, [some (.ref b), some (.int a0), some (.int a1)], [.int 0], _, _, _)) rfl ?_
    cases h
    exact pe_ret mm_162 rfl rfl
def J163_22 (n : Nat) (b : Nat) (M : Mem) : Option (Int32 × Mem) :=
  some ((-1), M)
set_option maxRecDepth 100000 in
set_option maxHeartbeats 4000000 in
theorem J163_22_ev (sc : Option (Nat × (Nat → Int32))) (n : Nat) (b : Nat) (hb : isN b) (e : Nat) (he : 1 ≤ e) : ∀ (u0 : Option Value) (u1 : Option Value) (M : Mem) (r : Int32) (M' : Mem), J163_22 n b  M = some (r, M') → pm_ev pmT sc e 163 false (22, [u0, u1], [], 129, 17845, hp M) (some (.int r), 129, 17845, hp M') := by
  intro u0 u1 M r M' h
  unfold J163_22 at h
  refine pe_blk mm_163 1 (s' := (23, [u0, u1], [.int (-1)], _, _, _)) rfl ?_
  cases h
  exact pe_ret mm_163 rfl rfl
/-- ArmExpander$Nesting.close -/
def F163 (n : Nat) (b : Nat) (a0 : Int32) (M : Mem) : Option (Int32 × Mem) :=
  if (M.1 b 2) ≤ 0 then (J163_22 n b M) else (if ((M.1 b 2) - 1) < 0 ∨ 10 ≤ ((M.1 b 2) - 1 : Int32).toNatClampNeg then none else (if (M.1 (b + 2) ((M.1 b 2) - 1 : Int32).toNatClampNeg) = a0 then (mlet (m_i M b 2 ((M.1 b 2) - 1)) (fun M4 => if (M4.1 b 2) < 0 ∨ 10 ≤ (M4.1 b 2 : Int32).toNatClampNeg then none else (some (M4.1 (b + 1) (M4.1 b 2 : Int32).toNatClampNeg, M4)))) else (J163_22 n b M)))
set_option maxRecDepth 100000 in
set_option maxHeartbeats 4000000 in
theorem F163_ev (sc : Option (Nat × (Nat → Int32))) (n : Nat) (b : Nat) (a0 : Int32) (hb : isN b) (M : Mem) (e : Nat) (he : 1 ≤ e) (r : Int32) (M' : Mem) (h : F163 n b a0 M = some (r, M')) : pm_ev pmT sc e 163 false (0, [some (.ref b), some (.int a0)], [], 129, 17845, hp M) (some (.int r), 129, 17845, hp M') := by
  unfold F163 at h
  refine pe_blk mm_163 1 (s' := (1, [some (.ref b), some (.int a0)], [.ref b], _, _, _)) rfl ?_
  refine pe_get mm_163 rfl rfl (isN_0 hb _) (by have := isN_lt hb; omega) rfl ?_
  by_cases q1 : (M.1 b 2) ≤ 0
  · rw [if_pos q1] at h
    refine pe_blk mm_163 1 (s' := (if (M.1 b 2) ≤ 0 then 22 else 7, [some (.ref b), some (.int a0)], [], _, _, _)) rfl ?_
    rw [if_pos q1]
    exact J163_22_ev sc n b hb e he _ _ _ _ _ h
  · rw [if_neg q1] at h
    refine pe_blk mm_163 1 (s' := (if (M.1 b 2) ≤ 0 then 22 else 7, [some (.ref b), some (.int a0)], [], _, _, _)) rfl ?_
    rw [if_neg q1]
    refine pe_blk mm_163 1 (s' := (8, [some (.ref b), some (.int a0)], [.ref b], _, _, _)) rfl ?_
    refine pe_get mm_163 rfl rfl (isN_0 hb _) (by have := isN_lt hb; omega) rfl ?_
    refine pe_blk mm_163 1 (s' := (12, [some (.ref b), some (.int a0)], [.ref b, .ref (b + 2)], _, _, _)) rfl ?_
    refine pe_get mm_163 rfl rfl (isN_0 hb _) (by have := isN_lt hb; omega) rfl ?_
    refine pe_blk mm_163 2 (s' := (17, [some (.ref b), some (.int a0)], [.int ((M.1 b 2) - 1), .ref (b + 2)], _, _, _)) rfl ?_
    by_cases q2 : ((M.1 b 2) - 1) < 0 ∨ 10 ≤ ((M.1 b 2) - 1 : Int32).toNatClampNeg
    · rw [if_pos q2] at h
      cases h
    · rw [if_neg q2] at h
      refine pe_iald (f := M.1 (b + 2)) mm_163 rfl (isN_2 hb _) (by have := isN_lt hb; omega) q2 ?_
      refine pe_blk mm_163 1 (s' := (19, [some (.ref b), some (.int a0)], [.int a0, .int (M.1 (b + 2) ((M.1 b 2) - 1 : Int32).toNatClampNeg)], _, _, _)) rfl ?_
      by_cases q3 : (M.1 (b + 2) ((M.1 b 2) - 1 : Int32).toNatClampNeg) = a0
      · rw [if_pos q3] at h
        refine pe_blk mm_163 1 (s' := (if (M.1 (b + 2) ((M.1 b 2) - 1 : Int32).toNatClampNeg) = a0 then 24 else 22, [some (.ref b), some (.int a0)], [], _, _, _)) rfl ?_
        rw [if_pos q3]
        refine pe_blk mm_163 2 (s' := (26, [some (.ref b), some (.int a0)], [.ref b, .ref b], _, _, _)) rfl ?_
        refine pe_get mm_163 rfl rfl (isN_0 hb _) (by have := isN_lt hb; omega) rfl ?_
        refine pe_blk mm_163 2 (s' := (31, [some (.ref b), some (.int a0)], [.int ((M.1 b 2) - 1), .ref b], _, _, _)) rfl ?_
        refine pe_puti mm_163 rfl rfl (isN_0 hb _) (by have := isN_lt hb; omega) (Nat.le_of_ble_eq_true rfl) rfl ((isN_0 hb _).trans (by simp [m_i, upd])) ?_
        show pm_ev _ _ _ _ _ (34, [some (.ref b), some (.int a0)], [], _, _, hp (m_i M b 2 ((M.1 b 2) - 1))) _
        generalize m_i M b 2 ((M.1 b 2) - 1) = M4 at h ⊢
        rw [mlet] at h
        refine pe_blk mm_163 1 (s' := (35, [some (.ref b), some (.int a0)], [.ref b], _, _, _)) rfl ?_
        refine pe_get mm_163 rfl rfl (isN_0 hb _) (by have := isN_lt hb; omega) rfl ?_
        refine pe_blk mm_163 1 (s' := (39, [some (.ref b), some (.int a0)], [.ref b, .ref (b + 1)], _, _, _)) rfl ?_
        refine pe_get mm_163 rfl rfl (isN_0 hb _) (by have := isN_lt hb; omega) rfl ?_
        by_cases q5 : (M4.1 b 2) < 0 ∨ 10 ≤ (M4.1 b 2 : Int32).toNatClampNeg
        · rw [if_pos q5] at h
          cases h
        · rw [if_neg q5] at h
          refine pe_iald (f := M4.1 (b + 1)) mm_163 rfl (isN_1 hb _) (by have := isN_lt hb; omega) q5 ?_
          cases h
          exact pe_ret mm_163 rfl rfl
      · rw [if_neg q3] at h
        refine pe_blk mm_163 1 (s' := (if (M.1 (b + 2) ((M.1 b 2) - 1 : Int32).toNatClampNeg) = a0 then 24 else 22, [some (.ref b), some (.int a0)], [], _, _, _)) rfl ?_
        rw [if_neg q3]
        exact J163_22_ev sc n b hb e he _ _ _ _ _ h
/-- ArmExpander$Row.clear -/
def F165 (n : Nat) (b : Nat) (M : Mem) : Option (Unit × Mem) :=
  mlet (m_i M b 2 0) (fun M1 => mlet (m_i M1 b 3 0) (fun M2 => some ((), M2)))
set_option maxRecDepth 100000 in
set_option maxHeartbeats 4000000 in
theorem F165_ev (sc : Option (Nat × (Nat → Int32))) (n : Nat) (b : Nat) (hb : isR b) (M : Mem) (e : Nat) (he : 1 ≤ e) (r : Unit) (M' : Mem) (h : F165 n b M = some (r, M')) : pm_ev pmT sc e 165 false (0, [some (.ref b)], [], 129, 17845, hp M) (none, 129, 17845, hp M') := by
  unfold F165 at h
  refine pe_blk mm_165 2 (s' := (2, [some (.ref b)], [.int 0, .ref b], _, _, _)) rfl ?_
  refine pe_puti mm_165 rfl rfl (isR_0 hb _) (by have := isR_lt hb; omega) (Nat.le_of_ble_eq_true rfl) rfl ((isR_0 hb _).trans (by simp [m_i, upd])) ?_
  show pm_ev _ _ _ _ _ (5, [some (.ref b)], [], _, _, hp (m_i M b 2 0)) _
  generalize m_i M b 2 0 = M1 at h ⊢
  rw [mlet] at h
  refine pe_blk mm_165 2 (s' := (7, [some (.ref b)], [.int 0, .ref b], _, _, _)) rfl ?_
  refine pe_puti mm_165 rfl rfl (isR_0 hb _) (by have := isR_lt hb; omega) (Nat.le_of_ble_eq_true rfl) rfl ((isR_0 hb _).trans (by simp [m_i, upd])) ?_
  show pm_ev _ _ _ _ _ (10, [some (.ref b)], [], _, _, hp (m_i M1 b 3 0)) _
  generalize m_i M1 b 3 0 = M2 at h ⊢
  rw [mlet] at h
  cases h
  exact pe_ret mm_165 rfl rfl
/-- ArmExpander$Row.size -/
def F166 (n : Nat) (b : Nat) (M : Mem) : Option (Int32 × Mem) :=
  some (M.1 b 2, M)
set_option maxRecDepth 100000 in
set_option maxHeartbeats 4000000 in
theorem F166_ev (sc : Option (Nat × (Nat → Int32))) (n : Nat) (b : Nat) (hb : isR b) (M : Mem) (e : Nat) (he : 1 ≤ e) (r : Int32) (M' : Mem) (h : F166 n b M = some (r, M')) : pm_ev pmT sc e 166 false (0, [some (.ref b)], [], 129, 17845, hp M) (some (.int r), 129, 17845, hp M') := by
  unfold F166 at h
  refine pe_blk mm_166 1 (s' := (1, [some (.ref b)], [.ref b], _, _, _)) rfl ?_
  refine pe_get mm_166 rfl rfl (isR_0 hb _) (by have := isR_lt hb; omega) rfl ?_
  cases h
  exact pe_ret mm_166 rfl rfl
/-- ArmExpander$Row.isOverfull -/
def F167 (n : Nat) (b : Nat) (M : Mem) : Option (Int32 × Mem) :=
  if (M.1 b 3) = 0 ∨ (M.1 b 3) = 1 then some (M.1 b 3, M) else none
set_option maxRecDepth 100000 in
set_option maxHeartbeats 4000000 in
theorem F167_ev (sc : Option (Nat × (Nat → Int32))) (n : Nat) (b : Nat) (hb : isR b) (M : Mem) (e : Nat) (he : 1 ≤ e) (r : Int32) (M' : Mem) (h : F167 n b M = some (r, M')) : pm_ev pmT sc e 167 false (0, [some (.ref b)], [], 129, 17845, hp M) (some (.int r), 129, 17845, hp M') := by
  unfold F167 at h
  refine pe_blk mm_167 1 (s' := (1, [some (.ref b)], [.ref b], _, _, _)) rfl ?_
  refine pe_get mm_167 rfl rfl (isR_0 hb _) (by have := isR_lt hb; omega) rfl ?_
  by_cases q1 : (M.1 b 3) = 0 ∨ (M.1 b 3) = 1
  · rw [if_pos q1] at h
    cases h
    exact pe_ret mm_167 rfl (if_pos q1)
  · rw [if_neg q1] at h
    cases h
/-- ArmExpander$Row.add -/
def F168 (n : Nat) (b : Nat) (a0 : Int32) (a1 : Int32) (M : Mem) : Option (Unit × Mem) :=
  if (M.1 b 2) < 150 then (if (M.1 b 2) < 0 ∨ 150 ≤ (M.1 b 2 : Int32).toNatClampNeg then none else (mlet (m_i M (b + 1) (M.1 b 2 : Int32).toNatClampNeg a0) (fun M3 => if (M3.1 b 2) < 0 ∨ 150 ≤ (M3.1 b 2 : Int32).toNatClampNeg then none else (mlet (m_i M3 (b + 2) (M3.1 b 2 : Int32).toNatClampNeg a1) (fun M5 => mlet (m_i M5 b 2 ((M5.1 b 2) + 1)) (fun M6 => some ((), M6))))))) else (mlet (m_i M b 3 1) (fun M7 => some ((), M7)))
set_option maxRecDepth 100000 in
set_option maxHeartbeats 4000000 in
theorem F168_ev (sc : Option (Nat × (Nat → Int32))) (n : Nat) (b : Nat) (a0 : Int32) (a1 : Int32) (hb : isR b) (M : Mem) (e : Nat) (he : 1 ≤ e) (r : Unit) (M' : Mem) (h : F168 n b a0 a1 M = some (r, M')) : pm_ev pmT sc e 168 false (0, [some (.ref b), some (.int a0), some (.int a1)], [], 129, 17845, hp M) (none, 129, 17845, hp M') := by
  unfold F168 at h
  refine pe_blk mm_168 1 (s' := (1, [some (.ref b), some (.int a0), some (.int a1)], [.ref b], _, _, _)) rfl ?_
  refine pe_get mm_168 rfl rfl (isR_0 hb _) (by have := isR_lt hb; omega) rfl ?_
  refine pe_blk mm_168 1 (s' := (7, [some (.ref b), some (.int a0), some (.int a1)], [.int 150, .int (M.1 b 2)], _, _, _)) rfl ?_
  by_cases q1 : (M.1 b 2) < 150
  · rw [if_pos q1] at h
    refine pe_blk mm_168 1 (s' := (if (M.1 b 2) < 150 then 16 else 10, [some (.ref b), some (.int a0), some (.int a1)], [], _, _, _)) rfl ?_
    rw [if_pos q1]
    refine pe_blk mm_168 1 (s' := (17, [some (.ref b), some (.int a0), some (.int a1)], [.ref b], _, _, _)) rfl ?_
    refine pe_get mm_168 rfl rfl (isR_0 hb _) (by have := isR_lt hb; omega) rfl ?_
    refine pe_blk mm_168 1 (s' := (21, [some (.ref b), some (.int a0), some (.int a1)], [.ref b, .ref (b + 1)], _, _, _)) rfl ?_
    refine pe_get mm_168 rfl rfl (isR_0 hb _) (by have := isR_lt hb; omega) rfl ?_
    refine pe_blk mm_168 1 (s' := (25, [some (.ref b), some (.int a0), some (.int a1)], [.int a0, .int (M.1 b 2), .ref (b + 1)], _, _, _)) rfl ?_
    by_cases q2 : (M.1 b 2) < 0 ∨ 150 ≤ (M.1 b 2 : Int32).toNatClampNeg
    · rw [if_pos q2] at h
      cases h
    · rw [if_neg q2] at h
      refine pe_iasti mm_168 rfl (isR_1 hb _) (by have := isR_lt hb; omega) q2 ((isR_1 hb _).trans (by simp [m_i])) ?_
      show pm_ev _ _ _ _ _ (26, [some (.ref b), some (.int a0), some (.int a1)], [], _, _, hp (m_i M (b + 1) (M.1 b 2 : Int32).toNatClampNeg a0)) _
      generalize m_i M (b + 1) (M.1 b 2 : Int32).toNatClampNeg a0 = M3 at h ⊢
      rw [mlet] at h
      refine pe_blk mm_168 1 (s' := (27, [some (.ref b), some (.int a0), some (.int a1)], [.ref b], _, _, _)) rfl ?_
      refine pe_get mm_168 rfl rfl (isR_0 hb _) (by have := isR_lt hb; omega) rfl ?_
      refine pe_blk mm_168 1 (s' := (31, [some (.ref b), some (.int a0), some (.int a1)], [.ref b, .ref (b + 2)], _, _, _)) rfl ?_
      refine pe_get mm_168 rfl rfl (isR_0 hb _) (by have := isR_lt hb; omega) rfl ?_
      refine pe_blk mm_168 1 (s' := (35, [some (.ref b), some (.int a0), some (.int a1)], [.int a1, .int (M3.1 b 2), .ref (b + 2)], _, _, _)) rfl ?_
      by_cases q4 : (M3.1 b 2) < 0 ∨ 150 ≤ (M3.1 b 2 : Int32).toNatClampNeg
      · rw [if_pos q4] at h
        cases h
      · rw [if_neg q4] at h
        refine pe_iasti mm_168 rfl (isR_2 hb _) (by have := isR_lt hb; omega) q4 ((isR_2 hb _).trans (by simp [m_i])) ?_
        show pm_ev _ _ _ _ _ (36, [some (.ref b), some (.int a0), some (.int a1)], [], _, _, hp (m_i M3 (b + 2) (M3.1 b 2 : Int32).toNatClampNeg a1)) _
        generalize m_i M3 (b + 2) (M3.1 b 2 : Int32).toNatClampNeg a1 = M5 at h ⊢
        rw [mlet] at h
        refine pe_blk mm_168 2 (s' := (38, [some (.ref b), some (.int a0), some (.int a1)], [.ref b, .ref b], _, _, _)) rfl ?_
        refine pe_get mm_168 rfl rfl (isR_0 hb _) (by have := isR_lt hb; omega) rfl ?_
        refine pe_blk mm_168 2 (s' := (43, [some (.ref b), some (.int a0), some (.int a1)], [.int ((M5.1 b 2) + 1), .ref b], _, _, _)) rfl ?_
        refine pe_puti mm_168 rfl rfl (isR_0 hb _) (by have := isR_lt hb; omega) (Nat.le_of_ble_eq_true rfl) rfl ((isR_0 hb _).trans (by simp [m_i, upd])) ?_
        show pm_ev _ _ _ _ _ (46, [some (.ref b), some (.int a0), some (.int a1)], [], _, _, hp (m_i M5 b 2 ((M5.1 b 2) + 1))) _
        generalize m_i M5 b 2 ((M5.1 b 2) + 1) = M6 at h ⊢
        rw [mlet] at h
        cases h
        exact pe_ret mm_168 rfl rfl
  · rw [if_neg q1] at h
    refine pe_blk mm_168 1 (s' := (if (M.1 b 2) < 150 then 16 else 10, [some (.ref b), some (.int a0), some (.int a1)], [], _, _, _)) rfl ?_
    rw [if_neg q1]
    refine pe_blk mm_168 2 (s' := (12, [some (.ref b), some (.int a0), some (.int a1)], [.int 1, .ref b], _, _, _)) rfl ?_
    refine pe_puti mm_168 rfl rfl (isR_0 hb _) (by have := isR_lt hb; omega) (Nat.le_of_ble_eq_true rfl) rfl ((isR_0 hb _).trans (by simp [m_i, upd])) ?_
    show pm_ev _ _ _ _ _ (15, [some (.ref b), some (.int a0), some (.int a1)], [], _, _, hp (m_i M b 3 1)) _
    generalize m_i M b 3 1 = M7 at h ⊢
    rw [mlet] at h
    cases h
    exact pe_ret mm_168 rfl rfl
def J170_22 (n : Nat) (b : Nat) (s0 : Int32) (M : Mem) : Option (Int32 × Mem) :=
  some (s0, M)
set_option maxRecDepth 100000 in
set_option maxHeartbeats 4000000 in
theorem J170_22_ev (sc : Option (Nat × (Nat → Int32))) (n : Nat) (b : Nat) (hb : isR b) (e : Nat) (he : 1 ≤ e) : ∀ (s0 : Int32) (u0 : Option Value) (u1 : Option Value) (M : Mem) (r : Int32) (M' : Mem), J170_22 n b s0 M = some (r, M') → pm_ev pmT sc e 170 false (22, [u0, u1], [.int s0], 129, 17845, hp M) (some (.int r), 129, 17845, hp M') := by
  intro s0 u0 u1 M r M' h
  unfold J170_22 at h
  cases h
  exact pe_ret mm_170 rfl rfl
def J170_21 (n : Nat) (b : Nat) (M : Mem) : Option (Int32 × Mem) :=
  J170_22 n b (-1) M
set_option maxRecDepth 100000 in
set_option maxHeartbeats 4000000 in
theorem J170_21_ev (sc : Option (Nat × (Nat → Int32))) (n : Nat) (b : Nat) (hb : isR b) (e : Nat) (he : 1 ≤ e) : ∀ (u0 : Option Value) (u1 : Option Value) (M : Mem) (r : Int32) (M' : Mem), J170_21 n b  M = some (r, M') → pm_ev pmT sc e 170 false (21, [u0, u1], [], 129, 17845, hp M) (some (.int r), 129, 17845, hp M') := by
  intro u0 u1 M r M' h
  unfold J170_21 at h
  refine pe_blk mm_170 1 (s' := (22, [u0, u1], [.int (-1)], _, _, _)) rfl ?_
  exact J170_22_ev sc n b hb e he (-1) _ _ _ _ _ h
/-- ArmExpander$Row.codeAt -/
def F170 (n : Nat) (b : Nat) (a0 : Int32) (M : Mem) : Option (Int32 × Mem) :=
  if a0 < 0 then (J170_21 n b M) else (if (M.1 b 2) ≤ a0 then (J170_21 n b M) else (if a0 < 0 ∨ 150 ≤ (a0 : Int32).toNatClampNeg then none else (J170_22 n b (M.1 (b + 1) (a0 : Int32).toNatClampNeg) M)))
set_option maxRecDepth 100000 in
set_option maxHeartbeats 4000000 in
theorem F170_ev (sc : Option (Nat × (Nat → Int32))) (n : Nat) (b : Nat) (a0 : Int32) (hb : isR b) (M : Mem) (e : Nat) (he : 1 ≤ e) (r : Int32) (M' : Mem) (h : F170 n b a0 M = some (r, M')) : pm_ev pmT sc e 170 false (0, [some (.ref b), some (.int a0)], [], 129, 17845, hp M) (some (.int r), 129, 17845, hp M') := by
  unfold F170 at h
  refine pe_blk mm_170 1 (s' := (1, [some (.ref b), some (.int a0)], [.int a0], _, _, _)) rfl ?_
  by_cases q1 : a0 < 0
  · rw [if_pos q1] at h
    refine pe_blk mm_170 1 (s' := (if a0 < 0 then 21 else 4, [some (.ref b), some (.int a0)], [], _, _, _)) rfl ?_
    rw [if_pos q1]
    exact J170_21_ev sc n b hb e he _ _ _ _ _ h
  · rw [if_neg q1] at h
    refine pe_blk mm_170 1 (s' := (if a0 < 0 then 21 else 4, [some (.ref b), some (.int a0)], [], _, _, _)) rfl ?_
    rw [if_neg q1]
    refine pe_blk mm_170 2 (s' := (6, [some (.ref b), some (.int a0)], [.ref b, .int a0], _, _, _)) rfl ?_
    refine pe_get mm_170 rfl rfl (isR_0 hb _) (by have := isR_lt hb; omega) rfl ?_
    by_cases q2 : (M.1 b 2) ≤ a0
    · rw [if_pos q2] at h
      refine pe_blk mm_170 1 (s' := (if (M.1 b 2) ≤ a0 then 21 else 12, [some (.ref b), some (.int a0)], [], _, _, _)) rfl ?_
      rw [if_pos q2]
      exact J170_21_ev sc n b hb e he _ _ _ _ _ h
    · rw [if_neg q2] at h
      refine pe_blk mm_170 1 (s' := (if (M.1 b 2) ≤ a0 then 21 else 12, [some (.ref b), some (.int a0)], [], _, _, _)) rfl ?_
      rw [if_neg q2]
      refine pe_blk mm_170 1 (s' := (13, [some (.ref b), some (.int a0)], [.ref b], _, _, _)) rfl ?_
      refine pe_get mm_170 rfl rfl (isR_0 hb _) (by have := isR_lt hb; omega) rfl ?_
      refine pe_blk mm_170 1 (s' := (17, [some (.ref b), some (.int a0)], [.int a0, .ref (b + 1)], _, _, _)) rfl ?_
      by_cases q3 : a0 < 0 ∨ 150 ≤ (a0 : Int32).toNatClampNeg
      · rw [if_pos q3] at h
        cases h
      · rw [if_neg q3] at h
        refine pe_iald (f := M.1 (b + 1)) mm_170 rfl (isR_1 hb _) (by have := isR_lt hb; omega) q3 ?_
        refine pe_blk mm_170 1 (s' := (22, [some (.ref b), some (.int a0)], [.int (M.1 (b + 1) (a0 : Int32).toNatClampNeg)], _, _, _)) rfl ?_
        exact J170_22_ev sc n b hb e he (M.1 (b + 1) (a0 : Int32).toNatClampNeg) _ _ _ _ _ h
def J171_22 (n : Nat) (b : Nat) (s0 : Int32) (M : Mem) : Option (Int32 × Mem) :=
  some (s0, M)
set_option maxRecDepth 100000 in
set_option maxHeartbeats 4000000 in
theorem J171_22_ev (sc : Option (Nat × (Nat → Int32))) (n : Nat) (b : Nat) (hb : isR b) (e : Nat) (he : 1 ≤ e) : ∀ (s0 : Int32) (u0 : Option Value) (u1 : Option Value) (M : Mem) (r : Int32) (M' : Mem), J171_22 n b s0 M = some (r, M') → pm_ev pmT sc e 171 false (22, [u0, u1], [.int s0], 129, 17845, hp M) (some (.int r), 129, 17845, hp M') := by
  intro s0 u0 u1 M r M' h
  unfold J171_22 at h
  cases h
  exact pe_ret mm_171 rfl rfl
def J171_21 (n : Nat) (b : Nat) (M : Mem) : Option (Int32 × Mem) :=
  J171_22 n b (-1) M
set_option maxRecDepth 100000 in
set_option maxHeartbeats 4000000 in
theorem J171_21_ev (sc : Option (Nat × (Nat → Int32))) (n : Nat) (b : Nat) (hb : isR b) (e : Nat) (he : 1 ≤ e) : ∀ (u0 : Option Value) (u1 : Option Value) (M : Mem) (r : Int32) (M' : Mem), J171_21 n b  M = some (r, M') → pm_ev pmT sc e 171 false (21, [u0, u1], [], 129, 17845, hp M) (some (.int r), 129, 17845, hp M') := by
  intro u0 u1 M r M' h
  unfold J171_21 at h
  refine pe_blk mm_171 1 (s' := (22, [u0, u1], [.int (-1)], _, _, _)) rfl ?_
  exact J171_22_ev sc n b hb e he (-1) _ _ _ _ _ h
/-- ArmExpander$Row.originAt -/
def F171 (n : Nat) (b : Nat) (a0 : Int32) (M : Mem) : Option (Int32 × Mem) :=
  if a0 < 0 then (J171_21 n b M) else (if (M.1 b 2) ≤ a0 then (J171_21 n b M) else (if a0 < 0 ∨ 150 ≤ (a0 : Int32).toNatClampNeg then none else (J171_22 n b (M.1 (b + 2) (a0 : Int32).toNatClampNeg) M)))
set_option maxRecDepth 100000 in
set_option maxHeartbeats 4000000 in
theorem F171_ev (sc : Option (Nat × (Nat → Int32))) (n : Nat) (b : Nat) (a0 : Int32) (hb : isR b) (M : Mem) (e : Nat) (he : 1 ≤ e) (r : Int32) (M' : Mem) (h : F171 n b a0 M = some (r, M')) : pm_ev pmT sc e 171 false (0, [some (.ref b), some (.int a0)], [], 129, 17845, hp M) (some (.int r), 129, 17845, hp M') := by
  unfold F171 at h
  refine pe_blk mm_171 1 (s' := (1, [some (.ref b), some (.int a0)], [.int a0], _, _, _)) rfl ?_
  by_cases q1 : a0 < 0
  · rw [if_pos q1] at h
    refine pe_blk mm_171 1 (s' := (if a0 < 0 then 21 else 4, [some (.ref b), some (.int a0)], [], _, _, _)) rfl ?_
    rw [if_pos q1]
    exact J171_21_ev sc n b hb e he _ _ _ _ _ h
  · rw [if_neg q1] at h
    refine pe_blk mm_171 1 (s' := (if a0 < 0 then 21 else 4, [some (.ref b), some (.int a0)], [], _, _, _)) rfl ?_
    rw [if_neg q1]
    refine pe_blk mm_171 2 (s' := (6, [some (.ref b), some (.int a0)], [.ref b, .int a0], _, _, _)) rfl ?_
    refine pe_get mm_171 rfl rfl (isR_0 hb _) (by have := isR_lt hb; omega) rfl ?_
    by_cases q2 : (M.1 b 2) ≤ a0
    · rw [if_pos q2] at h
      refine pe_blk mm_171 1 (s' := (if (M.1 b 2) ≤ a0 then 21 else 12, [some (.ref b), some (.int a0)], [], _, _, _)) rfl ?_
      rw [if_pos q2]
      exact J171_21_ev sc n b hb e he _ _ _ _ _ h
    · rw [if_neg q2] at h
      refine pe_blk mm_171 1 (s' := (if (M.1 b 2) ≤ a0 then 21 else 12, [some (.ref b), some (.int a0)], [], _, _, _)) rfl ?_
      rw [if_neg q2]
      refine pe_blk mm_171 1 (s' := (13, [some (.ref b), some (.int a0)], [.ref b], _, _, _)) rfl ?_
      refine pe_get mm_171 rfl rfl (isR_0 hb _) (by have := isR_lt hb; omega) rfl ?_
      refine pe_blk mm_171 1 (s' := (17, [some (.ref b), some (.int a0)], [.int a0, .ref (b + 2)], _, _, _)) rfl ?_
      by_cases q3 : a0 < 0 ∨ 150 ≤ (a0 : Int32).toNatClampNeg
      · rw [if_pos q3] at h
        cases h
      · rw [if_neg q3] at h
        refine pe_iald (f := M.1 (b + 2)) mm_171 rfl (isR_2 hb _) (by have := isR_lt hb; omega) q3 ?_
        refine pe_blk mm_171 1 (s' := (22, [some (.ref b), some (.int a0)], [.int (M.1 (b + 2) (a0 : Int32).toNatClampNeg)], _, _, _)) rfl ?_
        exact J171_22_ev sc n b hb e he (M.1 (b + 2) (a0 : Int32).toNatClampNeg) _ _ _ _ _ h
def J172_55 (n : Nat) (b : Nat) (rec8 : Int32 → Int32 → Mem → Option (Int32 × Mem)) (x2 : Int32) (x3 : Int32) (M : Mem) : Option (Int32 × Mem) :=
  rec8 x2 (x3 + 1) M
set_option maxRecDepth 100000 in
set_option maxHeartbeats 4000000 in
theorem J172_55_ev (sc : Option (Nat × (Nat → Int32))) (n : Nat) (b : Nat) (hb : isR b) (e : Nat) (he : 2 ≤ e) (rec8 : Int32 → Int32 → Mem → Option (Int32 × Mem)) (hr8 : ∀ (x2 : Int32) (x3 : Int32) (u1 : Option Value) (M : Mem) (r : Int32) (M' : Mem), rec8 x2 x3 M = some (r, M') → pm_ev pmT sc e 172 false (8, [some (.ref b), u1, some (.int x2), some (.int x3)], [], 129, 17845, hp M) (some (.int r), 129, 17845, hp M')) : ∀ (x2 : Int32) (x3 : Int32) (u1 : Option Value) (M : Mem) (r : Int32) (M' : Mem), J172_55 n b rec8 x2 x3 M = some (r, M') → pm_ev pmT sc e 172 false (55, [some (.ref b), u1, some (.int x2), some (.int x3)], [], 129, 17845, hp M) (some (.int r), 129, 17845, hp M') := by
  intro x2 x3 u1 M r M' h
  unfold J172_55 at h
  refine pe_blk mm_172 2 (s' := (8, [some (.ref b), u1, some (.int x2), some (.int (x3 + 1))], [], _, _, _)) rfl ?_
  exact hr8 x2 (x3 + 1) _ _ _ _ h
def L172_8 (n : Nat) (b : Nat) : Nat → Int32 → Int32 → Mem → Option (Int32 × Mem)
  | 0, _, _, _ => none
  | k + 1, x2, x3, M => if (M.1 b 2) ≤ x3 then (some (M.1 b 2, M)) else (if x3 < 0 ∨ 150 ≤ (x3 : Int32).toNatClampNeg then none else (match F13 n (M.1 (b + 1) (x3 : Int32).toNatClampNeg) M with | some (v3, M4) => (if v3 = 0 then (if x3 < 0 ∨ 150 ≤ (x3 : Int32).toNatClampNeg then none else (match F14 n (M4.1 (b + 1) (x3 : Int32).toNatClampNeg) M4 with | some (v8, M9) => (if v8 = 0 then (J172_55 n b (L172_8 n b k) x2 x3 M9) else (if (x2 + (-1)) = 0 then (some (x3, M9)) else (J172_55 n b (L172_8 n b k) (x2 + (-1)) x3 M9))) | none => none)) else (J172_55 n b (L172_8 n b k) (x2 + 1) x3 M4)) | none => none))
set_option maxRecDepth 100000 in
set_option maxHeartbeats 4000000 in
theorem L172_8_ev (sc : Option (Nat × (Nat → Int32))) (n : Nat) (b : Nat) (hb : isR b) (e : Nat) (he : 2 ≤ e) : ∀ k : Nat, ∀ (x2 : Int32) (x3 : Int32) (u1 : Option Value) (M : Mem) (r : Int32) (M' : Mem), L172_8 n b k x2 x3 M = some (r, M') → pm_ev pmT sc e 172 false (8, [some (.ref b), u1, some (.int x2), some (.int x3)], [], 129, 17845, hp M) (some (.int r), 129, 17845, hp M') := by
  intro k
  induction k with
  | zero => intro x2 x3 u1 M r M' h; cases h
  | succ k hr8 =>
    intro x2 x3 u1 M r M' h
    rw [L172_8] at h
    refine pe_blk mm_172 2 (s' := (10, [some (.ref b), u1, some (.int x2), some (.int x3)], [.ref b, .int x3], _, _, _)) rfl ?_
    refine pe_get mm_172 rfl rfl (isR_0 hb _) (by have := isR_lt hb; omega) rfl ?_
    by_cases q1 : (M.1 b 2) ≤ x3
    · rw [if_pos q1] at h
      refine pe_blk mm_172 1 (s' := (if (M.1 b 2) ≤ x3 then 61 else 16, [some (.ref b), u1, some (.int x2), some (.int x3)], [], _, _, _)) rfl ?_
      rw [if_pos q1]
      refine pe_blk mm_172 1 (s' := (62, [some (.ref b), u1, some (.int x2), some (.int x3)], [.ref b], _, _, _)) rfl ?_
      refine pe_get mm_172 rfl rfl (isR_0 hb _) (by have := isR_lt hb; omega) rfl ?_
      cases h
      exact pe_ret mm_172 rfl rfl
    · rw [if_neg q1] at h
      refine pe_blk mm_172 1 (s' := (if (M.1 b 2) ≤ x3 then 61 else 16, [some (.ref b), u1, some (.int x2), some (.int x3)], [], _, _, _)) rfl ?_
      rw [if_neg q1]
      refine pe_blk mm_172 1 (s' := (17, [some (.ref b), u1, some (.int x2), some (.int x3)], [.ref b], _, _, _)) rfl ?_
      refine pe_get mm_172 rfl rfl (isR_0 hb _) (by have := isR_lt hb; omega) rfl ?_
      refine pe_blk mm_172 1 (s' := (21, [some (.ref b), u1, some (.int x2), some (.int x3)], [.int x3, .ref (b + 1)], _, _, _)) rfl ?_
      by_cases q2 : x3 < 0 ∨ 150 ≤ (x3 : Int32).toNatClampNeg
      · rw [if_pos q2] at h
        cases h
      · rw [if_neg q2] at h
        refine pe_iald (f := M.1 (b + 1)) mm_172 rfl (isR_1 hb _) (by have := isR_lt hb; omega) q2 ?_
        obtain ⟨e1, rfl⟩ : ∃ e1, e = e1 + 1 := ⟨e - 1, by omega⟩
        cases hc5 : F13 n (M.1 (b + 1) (x3 : Int32).toNatClampNeg) M with
        | none => rw [hc5] at h; cases h
        | some w =>
          obtain ⟨v3, M4⟩ := w
          rw [hc5] at h
          dsimp only at h
          refine pe_stat (al := [.int (M.1 (b + 1) (x3 : Int32).toNatClampNeg)]) (L0 := [some (.int (M.1 (b + 1) (x3 : Int32).toNatClampNeg))]) (r1 := (some (.int v3), 129, 17845, hp M4)) mm_172 rfl rfl rfl mm_13 rfl (Nat.le_of_ble_eq_true rfl) (Nat.le_of_ble_eq_true rfl) rfl rfl (F13_ev sc n (M.1 (b + 1) (x3 : Int32).toNatClampNeg) _ e1 (by omega) _ _ hc5) ?_
          show pm_ev _ _ _ _ _ (25, [some (.ref b), u1, some (.int x2), some (.int x3)], [.int v3], _, _, _) _
          by_cases q6 : v3 = 0
          · rw [if_pos q6] at h
            refine pe_blk mm_172 1 (s' := (if v3 = 0 then 34 else 28, [some (.ref b), u1, some (.int x2), some (.int x3)], [], _, _, _)) rfl ?_
            rw [if_pos q6]
            refine pe_blk mm_172 1 (s' := (35, [some (.ref b), u1, some (.int x2), some (.int x3)], [.ref b], _, _, _)) rfl ?_
            refine pe_get mm_172 rfl rfl (isR_0 hb _) (by have := isR_lt hb; omega) rfl ?_
            refine pe_blk mm_172 1 (s' := (39, [some (.ref b), u1, some (.int x2), some (.int x3)], [.int x3, .ref (b + 1)], _, _, _)) rfl ?_
            by_cases q7 : x3 < 0 ∨ 150 ≤ (x3 : Int32).toNatClampNeg
            · rw [if_pos q7] at h
              cases h
            · rw [if_neg q7] at h
              refine pe_iald (f := M4.1 (b + 1)) mm_172 rfl (isR_1 hb _) (by have := isR_lt hb; omega) q7 ?_
              skip
              cases hc10 : F14 n (M4.1 (b + 1) (x3 : Int32).toNatClampNeg) M4 with
              | none => rw [hc10] at h; cases h
              | some w =>
                obtain ⟨v8, M9⟩ := w
                rw [hc10] at h
                dsimp only at h
                refine pe_stat (al := [.int (M4.1 (b + 1) (x3 : Int32).toNatClampNeg)]) (L0 := [some (.int (M4.1 (b + 1) (x3 : Int32).toNatClampNeg))]) (r1 := (some (.int v8), 129, 17845, hp M9)) mm_172 rfl rfl rfl mm_14 rfl (Nat.le_of_ble_eq_true rfl) (Nat.le_of_ble_eq_true rfl) rfl rfl (F14_ev sc n (M4.1 (b + 1) (x3 : Int32).toNatClampNeg) _ e1 (by omega) _ _ hc10) ?_
                show pm_ev _ _ _ _ _ (43, [some (.ref b), u1, some (.int x2), some (.int x3)], [.int v8], _, _, _) _
                by_cases q11 : v8 = 0
                · rw [if_pos q11] at h
                  refine pe_blk mm_172 1 (s' := (if v8 = 0 then 55 else 46, [some (.ref b), u1, some (.int x2), some (.int x3)], [], _, _, _)) rfl ?_
                  rw [if_pos q11]
                  exact J172_55_ev sc n b hb (e1 + 1) he (L172_8 n b k) hr8 x2 x3 _ _ _ _ h
                · rw [if_neg q11] at h
                  refine pe_blk mm_172 1 (s' := (if v8 = 0 then 55 else 46, [some (.ref b), u1, some (.int x2), some (.int x3)], [], _, _, _)) rfl ?_
                  rw [if_neg q11]
                  refine pe_blk mm_172 2 (s' := (50, [some (.ref b), u1, some (.int (x2 + (-1))), some (.int x3)], [.int (x2 + (-1))], _, _, _)) rfl ?_
                  by_cases q12 : (x2 + (-1)) = 0
                  · rw [if_pos q12] at h
                    refine pe_blk mm_172 1 (s' := (if (x2 + (-1)) = 0 then 53 else 55, [some (.ref b), u1, some (.int (x2 + (-1))), some (.int x3)], [], _, _, _)) rfl ?_
                    rw [if_pos q12]
                    refine pe_blk mm_172 1 (s' := (54, [some (.ref b), u1, some (.int (x2 + (-1))), some (.int x3)], [.int x3], _, _, _)) rfl ?_
                    cases h
                    exact pe_ret mm_172 rfl rfl
                  · rw [if_neg q12] at h
                    refine pe_blk mm_172 1 (s' := (if (x2 + (-1)) = 0 then 53 else 55, [some (.ref b), u1, some (.int (x2 + (-1))), some (.int x3)], [], _, _, _)) rfl ?_
                    rw [if_neg q12]
                    exact J172_55_ev sc n b hb (e1 + 1) he (L172_8 n b k) hr8 (x2 + (-1)) x3 _ _ _ _ h
          · rw [if_neg q6] at h
            refine pe_blk mm_172 1 (s' := (if v3 = 0 then 34 else 28, [some (.ref b), u1, some (.int x2), some (.int x3)], [], _, _, _)) rfl ?_
            rw [if_neg q6]
            refine pe_blk mm_172 2 (s' := (55, [some (.ref b), u1, some (.int (x2 + 1)), some (.int x3)], [], _, _, _)) rfl ?_
            exact J172_55_ev sc n b hb (e1 + 1) he (L172_8 n b k) hr8 (x2 + 1) x3 _ _ _ _ h
/-- ArmExpander$Row.closingOfBracketAt -/
def F172 (n : Nat) (b : Nat) (a0 : Int32) (M : Mem) : Option (Int32 × Mem) :=
  L172_8 n b n 0 (if 0 < a0 then a0 else 0) M
set_option maxRecDepth 100000 in
set_option maxHeartbeats 4000000 in
theorem F172_ev (sc : Option (Nat × (Nat → Int32))) (n : Nat) (b : Nat) (a0 : Int32) (hb : isR b) (M : Mem) (e : Nat) (he : 2 ≤ e) (r : Int32) (M' : Mem) (h : F172 n b a0 M = some (r, M')) : pm_ev pmT sc e 172 false (0, [some (.ref b), some (.int a0), none, none], [], 129, 17845, hp M) (some (.int r), 129, 17845, hp M') := by
  unfold F172 at h
  refine pe_blk mm_172 6 (s' := (8, [some (.ref b), some (.int a0), some (.int 0), some (.int (if 0 < a0 then a0 else 0))], [], _, _, _)) rfl ?_
  exact L172_8_ev sc n b hb e he n 0 (if 0 < a0 then a0 else 0) _ _ _ _ h
def J173_57 (n : Nat) (b : Nat) (rec6 : Int32 → Mem → Option (Int32 × Mem)) (x2 : Int32) (M : Mem) : Option (Int32 × Mem) :=
  rec6 (x2 + 1) M
set_option maxRecDepth 100000 in
set_option maxHeartbeats 4000000 in
theorem J173_57_ev (sc : Option (Nat × (Nat → Int32))) (n : Nat) (b : Nat) (hb : isR b) (e : Nat) (he : 2 ≤ e) (rec6 : Int32 → Mem → Option (Int32 × Mem)) (hr6 : ∀ (x2 : Int32) (u1 : Option Value) (M : Mem) (r : Int32) (M' : Mem), rec6 x2 M = some (r, M') → pm_ev pmT sc e 173 false (6, [some (.ref b), u1, some (.int x2)], [], 129, 17845, hp M) (some (.int r), 129, 17845, hp M')) : ∀ (x2 : Int32) (u1 : Option Value) (M : Mem) (r : Int32) (M' : Mem), J173_57 n b rec6 x2 M = some (r, M') → pm_ev pmT sc e 173 false (57, [some (.ref b), u1, some (.int x2)], [], 129, 17845, hp M) (some (.int r), 129, 17845, hp M') := by
  intro x2 u1 M r M' h
  unfold J173_57 at h
  refine pe_blk mm_173 2 (s' := (6, [some (.ref b), u1, some (.int (x2 + 1))], [], _, _, _)) rfl ?_
  exact hr6 (x2 + 1) _ _ _ _ h
def L173_6 (n : Nat) (b : Nat) : Nat → Int32 → Mem → Option (Int32 × Mem)
  | 0, _, _ => none
  | k + 1, x2, M => if (M.1 b 2) ≤ (x2 + 2) then (some ((-1), M)) else (if x2 < 0 ∨ 150 ≤ (x2 : Int32).toNatClampNeg then none else (match F11 n (M.1 (b + 1) (x2 : Int32).toNatClampNeg) M with | some (v3, M4) => (if v3 = 0 then (J173_57 n b (L173_6 n b k) x2 M4) else (if (x2 + 1) < 0 ∨ 150 ≤ (x2 + 1 : Int32).toNatClampNeg then none else (if (M4.1 (b + 1) (x2 + 1 : Int32).toNatClampNeg) = 33 then (if (x2 + 2) < 0 ∨ 150 ≤ (x2 + 2 : Int32).toNatClampNeg then none else (match F13 n (M4.1 (b + 1) (x2 + 2 : Int32).toNatClampNeg) M4 with | some (v10, M11) => (if v10 = 0 then (J173_57 n b (L173_6 n b k) x2 M11) else (some (x2, M11))) | none => none)) else (J173_57 n b (L173_6 n b k) x2 M4)))) | none => none))
set_option maxRecDepth 100000 in
set_option maxHeartbeats 4000000 in
theorem L173_6_ev (sc : Option (Nat × (Nat → Int32))) (n : Nat) (b : Nat) (hb : isR b) (e : Nat) (he : 2 ≤ e) : ∀ k : Nat, ∀ (x2 : Int32) (u1 : Option Value) (M : Mem) (r : Int32) (M' : Mem), L173_6 n b k x2 M = some (r, M') → pm_ev pmT sc e 173 false (6, [some (.ref b), u1, some (.int x2)], [], 129, 17845, hp M) (some (.int r), 129, 17845, hp M') := by
  intro k
  induction k with
  | zero => intro x2 u1 M r M' h; cases h
  | succ k hr6 =>
    intro x2 u1 M r M' h
    rw [L173_6] at h
    refine pe_blk mm_173 4 (s' := (10, [some (.ref b), u1, some (.int x2)], [.ref b, .int (x2 + 2)], _, _, _)) rfl ?_
    refine pe_get mm_173 rfl rfl (isR_0 hb _) (by have := isR_lt hb; omega) rfl ?_
    by_cases q1 : (M.1 b 2) ≤ (x2 + 2)
    · rw [if_pos q1] at h
      refine pe_blk mm_173 1 (s' := (if (M.1 b 2) ≤ (x2 + 2) then 63 else 16, [some (.ref b), u1, some (.int x2)], [], _, _, _)) rfl ?_
      rw [if_pos q1]
      refine pe_blk mm_173 1 (s' := (64, [some (.ref b), u1, some (.int x2)], [.int (-1)], _, _, _)) rfl ?_
      cases h
      exact pe_ret mm_173 rfl rfl
    · rw [if_neg q1] at h
      refine pe_blk mm_173 1 (s' := (if (M.1 b 2) ≤ (x2 + 2) then 63 else 16, [some (.ref b), u1, some (.int x2)], [], _, _, _)) rfl ?_
      rw [if_neg q1]
      refine pe_blk mm_173 1 (s' := (17, [some (.ref b), u1, some (.int x2)], [.ref b], _, _, _)) rfl ?_
      refine pe_get mm_173 rfl rfl (isR_0 hb _) (by have := isR_lt hb; omega) rfl ?_
      refine pe_blk mm_173 1 (s' := (21, [some (.ref b), u1, some (.int x2)], [.int x2, .ref (b + 1)], _, _, _)) rfl ?_
      by_cases q2 : x2 < 0 ∨ 150 ≤ (x2 : Int32).toNatClampNeg
      · rw [if_pos q2] at h
        cases h
      · rw [if_neg q2] at h
        refine pe_iald (f := M.1 (b + 1)) mm_173 rfl (isR_1 hb _) (by have := isR_lt hb; omega) q2 ?_
        obtain ⟨e1, rfl⟩ : ∃ e1, e = e1 + 1 := ⟨e - 1, by omega⟩
        cases hc5 : F11 n (M.1 (b + 1) (x2 : Int32).toNatClampNeg) M with
        | none => rw [hc5] at h; cases h
        | some w =>
          obtain ⟨v3, M4⟩ := w
          rw [hc5] at h
          dsimp only at h
          refine pe_stat (al := [.int (M.1 (b + 1) (x2 : Int32).toNatClampNeg)]) (L0 := [some (.int (M.1 (b + 1) (x2 : Int32).toNatClampNeg))]) (r1 := (some (.int v3), 129, 17845, hp M4)) mm_173 rfl rfl rfl mm_11 rfl (Nat.le_of_ble_eq_true rfl) (Nat.le_of_ble_eq_true rfl) rfl rfl (F11_ev sc n (M.1 (b + 1) (x2 : Int32).toNatClampNeg) _ e1 (by omega) _ _ hc5) ?_
          show pm_ev _ _ _ _ _ (25, [some (.ref b), u1, some (.int x2)], [.int v3], _, _, _) _
          by_cases q6 : v3 = 0
          · rw [if_pos q6] at h
            refine pe_blk mm_173 1 (s' := (if v3 = 0 then 57 else 28, [some (.ref b), u1, some (.int x2)], [], _, _, _)) rfl ?_
            rw [if_pos q6]
            exact J173_57_ev sc n b hb (e1 + 1) he (L173_6 n b k) hr6 x2 _ _ _ _ h
          · rw [if_neg q6] at h
            refine pe_blk mm_173 1 (s' := (if v3 = 0 then 57 else 28, [some (.ref b), u1, some (.int x2)], [], _, _, _)) rfl ?_
            rw [if_neg q6]
            refine pe_blk mm_173 1 (s' := (29, [some (.ref b), u1, some (.int x2)], [.ref b], _, _, _)) rfl ?_
            refine pe_get mm_173 rfl rfl (isR_0 hb _) (by have := isR_lt hb; omega) rfl ?_
            refine pe_blk mm_173 3 (s' := (35, [some (.ref b), u1, some (.int x2)], [.int (x2 + 1), .ref (b + 1)], _, _, _)) rfl ?_
            by_cases q7 : (x2 + 1) < 0 ∨ 150 ≤ (x2 + 1 : Int32).toNatClampNeg
            · rw [if_pos q7] at h
              cases h
            · rw [if_neg q7] at h
              refine pe_iald (f := M4.1 (b + 1)) mm_173 rfl (isR_1 hb _) (by have := isR_lt hb; omega) q7 ?_
              refine pe_blk mm_173 1 (s' := (38, [some (.ref b), u1, some (.int x2)], [.int 33, .int (M4.1 (b + 1) (x2 + 1 : Int32).toNatClampNeg)], _, _, _)) rfl ?_
              by_cases q8 : (M4.1 (b + 1) (x2 + 1 : Int32).toNatClampNeg) = 33
              · rw [if_pos q8] at h
                refine pe_blk mm_173 1 (s' := (if (M4.1 (b + 1) (x2 + 1 : Int32).toNatClampNeg) = 33 then 41 else 57, [some (.ref b), u1, some (.int x2)], [], _, _, _)) rfl ?_
                rw [if_pos q8]
                refine pe_blk mm_173 1 (s' := (42, [some (.ref b), u1, some (.int x2)], [.ref b], _, _, _)) rfl ?_
                refine pe_get mm_173 rfl rfl (isR_0 hb _) (by have := isR_lt hb; omega) rfl ?_
                refine pe_blk mm_173 3 (s' := (48, [some (.ref b), u1, some (.int x2)], [.int (x2 + 2), .ref (b + 1)], _, _, _)) rfl ?_
                by_cases q9 : (x2 + 2) < 0 ∨ 150 ≤ (x2 + 2 : Int32).toNatClampNeg
                · rw [if_pos q9] at h
                  cases h
                · rw [if_neg q9] at h
                  refine pe_iald (f := M4.1 (b + 1)) mm_173 rfl (isR_1 hb _) (by have := isR_lt hb; omega) q9 ?_
                  skip
                  cases hc12 : F13 n (M4.1 (b + 1) (x2 + 2 : Int32).toNatClampNeg) M4 with
                  | none => rw [hc12] at h; cases h
                  | some w =>
                    obtain ⟨v10, M11⟩ := w
                    rw [hc12] at h
                    dsimp only at h
                    refine pe_stat (al := [.int (M4.1 (b + 1) (x2 + 2 : Int32).toNatClampNeg)]) (L0 := [some (.int (M4.1 (b + 1) (x2 + 2 : Int32).toNatClampNeg))]) (r1 := (some (.int v10), 129, 17845, hp M11)) mm_173 rfl rfl rfl mm_13 rfl (Nat.le_of_ble_eq_true rfl) (Nat.le_of_ble_eq_true rfl) rfl rfl (F13_ev sc n (M4.1 (b + 1) (x2 + 2 : Int32).toNatClampNeg) _ e1 (by omega) _ _ hc12) ?_
                    show pm_ev _ _ _ _ _ (52, [some (.ref b), u1, some (.int x2)], [.int v10], _, _, _) _
                    by_cases q13 : v10 = 0
                    · rw [if_pos q13] at h
                      refine pe_blk mm_173 1 (s' := (if v10 = 0 then 57 else 55, [some (.ref b), u1, some (.int x2)], [], _, _, _)) rfl ?_
                      rw [if_pos q13]
                      exact J173_57_ev sc n b hb (e1 + 1) he (L173_6 n b k) hr6 x2 _ _ _ _ h
                    · rw [if_neg q13] at h
                      refine pe_blk mm_173 1 (s' := (if v10 = 0 then 57 else 55, [some (.ref b), u1, some (.int x2)], [], _, _, _)) rfl ?_
                      rw [if_neg q13]
                      refine pe_blk mm_173 1 (s' := (56, [some (.ref b), u1, some (.int x2)], [.int x2], _, _, _)) rfl ?_
                      cases h
                      exact pe_ret mm_173 rfl rfl
              · rw [if_neg q8] at h
                refine pe_blk mm_173 1 (s' := (if (M4.1 (b + 1) (x2 + 1 : Int32).toNatClampNeg) = 33 then 41 else 57, [some (.ref b), u1, some (.int x2)], [], _, _, _)) rfl ?_
                rw [if_neg q8]
                exact J173_57_ev sc n b hb (e1 + 1) he (L173_6 n b k) hr6 x2 _ _ _ _ h
/-- ArmExpander$Row.callFrom -/
def F173 (n : Nat) (b : Nat) (a0 : Int32) (M : Mem) : Option (Int32 × Mem) :=
  L173_6 n b n (if 0 < a0 then a0 else 0) M
set_option maxRecDepth 100000 in
set_option maxHeartbeats 4000000 in
theorem F173_ev (sc : Option (Nat × (Nat → Int32))) (n : Nat) (b : Nat) (a0 : Int32) (hb : isR b) (M : Mem) (e : Nat) (he : 2 ≤ e) (r : Int32) (M' : Mem) (h : F173 n b a0 M = some (r, M')) : pm_ev pmT sc e 173 false (0, [some (.ref b), some (.int a0), none], [], 129, 17845, hp M) (some (.int r), 129, 17845, hp M') := by
  unfold F173 at h
  refine pe_blk mm_173 4 (s' := (6, [some (.ref b), some (.int a0), some (.int (if 0 < a0 then a0 else 0))], [], _, _, _)) rfl ?_
  exact L173_6_ev sc n b hb e he n (if 0 < a0 then a0 else 0) _ _ _ _ h
def J175_29 (n : Nat) (b : Nat) (s0 : Int32) (M : Mem) : Option (Int32 × Mem) :=
  if s0 = 0 ∨ s0 = 1 then some (s0, M) else none
set_option maxRecDepth 100000 in
set_option maxHeartbeats 4000000 in
theorem J175_29_ev (sc : Option (Nat × (Nat → Int32))) (n : Nat) (b : Nat) (hb : isR b) (e : Nat) (he : 2 ≤ e) : ∀ (s0 : Int32) (u0 : Option Value) (u1 : Option Value) (M : Mem) (r : Int32) (M' : Mem), J175_29 n b s0 M = some (r, M') → pm_ev pmT sc e 175 false (29, [u0, u1], [.int s0], 129, 17845, hp M) (some (.int r), 129, 17845, hp M') := by
  intro s0 u0 u1 M r M' h
  unfold J175_29 at h
  by_cases q8 : s0 = 0 ∨ s0 = 1
  · rw [if_pos q8] at h
    cases h
    exact pe_ret mm_175 rfl (if_pos q8)
  · rw [if_neg q8] at h
    cases h
def J175_28 (n : Nat) (b : Nat) (M : Mem) : Option (Int32 × Mem) :=
  J175_29 n b 0 M
set_option maxRecDepth 100000 in
set_option maxHeartbeats 4000000 in
theorem J175_28_ev (sc : Option (Nat × (Nat → Int32))) (n : Nat) (b : Nat) (hb : isR b) (e : Nat) (he : 2 ≤ e) : ∀ (u0 : Option Value) (u1 : Option Value) (M : Mem) (r : Int32) (M' : Mem), J175_28 n b  M = some (r, M') → pm_ev pmT sc e 175 false (28, [u0, u1], [], 129, 17845, hp M) (some (.int r), 129, 17845, hp M') := by
  intro u0 u1 M r M' h
  unfold J175_28 at h
  refine pe_blk mm_175 1 (s' := (29, [u0, u1], [.int 0], _, _, _)) rfl ?_
  exact J175_29_ev sc n b hb e he 0 _ _ _ _ _ h
/-- ArmExpander$Row.isBinder -/
def F175 (n : Nat) (b : Nat) (a0 : Int32) (M : Mem) : Option (Int32 × Mem) :=
  match F170 n b a0 M with | some (v1, M2) => (match F11 n v1 M2 with | some (v4, M5) => (if v4 = 0 then (J175_28 n b M5) else (match F170 n b (a0 - 1) M5 with | some (v9, M10) => (if v9 = 9903 then (J175_29 n b 1 M10) else (J175_28 n b M10)) | none => none)) | none => none) | none => none
set_option maxRecDepth 100000 in
set_option maxHeartbeats 4000000 in
theorem F175_ev (sc : Option (Nat × (Nat → Int32))) (n : Nat) (b : Nat) (a0 : Int32) (hb : isR b) (M : Mem) (e : Nat) (he : 2 ≤ e) (r : Int32) (M' : Mem) (h : F175 n b a0 M = some (r, M')) : pm_ev pmT sc e 175 false (0, [some (.ref b), some (.int a0)], [], 129, 17845, hp M) (some (.int r), 129, 17845, hp M') := by
  unfold F175 at h
  refine pe_blk mm_175 2 (s' := (2, [some (.ref b), some (.int a0)], [.int a0, .ref b], _, _, _)) rfl ?_
  obtain ⟨e1, rfl⟩ : ∃ e1, e = e1 + 1 := ⟨e - 1, by omega⟩
  cases hc3 : F170 n b a0 M with
  | none => rw [hc3] at h; cases h
  | some w =>
    obtain ⟨v1, M2⟩ := w
    rw [hc3] at h
    dsimp only at h
    refine pe_virt (al := [.int a0]) (a := b) (L0 := [some (.ref b), some (.int a0)]) (r1 := (some (.int v1), 129, 17845, hp M2)) mm_175 rfl rfl rfl mm_170 (isR_0 hb _) (by have := isR_lt hb; omega) (by decide) rfl (Nat.le_of_ble_eq_true rfl) (Nat.le_of_ble_eq_true rfl) rfl rfl (F170_ev sc n b a0 hb _ e1 (by omega) _ _ hc3) ?_
    show pm_ev _ _ _ _ _ (5, [some (.ref b), some (.int a0)], [.int v1], _, _, _) _
    skip
    cases hc6 : F11 n v1 M2 with
    | none => rw [hc6] at h; cases h
    | some w =>
      obtain ⟨v4, M5⟩ := w
      rw [hc6] at h
      dsimp only at h
      refine pe_stat (al := [.int v1]) (L0 := [some (.int v1)]) (r1 := (some (.int v4), 129, 17845, hp M5)) mm_175 rfl rfl rfl mm_11 rfl (Nat.le_of_ble_eq_true rfl) (Nat.le_of_ble_eq_true rfl) rfl rfl (F11_ev sc n v1 _ e1 (by omega) _ _ hc6) ?_
      show pm_ev _ _ _ _ _ (8, [some (.ref b), some (.int a0)], [.int v4], _, _, _) _
      by_cases q7 : v4 = 0
      · rw [if_pos q7] at h
        refine pe_blk mm_175 1 (s' := (if v4 = 0 then 28 else 11, [some (.ref b), some (.int a0)], [], _, _, _)) rfl ?_
        rw [if_pos q7]
        exact J175_28_ev sc n b hb (e1 + 1) he _ _ _ _ _ h
      · rw [if_neg q7] at h
        refine pe_blk mm_175 1 (s' := (if v4 = 0 then 28 else 11, [some (.ref b), some (.int a0)], [], _, _, _)) rfl ?_
        rw [if_neg q7]
        refine pe_blk mm_175 4 (s' := (15, [some (.ref b), some (.int a0)], [.int (a0 - 1), .ref b], _, _, _)) rfl ?_
        skip
        cases hc11 : F170 n b (a0 - 1) M5 with
        | none => rw [hc11] at h; cases h
        | some w =>
          obtain ⟨v9, M10⟩ := w
          rw [hc11] at h
          dsimp only at h
          refine pe_virt (al := [.int (a0 - 1)]) (a := b) (L0 := [some (.ref b), some (.int (a0 - 1))]) (r1 := (some (.int v9), 129, 17845, hp M10)) mm_175 rfl rfl rfl mm_170 (isR_0 hb _) (by have := isR_lt hb; omega) (by decide) rfl (Nat.le_of_ble_eq_true rfl) (Nat.le_of_ble_eq_true rfl) rfl rfl (F170_ev sc n b (a0 - 1) hb _ e1 (by omega) _ _ hc11) ?_
          show pm_ev _ _ _ _ _ (18, [some (.ref b), some (.int a0)], [.int v9], _, _, _) _
          refine pe_blk mm_175 1 (s' := (21, [some (.ref b), some (.int a0)], [.int 9903, .int v9], _, _, _)) rfl ?_
          by_cases q12 : v9 = 9903
          · rw [if_pos q12] at h
            refine pe_blk mm_175 1 (s' := (if v9 = 9903 then 24 else 28, [some (.ref b), some (.int a0)], [], _, _, _)) rfl ?_
            rw [if_pos q12]
            refine pe_blk mm_175 2 (s' := (29, [some (.ref b), some (.int a0)], [.int 1], _, _, _)) rfl ?_
            exact J175_29_ev sc n b hb (e1 + 1) he 1 _ _ _ _ _ h
          · rw [if_neg q12] at h
            refine pe_blk mm_175 1 (s' := (if v9 = 9903 then 24 else 28, [some (.ref b), some (.int a0)], [], _, _, _)) rfl ?_
            rw [if_neg q12]
            exact J175_28_ev sc n b hb (e1 + 1) he _ _ _ _ _ h
def J176_31 (n : Nat) (b : Nat) (s0 : Int32) (M : Mem) : Option (Int32 × Mem) :=
  if s0 = 0 ∨ s0 = 1 then some (s0, M) else none
set_option maxRecDepth 100000 in
set_option maxHeartbeats 4000000 in
theorem J176_31_ev (sc : Option (Nat × (Nat → Int32))) (n : Nat) (b : Nat) (hb : isR b) (e : Nat) (he : 2 ≤ e) : ∀ (s0 : Int32) (u0 : Option Value) (u1 : Option Value) (u2 : Option Value) (M : Mem) (r : Int32) (M' : Mem), J176_31 n b s0 M = some (r, M') → pm_ev pmT sc e 176 false (31, [u0, u1, u2], [.int s0], 129, 17845, hp M) (some (.int r), 129, 17845, hp M') := by
  intro s0 u0 u1 u2 M r M' h
  unfold J176_31 at h
  by_cases q15 : s0 = 0 ∨ s0 = 1
  · rw [if_pos q15] at h
    cases h
    exact pe_ret mm_176 rfl (if_pos q15)
  · rw [if_neg q15] at h
    cases h
def J176_30 (n : Nat) (b : Nat) (M : Mem) : Option (Int32 × Mem) :=
  J176_31 n b 0 M
set_option maxRecDepth 100000 in
set_option maxHeartbeats 4000000 in
theorem J176_30_ev (sc : Option (Nat × (Nat → Int32))) (n : Nat) (b : Nat) (hb : isR b) (e : Nat) (he : 2 ≤ e) : ∀ (u0 : Option Value) (u1 : Option Value) (u2 : Option Value) (M : Mem) (r : Int32) (M' : Mem), J176_30 n b  M = some (r, M') → pm_ev pmT sc e 176 false (30, [u0, u1, u2], [], 129, 17845, hp M) (some (.int r), 129, 17845, hp M') := by
  intro u0 u1 u2 M r M' h
  unfold J176_30 at h
  refine pe_blk mm_176 1 (s' := (31, [u0, u1, u2], [.int 0], _, _, _)) rfl ?_
  exact J176_31_ev sc n b hb e he 0 _ _ _ _ _ _ h
/-- ArmExpander$Row.isSameName -/
def F176 (n : Nat) (b : Nat) (a0 : Int32) (a1 : Int32) (M : Mem) : Option (Int32 × Mem) :=
  match F170 n b a0 M with | some (v1, M2) => (match F170 n b a1 M2 with | some (v4, M5) => (if v1 = v4 then (match F171 n b a0 M5 with | some (v8, M9) => (match F171 n b a1 M9 with | some (v11, M12) => (if v8 = v11 then (J176_31 n b 1 M12) else (J176_30 n b M12)) | none => none) | none => none) else (J176_30 n b M5)) | none => none) | none => none
set_option maxRecDepth 100000 in
set_option maxHeartbeats 4000000 in
theorem F176_ev (sc : Option (Nat × (Nat → Int32))) (n : Nat) (b : Nat) (a0 : Int32) (a1 : Int32) (hb : isR b) (M : Mem) (e : Nat) (he : 2 ≤ e) (r : Int32) (M' : Mem) (h : F176 n b a0 a1 M = some (r, M')) : pm_ev pmT sc e 176 false (0, [some (.ref b), some (.int a0), some (.int a1)], [], 129, 17845, hp M) (some (.int r), 129, 17845, hp M') := by
  unfold F176 at h
  refine pe_blk mm_176 2 (s' := (2, [some (.ref b), some (.int a0), some (.int a1)], [.int a0, .ref b], _, _, _)) rfl ?_
  obtain ⟨e1, rfl⟩ : ∃ e1, e = e1 + 1 := ⟨e - 1, by omega⟩
  cases hc3 : F170 n b a0 M with
  | none => rw [hc3] at h; cases h
  | some w =>
    obtain ⟨v1, M2⟩ := w
    rw [hc3] at h
    dsimp only at h
    refine pe_virt (al := [.int a0]) (a := b) (L0 := [some (.ref b), some (.int a0)]) (r1 := (some (.int v1), 129, 17845, hp M2)) mm_176 rfl rfl rfl mm_170 (isR_0 hb _) (by have := isR_lt hb; omega) (by decide) rfl (Nat.le_of_ble_eq_true rfl) (Nat.le_of_ble_eq_true rfl) rfl rfl (F170_ev sc n b a0 hb _ e1 (by omega) _ _ hc3) ?_
    show pm_ev _ _ _ _ _ (5, [some (.ref b), some (.int a0), some (.int a1)], [.int v1], _, _, _) _
    refine pe_blk mm_176 2 (s' := (7, [some (.ref b), some (.int a0), some (.int a1)], [.int a1, .ref b, .int v1], _, _, _)) rfl ?_
    skip
    cases hc6 : F170 n b a1 M2 with
    | none => rw [hc6] at h; cases h
    | some w =>
      obtain ⟨v4, M5⟩ := w
      rw [hc6] at h
      dsimp only at h
      refine pe_virt (al := [.int a1]) (a := b) (L0 := [some (.ref b), some (.int a1)]) (r1 := (some (.int v4), 129, 17845, hp M5)) mm_176 rfl rfl rfl mm_170 (isR_0 hb _) (by have := isR_lt hb; omega) (by decide) rfl (Nat.le_of_ble_eq_true rfl) (Nat.le_of_ble_eq_true rfl) rfl rfl (F170_ev sc n b a1 hb _ e1 (by omega) _ _ hc6) ?_
      show pm_ev _ _ _ _ _ (10, [some (.ref b), some (.int a0), some (.int a1)], [.int v4, .int v1], _, _, _) _
      by_cases q7 : v1 = v4
      · rw [if_pos q7] at h
        refine pe_blk mm_176 1 (s' := (if v1 = v4 then 13 else 30, [some (.ref b), some (.int a0), some (.int a1)], [], _, _, _)) rfl ?_
        rw [if_pos q7]
        refine pe_blk mm_176 2 (s' := (15, [some (.ref b), some (.int a0), some (.int a1)], [.int a0, .ref b], _, _, _)) rfl ?_
        skip
        cases hc10 : F171 n b a0 M5 with
        | none => rw [hc10] at h; cases h
        | some w =>
          obtain ⟨v8, M9⟩ := w
          rw [hc10] at h
          dsimp only at h
          refine pe_virt (al := [.int a0]) (a := b) (L0 := [some (.ref b), some (.int a0)]) (r1 := (some (.int v8), 129, 17845, hp M9)) mm_176 rfl rfl rfl mm_171 (isR_0 hb _) (by have := isR_lt hb; omega) (by decide) rfl (Nat.le_of_ble_eq_true rfl) (Nat.le_of_ble_eq_true rfl) rfl rfl (F171_ev sc n b a0 hb _ e1 (by omega) _ _ hc10) ?_
          show pm_ev _ _ _ _ _ (18, [some (.ref b), some (.int a0), some (.int a1)], [.int v8], _, _, _) _
          refine pe_blk mm_176 2 (s' := (20, [some (.ref b), some (.int a0), some (.int a1)], [.int a1, .ref b, .int v8], _, _, _)) rfl ?_
          skip
          cases hc13 : F171 n b a1 M9 with
          | none => rw [hc13] at h; cases h
          | some w =>
            obtain ⟨v11, M12⟩ := w
            rw [hc13] at h
            dsimp only at h
            refine pe_virt (al := [.int a1]) (a := b) (L0 := [some (.ref b), some (.int a1)]) (r1 := (some (.int v11), 129, 17845, hp M12)) mm_176 rfl rfl rfl mm_171 (isR_0 hb _) (by have := isR_lt hb; omega) (by decide) rfl (Nat.le_of_ble_eq_true rfl) (Nat.le_of_ble_eq_true rfl) rfl rfl (F171_ev sc n b a1 hb _ e1 (by omega) _ _ hc13) ?_
            show pm_ev _ _ _ _ _ (23, [some (.ref b), some (.int a0), some (.int a1)], [.int v11, .int v8], _, _, _) _
            by_cases q14 : v8 = v11
            · rw [if_pos q14] at h
              refine pe_blk mm_176 1 (s' := (if v8 = v11 then 26 else 30, [some (.ref b), some (.int a0), some (.int a1)], [], _, _, _)) rfl ?_
              rw [if_pos q14]
              refine pe_blk mm_176 2 (s' := (31, [some (.ref b), some (.int a0), some (.int a1)], [.int 1], _, _, _)) rfl ?_
              exact J176_31_ev sc n b hb (e1 + 1) he 1 _ _ _ _ _ _ h
            · rw [if_neg q14] at h
              refine pe_blk mm_176 1 (s' := (if v8 = v11 then 26 else 30, [some (.ref b), some (.int a0), some (.int a1)], [], _, _, _)) rfl ?_
              rw [if_neg q14]
              exact J176_30_ev sc n b hb (e1 + 1) he _ _ _ _ _ _ h
      · rw [if_neg q7] at h
        refine pe_blk mm_176 1 (s' := (if v1 = v4 then 13 else 30, [some (.ref b), some (.int a0), some (.int a1)], [], _, _, _)) rfl ?_
        rw [if_neg q7]
        exact J176_30_ev sc n b hb (e1 + 1) he _ _ _ _ _ _ h
/-- ArmExpander$Takings.clear -/
def F178 (n : Nat) (M : Mem) : Option (Unit × Mem) :=
  mlet (m_i M 17 5 0) (fun M1 => some ((), M1))
set_option maxRecDepth 100000 in
set_option maxHeartbeats 4000000 in
theorem F178_ev (sc : Option (Nat × (Nat → Int32))) (n : Nat)  (M : Mem) (e : Nat) (he : 1 ≤ e) (r : Unit) (M' : Mem) (h : F178 n M = some (r, M')) : pm_ev pmT sc e 178 false (0, [some (.ref 17)], [], 129, 17845, hp M) (none, 129, 17845, hp M') := by
  unfold F178 at h
  refine pe_blk mm_178 2 (s' := (2, [some (.ref 17)], [.int 0, .ref 17], _, _, _)) rfl ?_
  refine pe_puti mm_178 rfl rfl rfl (by decide) (Nat.le_of_ble_eq_true rfl) rfl rfl ?_
  show pm_ev _ _ _ _ _ (5, [some (.ref 17)], [], _, _, hp (m_i M 17 5 0)) _
  generalize m_i M 17 5 0 = M1 at h ⊢
  rw [mlet] at h
  cases h
  exact pe_ret mm_178 rfl rfl
