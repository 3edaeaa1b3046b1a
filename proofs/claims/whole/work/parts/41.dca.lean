/-! The methods as functions over Mem; written by program. -/
def J179_61 (n : Nat) (M : Mem) : Option (Unit × Mem) :=
  some ((), M)
set_option maxRecDepth 100000 in
set_option maxHeartbeats 4000000 in
theorem J179_61_ev (sc : Option (Nat × (Nat → Int32))) (n : Nat)  (e : Nat) (he : 1 ≤ e) : ∀ (u0 : Option Value) (u1 : Option Value) (u2 : Option Value) (u3 : Option Value) (u4 : Option Value) (M : Mem) (r : Unit) (M' : Mem), J179_61 n  M = some (r, M') → pm_ev pmT sc e 179 false (61, [u0, u1, u2, u3, u4], [], 129, 17845, hp M) (none, 129, 17845, hp M') := by
  intro u0 u1 u2 u3 u4 M r M' h
  unfold J179_61 at h
  cases h
  exact pe_ret mm_179 rfl rfl
/-- ArmExpander$Takings.add -/
def F179 (n : Nat) (a0 : Int32) (a1 : Int32) (a2 : Int32) (a3 : Int32) (M : Mem) : Option (Unit × Mem) :=
  if 150 ≤ (M.1 17 5) then (J179_61 n M) else (if (M.1 17 5) < 0 ∨ 150 ≤ (M.1 17 5 : Int32).toNatClampNeg then none else (mlet (m_i M 18 (M.1 17 5 : Int32).toNatClampNeg a0) (fun M3 => if (M3.1 17 5) < 0 ∨ 150 ≤ (M3.1 17 5 : Int32).toNatClampNeg then none else (mlet (m_i M3 19 (M3.1 17 5 : Int32).toNatClampNeg a1) (fun M5 => if (M5.1 17 5) < 0 ∨ 150 ≤ (M5.1 17 5 : Int32).toNatClampNeg then none else (mlet (m_i M5 20 (M5.1 17 5 : Int32).toNatClampNeg a2) (fun M7 => if (M7.1 17 5) < 0 ∨ 150 ≤ (M7.1 17 5 : Int32).toNatClampNeg then none else (mlet (m_i M7 21 (M7.1 17 5 : Int32).toNatClampNeg a3) (fun M9 => mlet (m_i M9 17 5 ((M9.1 17 5) + 1)) (fun M10 => J179_61 n M10))))))))))
set_option maxRecDepth 100000 in
set_option maxHeartbeats 4000000 in
theorem F179_ev (sc : Option (Nat × (Nat → Int32))) (n : Nat) (a0 : Int32) (a1 : Int32) (a2 : Int32) (a3 : Int32)  (M : Mem) (e : Nat) (he : 1 ≤ e) (r : Unit) (M' : Mem) (h : F179 n a0 a1 a2 a3 M = some (r, M')) : pm_ev pmT sc e 179 false (0, [some (.ref 17), some (.int a0), some (.int a1), some (.int a2), some (.int a3)], [], 129, 17845, hp M) (none, 129, 17845, hp M') := by
  unfold F179 at h
  refine pe_blk mm_179 1 (s' := (1, [some (.ref 17), some (.int a0), some (.int a1), some (.int a2), some (.int a3)], [.ref 17], _, _, _)) rfl ?_
  refine pe_get mm_179 rfl rfl rfl (by decide) rfl ?_
  refine pe_blk mm_179 1 (s' := (7, [some (.ref 17), some (.int a0), some (.int a1), some (.int a2), some (.int a3)], [.int 150, .int (M.1 17 5)], _, _, _)) rfl ?_
  by_cases q1 : 150 ≤ (M.1 17 5)
  · rw [if_pos q1] at h
    refine pe_blk mm_179 1 (s' := (if 150 ≤ (M.1 17 5) then 61 else 10, [some (.ref 17), some (.int a0), some (.int a1), some (.int a2), some (.int a3)], [], _, _, _)) rfl ?_
    rw [if_pos q1]
    exact J179_61_ev sc n e he _ _ _ _ _ _ _ _ h
  · rw [if_neg q1] at h
    refine pe_blk mm_179 1 (s' := (if 150 ≤ (M.1 17 5) then 61 else 10, [some (.ref 17), some (.int a0), some (.int a1), some (.int a2), some (.int a3)], [], _, _, _)) rfl ?_
    rw [if_neg q1]
    refine pe_blk mm_179 1 (s' := (11, [some (.ref 17), some (.int a0), some (.int a1), some (.int a2), some (.int a3)], [.ref 17], _, _, _)) rfl ?_
    refine pe_get mm_179 rfl rfl rfl (by decide) rfl ?_
    refine pe_blk mm_179 1 (s' := (15, [some (.ref 17), some (.int a0), some (.int a1), some (.int a2), some (.int a3)], [.ref 17, .ref 18], _, _, _)) rfl ?_
    refine pe_get mm_179 rfl rfl rfl (by decide) rfl ?_
    refine pe_blk mm_179 1 (s' := (19, [some (.ref 17), some (.int a0), some (.int a1), some (.int a2), some (.int a3)], [.int a0, .int (M.1 17 5), .ref 18], _, _, _)) rfl ?_
    by_cases q2 : (M.1 17 5) < 0 ∨ 150 ≤ (M.1 17 5 : Int32).toNatClampNeg
    · rw [if_pos q2] at h
      cases h
    · rw [if_neg q2] at h
      refine pe_iasti mm_179 rfl rfl (by decide) q2 rfl ?_
      show pm_ev _ _ _ _ _ (20, [some (.ref 17), some (.int a0), some (.int a1), some (.int a2), some (.int a3)], [], _, _, hp (m_i M 18 (M.1 17 5 : Int32).toNatClampNeg a0)) _
      generalize m_i M 18 (M.1 17 5 : Int32).toNatClampNeg a0 = M3 at h ⊢
      rw [mlet] at h
      refine pe_blk mm_179 1 (s' := (21, [some (.ref 17), some (.int a0), some (.int a1), some (.int a2), some (.int a3)], [.ref 17], _, _, _)) rfl ?_
      refine pe_get mm_179 rfl rfl rfl (by decide) rfl ?_
      refine pe_blk mm_179 1 (s' := (25, [some (.ref 17), some (.int a0), some (.int a1), some (.int a2), some (.int a3)], [.ref 17, .ref 19], _, _, _)) rfl ?_
      refine pe_get mm_179 rfl rfl rfl (by decide) rfl ?_
      refine pe_blk mm_179 1 (s' := (29, [some (.ref 17), some (.int a0), some (.int a1), some (.int a2), some (.int a3)], [.int a1, .int (M3.1 17 5), .ref 19], _, _, _)) rfl ?_
      by_cases q4 : (M3.1 17 5) < 0 ∨ 150 ≤ (M3.1 17 5 : Int32).toNatClampNeg
      · rw [if_pos q4] at h
        cases h
      · rw [if_neg q4] at h
        refine pe_iasti mm_179 rfl rfl (by decide) q4 rfl ?_
        show pm_ev _ _ _ _ _ (30, [some (.ref 17), some (.int a0), some (.int a1), some (.int a2), some (.int a3)], [], _, _, hp (m_i M3 19 (M3.1 17 5 : Int32).toNatClampNeg a1)) _
        generalize m_i M3 19 (M3.1 17 5 : Int32).toNatClampNeg a1 = M5 at h ⊢
        rw [mlet] at h
        refine pe_blk mm_179 1 (s' := (31, [some (.ref 17), some (.int a0), some (.int a1), some (.int a2), some (.int a3)], [.ref 17], _, _, _)) rfl ?_
        refine pe_get mm_179 rfl rfl rfl (by decide) rfl ?_
        refine pe_blk mm_179 1 (s' := (35, [some (.ref 17), some (.int a0), some (.int a1), some (.int a2), some (.int a3)], [.ref 17, .ref 20], _, _, _)) rfl ?_
        refine pe_get mm_179 rfl rfl rfl (by decide) rfl ?_
        refine pe_blk mm_179 1 (s' := (39, [some (.ref 17), some (.int a0), some (.int a1), some (.int a2), some (.int a3)], [.int a2, .int (M5.1 17 5), .ref 20], _, _, _)) rfl ?_
        by_cases q6 : (M5.1 17 5) < 0 ∨ 150 ≤ (M5.1 17 5 : Int32).toNatClampNeg
        · rw [if_pos q6] at h
          cases h
        · rw [if_neg q6] at h
          refine pe_iasti mm_179 rfl rfl (by decide) q6 rfl ?_
          show pm_ev _ _ _ _ _ (40, [some (.ref 17), some (.int a0), some (.int a1), some (.int a2), some (.int a3)], [], _, _, hp (m_i M5 20 (M5.1 17 5 : Int32).toNatClampNeg a2)) _
          generalize m_i M5 20 (M5.1 17 5 : Int32).toNatClampNeg a2 = M7 at h ⊢
          rw [mlet] at h
          refine pe_blk mm_179 1 (s' := (41, [some (.ref 17), some (.int a0), some (.int a1), some (.int a2), some (.int a3)], [.ref 17], _, _, _)) rfl ?_
          refine pe_get mm_179 rfl rfl rfl (by decide) rfl ?_
          refine pe_blk mm_179 1 (s' := (45, [some (.ref 17), some (.int a0), some (.int a1), some (.int a2), some (.int a3)], [.ref 17, .ref 21], _, _, _)) rfl ?_
          refine pe_get mm_179 rfl rfl rfl (by decide) rfl ?_
          refine pe_blk mm_179 1 (s' := (50, [some (.ref 17), some (.int a0), some (.int a1), some (.int a2), some (.int a3)], [.int a3, .int (M7.1 17 5), .ref 21], _, _, _)) rfl ?_
          by_cases q8 : (M7.1 17 5) < 0 ∨ 150 ≤ (M7.1 17 5 : Int32).toNatClampNeg
          · rw [if_pos q8] at h
            cases h
          · rw [if_neg q8] at h
            refine pe_iasti mm_179 rfl rfl (by decide) q8 rfl ?_
            show pm_ev _ _ _ _ _ (51, [some (.ref 17), some (.int a0), some (.int a1), some (.int a2), some (.int a3)], [], _, _, hp (m_i M7 21 (M7.1 17 5 : Int32).toNatClampNeg a3)) _
            generalize m_i M7 21 (M7.1 17 5 : Int32).toNatClampNeg a3 = M9 at h ⊢
            rw [mlet] at h
            refine pe_blk mm_179 2 (s' := (53, [some (.ref 17), some (.int a0), some (.int a1), some (.int a2), some (.int a3)], [.ref 17, .ref 17], _, _, _)) rfl ?_
            refine pe_get mm_179 rfl rfl rfl (by decide) rfl ?_
            refine pe_blk mm_179 2 (s' := (58, [some (.ref 17), some (.int a0), some (.int a1), some (.int a2), some (.int a3)], [.int ((M9.1 17 5) + 1), .ref 17], _, _, _)) rfl ?_
            refine pe_puti mm_179 rfl rfl rfl (by decide) (Nat.le_of_ble_eq_true rfl) rfl rfl ?_
            show pm_ev _ _ _ _ _ (61, [some (.ref 17), some (.int a0), some (.int a1), some (.int a2), some (.int a3)], [], _, _, hp (m_i M9 17 5 ((M9.1 17 5) + 1))) _
            generalize m_i M9 17 5 ((M9.1 17 5) + 1) = M10 at h ⊢
            rw [mlet] at h
            exact J179_61_ev sc n e he _ _ _ _ _ _ _ _ h
def J180_16 (n : Nat) (M : Mem) : Option (Unit × Mem) :=
  some ((), M)
set_option maxRecDepth 100000 in
set_option maxHeartbeats 4000000 in
theorem J180_16_ev (sc : Option (Nat × (Nat → Int32))) (n : Nat)  (e : Nat) (he : 1 ≤ e) : ∀ (u0 : Option Value) (u1 : Option Value) (u2 : Option Value) (M : Mem) (r : Unit) (M' : Mem), J180_16 n  M = some (r, M') → pm_ev pmT sc e 180 false (16, [u0, u1, u2], [], 129, 17845, hp M) (none, 129, 17845, hp M') := by
  intro u0 u1 u2 M r M' h
  unfold J180_16 at h
  cases h
  exact pe_ret mm_180 rfl rfl
/-- ArmExpander$Takings.setRounds -/
def F180 (n : Nat) (a0 : Int32) (a1 : Int32) (M : Mem) : Option (Unit × Mem) :=
  if a0 < 0 then (J180_16 n M) else (if 4 ≤ a0 then (J180_16 n M) else (if a0 < 0 ∨ 4 ≤ (a0 : Int32).toNatClampNeg then none else (mlet (m_i M 22 (a0 : Int32).toNatClampNeg a1) (fun M4 => J180_16 n M4))))
set_option maxRecDepth 100000 in
set_option maxHeartbeats 4000000 in
theorem F180_ev (sc : Option (Nat × (Nat → Int32))) (n : Nat) (a0 : Int32) (a1 : Int32)  (M : Mem) (e : Nat) (he : 1 ≤ e) (r : Unit) (M' : Mem) (h : F180 n a0 a1 M = some (r, M')) : pm_ev pmT sc e 180 false (0, [some (.ref 17), some (.int a0), some (.int a1)], [], 129, 17845, hp M) (none, 129, 17845, hp M') := by
  unfold F180 at h
  refine pe_blk mm_180 1 (s' := (1, [some (.ref 17), some (.int a0), some (.int a1)], [.int a0], _, _, _)) rfl ?_
  by_cases q1 : a0 < 0
  · rw [if_pos q1] at h
    refine pe_blk mm_180 1 (s' := (if a0 < 0 then 16 else 4, [some (.ref 17), some (.int a0), some (.int a1)], [], _, _, _)) rfl ?_
    rw [if_pos q1]
    exact J180_16_ev sc n e he _ _ _ _ _ _ h
  · rw [if_neg q1] at h
    refine pe_blk mm_180 1 (s' := (if a0 < 0 then 16 else 4, [some (.ref 17), some (.int a0), some (.int a1)], [], _, _, _)) rfl ?_
    rw [if_neg q1]
    refine pe_blk mm_180 2 (s' := (6, [some (.ref 17), some (.int a0), some (.int a1)], [.int 4, .int a0], _, _, _)) rfl ?_
    by_cases q2 : 4 ≤ a0
    · rw [if_pos q2] at h
      refine pe_blk mm_180 1 (s' := (if 4 ≤ a0 then 16 else 9, [some (.ref 17), some (.int a0), some (.int a1)], [], _, _, _)) rfl ?_
      rw [if_pos q2]
      exact J180_16_ev sc n e he _ _ _ _ _ _ h
    · rw [if_neg q2] at h
      refine pe_blk mm_180 1 (s' := (if 4 ≤ a0 then 16 else 9, [some (.ref 17), some (.int a0), some (.int a1)], [], _, _, _)) rfl ?_
      rw [if_neg q2]
      refine pe_blk mm_180 1 (s' := (10, [some (.ref 17), some (.int a0), some (.int a1)], [.ref 17], _, _, _)) rfl ?_
      refine pe_get mm_180 rfl rfl rfl (by decide) rfl ?_
      refine pe_blk mm_180 2 (s' := (15, [some (.ref 17), some (.int a0), some (.int a1)], [.int a1, .int a0, .ref 22], _, _, _)) rfl ?_
      by_cases q3 : a0 < 0 ∨ 4 ≤ (a0 : Int32).toNatClampNeg
      · rw [if_pos q3] at h
        cases h
      · rw [if_neg q3] at h
        refine pe_iasti mm_180 rfl rfl (by decide) q3 rfl ?_
        show pm_ev _ _ _ _ _ (16, [some (.ref 17), some (.int a0), some (.int a1)], [], _, _, hp (m_i M 22 (a0 : Int32).toNatClampNeg a1)) _
        generalize m_i M 22 (a0 : Int32).toNatClampNeg a1 = M4 at h ⊢
        rw [mlet] at h
        exact J180_16_ev sc n e he _ _ _ _ _ _ h
def J181_19 (n : Nat) (s0 : Int32) (M : Mem) : Option (Int32 × Mem) :=
  some (s0, M)
set_option maxRecDepth 100000 in
set_option maxHeartbeats 4000000 in
theorem J181_19_ev (sc : Option (Nat × (Nat → Int32))) (n : Nat)  (e : Nat) (he : 1 ≤ e) : ∀ (s0 : Int32) (u0 : Option Value) (u1 : Option Value) (M : Mem) (r : Int32) (M' : Mem), J181_19 n s0 M = some (r, M') → pm_ev pmT sc e 181 false (19, [u0, u1], [.int s0], 129, 17845, hp M) (some (.int r), 129, 17845, hp M') := by
  intro s0 u0 u1 M r M' h
  unfold J181_19 at h
  cases h
  exact pe_ret mm_181 rfl rfl
def J181_18 (n : Nat) (M : Mem) : Option (Int32 × Mem) :=
  J181_19 n 0 M
set_option maxRecDepth 100000 in
set_option maxHeartbeats 4000000 in
theorem J181_18_ev (sc : Option (Nat × (Nat → Int32))) (n : Nat)  (e : Nat) (he : 1 ≤ e) : ∀ (u0 : Option Value) (u1 : Option Value) (M : Mem) (r : Int32) (M' : Mem), J181_18 n  M = some (r, M') → pm_ev pmT sc e 181 false (18, [u0, u1], [], 129, 17845, hp M) (some (.int r), 129, 17845, hp M') := by
  intro u0 u1 M r M' h
  unfold J181_18 at h
  refine pe_blk mm_181 1 (s' := (19, [u0, u1], [.int 0], _, _, _)) rfl ?_
  exact J181_19_ev sc n e he 0 _ _ _ _ _ h
/-- ArmExpander$Takings.roundsOf -/
def F181 (n : Nat) (a0 : Int32) (M : Mem) : Option (Int32 × Mem) :=
  if a0 < 0 then (J181_18 n M) else (if 4 ≤ a0 then (J181_18 n M) else (if a0 < 0 ∨ 4 ≤ (a0 : Int32).toNatClampNeg then none else (J181_19 n (M.1 22 (a0 : Int32).toNatClampNeg) M)))
set_option maxRecDepth 100000 in
set_option maxHeartbeats 4000000 in
theorem F181_ev (sc : Option (Nat × (Nat → Int32))) (n : Nat) (a0 : Int32)  (M : Mem) (e : Nat) (he : 1 ≤ e) (r : Int32) (M' : Mem) (h : F181 n a0 M = some (r, M')) : pm_ev pmT sc e 181 false (0, [some (.ref 17), some (.int a0)], [], 129, 17845, hp M) (some (.int r), 129, 17845, hp M') := by
  unfold F181 at h
  refine pe_blk mm_181 1 (s' := (1, [some (.ref 17), some (.int a0)], [.int a0], _, _, _)) rfl ?_
  by_cases q1 : a0 < 0
  · rw [if_pos q1] at h
    refine pe_blk mm_181 1 (s' := (if a0 < 0 then 18 else 4, [some (.ref 17), some (.int a0)], [], _, _, _)) rfl ?_
    rw [if_pos q1]
    exact J181_18_ev sc n e he _ _ _ _ _ h
  · rw [if_neg q1] at h
    refine pe_blk mm_181 1 (s' := (if a0 < 0 then 18 else 4, [some (.ref 17), some (.int a0)], [], _, _, _)) rfl ?_
    rw [if_neg q1]
    refine pe_blk mm_181 2 (s' := (6, [some (.ref 17), some (.int a0)], [.int 4, .int a0], _, _, _)) rfl ?_
    by_cases q2 : 4 ≤ a0
    · rw [if_pos q2] at h
      refine pe_blk mm_181 1 (s' := (if 4 ≤ a0 then 18 else 9, [some (.ref 17), some (.int a0)], [], _, _, _)) rfl ?_
      rw [if_pos q2]
      exact J181_18_ev sc n e he _ _ _ _ _ h
    · rw [if_neg q2] at h
      refine pe_blk mm_181 1 (s' := (if 4 ≤ a0 then 18 else 9, [some (.ref 17), some (.int a0)], [], _, _, _)) rfl ?_
      rw [if_neg q2]
      refine pe_blk mm_181 1 (s' := (10, [some (.ref 17), some (.int a0)], [.ref 17], _, _, _)) rfl ?_
      refine pe_get mm_181 rfl rfl rfl (by decide) rfl ?_
      refine pe_blk mm_181 1 (s' := (14, [some (.ref 17), some (.int a0)], [.int a0, .ref 22], _, _, _)) rfl ?_
      by_cases q3 : a0 < 0 ∨ 4 ≤ (a0 : Int32).toNatClampNeg
      · rw [if_pos q3] at h
        cases h
      · rw [if_neg q3] at h
        refine pe_iald (f := M.1 22) mm_181 rfl rfl (by decide) q3 ?_
        refine pe_blk mm_181 1 (s' := (19, [some (.ref 17), some (.int a0)], [.int (M.1 22 (a0 : Int32).toNatClampNeg)], _, _, _)) rfl ?_
        exact J181_19_ev sc n e he (M.1 22 (a0 : Int32).toNatClampNeg) _ _ _ _ _ h
def J182_39 (n : Nat) (rec5 : Int32 → Int32 → Int32 → Int32 → Mem → Option (Int32 × Mem)) (x1 : Int32) (x2 : Int32) (x3 : Int32) (x4 : Int32) (M : Mem) : Option (Int32 × Mem) :=
  rec5 x1 x2 x3 (x4 + 1) M
set_option maxRecDepth 100000 in
set_option maxHeartbeats 4000000 in
theorem J182_39_ev (sc : Option (Nat × (Nat → Int32))) (n : Nat)  (e : Nat) (he : 1 ≤ e) (rec5 : Int32 → Int32 → Int32 → Int32 → Mem → Option (Int32 × Mem)) (hr5 : ∀ (x1 : Int32) (x2 : Int32) (x3 : Int32) (x4 : Int32) (M : Mem) (r : Int32) (M' : Mem), rec5 x1 x2 x3 x4 M = some (r, M') → pm_ev pmT sc e 182 false (5, [some (.ref 17), some (.int x1), some (.int x2), some (.int x3), some (.int x4)], [], 129, 17845, hp M) (some (.int r), 129, 17845, hp M')) : ∀ (x1 : Int32) (x2 : Int32) (x3 : Int32) (x4 : Int32) (M : Mem) (r : Int32) (M' : Mem), J182_39 n rec5 x1 x2 x3 x4 M = some (r, M') → pm_ev pmT sc e 182 false (39, [some (.ref 17), some (.int x1), some (.int x2), some (.int x3), some (.int x4)], [], 129, 17845, hp M) (some (.int r), 129, 17845, hp M') := by
  intro x1 x2 x3 x4  M r M' h
  unfold J182_39 at h
  refine pe_blk mm_182 2 (s' := (5, [some (.ref 17), some (.int x1), some (.int x2), some (.int x3), some (.int (x4 + 1))], [], _, _, _)) rfl ?_
  exact hr5 x1 x2 x3 (x4 + 1) _ _ _ h
def L182_5 (n : Nat) : Nat → Int32 → Int32 → Int32 → Int32 → Mem → Option (Int32 × Mem)
  | 0, _, _, _, _, _ => none
  | k + 1, x1, x2, x3, x4, M => if (M.1 17 5) ≤ x4 then (some (x3, M)) else (if x4 < 0 ∨ 150 ≤ (x4 : Int32).toNatClampNeg then none else (if (M.1 18 (x4 : Int32).toNatClampNeg) = x1 then (if x4 < 0 ∨ 150 ≤ (x4 : Int32).toNatClampNeg then none else (if (M.1 19 (x4 : Int32).toNatClampNeg) = x2 then (J182_39 n (L182_5 n k) x1 x2 (x3 + 1) x4 M) else (J182_39 n (L182_5 n k) x1 x2 x3 x4 M))) else (J182_39 n (L182_5 n k) x1 x2 x3 x4 M)))
set_option maxRecDepth 100000 in
set_option maxHeartbeats 4000000 in
theorem L182_5_ev (sc : Option (Nat × (Nat → Int32))) (n : Nat)  (e : Nat) (he : 1 ≤ e) : ∀ k : Nat, ∀ (x1 : Int32) (x2 : Int32) (x3 : Int32) (x4 : Int32) (M : Mem) (r : Int32) (M' : Mem), L182_5 n k x1 x2 x3 x4 M = some (r, M') → pm_ev pmT sc e 182 false (5, [some (.ref 17), some (.int x1), some (.int x2), some (.int x3), some (.int x4)], [], 129, 17845, hp M) (some (.int r), 129, 17845, hp M') := by
  intro k
  induction k with
  | zero => intro x1 x2 x3 x4  M r M' h; cases h
  | succ k hr5 =>
    intro x1 x2 x3 x4  M r M' h
    rw [L182_5] at h
    refine pe_blk mm_182 2 (s' := (8, [some (.ref 17), some (.int x1), some (.int x2), some (.int x3), some (.int x4)], [.ref 17, .int x4], _, _, _)) rfl ?_
    refine pe_get mm_182 rfl rfl rfl (by decide) rfl ?_
    by_cases q1 : (M.1 17 5) ≤ x4
    · rw [if_pos q1] at h
      refine pe_blk mm_182 1 (s' := (if (M.1 17 5) ≤ x4 then 45 else 14, [some (.ref 17), some (.int x1), some (.int x2), some (.int x3), some (.int x4)], [], _, _, _)) rfl ?_
      rw [if_pos q1]
      refine pe_blk mm_182 1 (s' := (46, [some (.ref 17), some (.int x1), some (.int x2), some (.int x3), some (.int x4)], [.int x3], _, _, _)) rfl ?_
      cases h
      exact pe_ret mm_182 rfl rfl
    · rw [if_neg q1] at h
      refine pe_blk mm_182 1 (s' := (if (M.1 17 5) ≤ x4 then 45 else 14, [some (.ref 17), some (.int x1), some (.int x2), some (.int x3), some (.int x4)], [], _, _, _)) rfl ?_
      rw [if_neg q1]
      refine pe_blk mm_182 1 (s' := (15, [some (.ref 17), some (.int x1), some (.int x2), some (.int x3), some (.int x4)], [.ref 17], _, _, _)) rfl ?_
      refine pe_get mm_182 rfl rfl rfl (by decide) rfl ?_
      refine pe_blk mm_182 1 (s' := (20, [some (.ref 17), some (.int x1), some (.int x2), some (.int x3), some (.int x4)], [.int x4, .ref 18], _, _, _)) rfl ?_
      by_cases q2 : x4 < 0 ∨ 150 ≤ (x4 : Int32).toNatClampNeg
      · rw [if_pos q2] at h
        cases h
      · rw [if_neg q2] at h
        refine pe_iald (f := M.1 18) mm_182 rfl rfl (by decide) q2 ?_
        refine pe_blk mm_182 1 (s' := (22, [some (.ref 17), some (.int x1), some (.int x2), some (.int x3), some (.int x4)], [.int x1, .int (M.1 18 (x4 : Int32).toNatClampNeg)], _, _, _)) rfl ?_
        by_cases q3 : (M.1 18 (x4 : Int32).toNatClampNeg) = x1
        · rw [if_pos q3] at h
          refine pe_blk mm_182 1 (s' := (if (M.1 18 (x4 : Int32).toNatClampNeg) = x1 then 25 else 39, [some (.ref 17), some (.int x1), some (.int x2), some (.int x3), some (.int x4)], [], _, _, _)) rfl ?_
          rw [if_pos q3]
          refine pe_blk mm_182 1 (s' := (26, [some (.ref 17), some (.int x1), some (.int x2), some (.int x3), some (.int x4)], [.ref 17], _, _, _)) rfl ?_
          refine pe_get mm_182 rfl rfl rfl (by decide) rfl ?_
          refine pe_blk mm_182 1 (s' := (31, [some (.ref 17), some (.int x1), some (.int x2), some (.int x3), some (.int x4)], [.int x4, .ref 19], _, _, _)) rfl ?_
          by_cases q4 : x4 < 0 ∨ 150 ≤ (x4 : Int32).toNatClampNeg
          · rw [if_pos q4] at h
            cases h
          · rw [if_neg q4] at h
            refine pe_iald (f := M.1 19) mm_182 rfl rfl (by decide) q4 ?_
            refine pe_blk mm_182 1 (s' := (33, [some (.ref 17), some (.int x1), some (.int x2), some (.int x3), some (.int x4)], [.int x2, .int (M.1 19 (x4 : Int32).toNatClampNeg)], _, _, _)) rfl ?_
            by_cases q5 : (M.1 19 (x4 : Int32).toNatClampNeg) = x2
            · rw [if_pos q5] at h
              refine pe_blk mm_182 1 (s' := (if (M.1 19 (x4 : Int32).toNatClampNeg) = x2 then 36 else 39, [some (.ref 17), some (.int x1), some (.int x2), some (.int x3), some (.int x4)], [], _, _, _)) rfl ?_
              rw [if_pos q5]
              refine pe_blk mm_182 1 (s' := (39, [some (.ref 17), some (.int x1), some (.int x2), some (.int (x3 + 1)), some (.int x4)], [], _, _, _)) rfl ?_
              exact J182_39_ev sc n e he (L182_5 n k) hr5 x1 x2 (x3 + 1) x4 _ _ _ h
            · rw [if_neg q5] at h
              refine pe_blk mm_182 1 (s' := (if (M.1 19 (x4 : Int32).toNatClampNeg) = x2 then 36 else 39, [some (.ref 17), some (.int x1), some (.int x2), some (.int x3), some (.int x4)], [], _, _, _)) rfl ?_
              rw [if_neg q5]
              exact J182_39_ev sc n e he (L182_5 n k) hr5 x1 x2 x3 x4 _ _ _ h
        · rw [if_neg q3] at h
          refine pe_blk mm_182 1 (s' := (if (M.1 18 (x4 : Int32).toNatClampNeg) = x1 then 25 else 39, [some (.ref 17), some (.int x1), some (.int x2), some (.int x3), some (.int x4)], [], _, _, _)) rfl ?_
          rw [if_neg q3]
          exact J182_39_ev sc n e he (L182_5 n k) hr5 x1 x2 x3 x4 _ _ _ h
/-- ArmExpander$Takings.timesTaken -/
def F182 (n : Nat) (a0 : Int32) (a1 : Int32) (M : Mem) : Option (Int32 × Mem) :=
  L182_5 n n a0 a1 0 0 M
set_option maxRecDepth 100000 in
set_option maxHeartbeats 4000000 in
theorem F182_ev (sc : Option (Nat × (Nat → Int32))) (n : Nat) (a0 : Int32) (a1 : Int32)  (M : Mem) (e : Nat) (he : 1 ≤ e) (r : Int32) (M' : Mem) (h : F182 n a0 a1 M = some (r, M')) : pm_ev pmT sc e 182 false (0, [some (.ref 17), some (.int a0), some (.int a1), none, none], [], 129, 17845, hp M) (some (.int r), 129, 17845, hp M') := by
  unfold F182 at h
  refine pe_blk mm_182 4 (s' := (5, [some (.ref 17), some (.int a0), some (.int a1), some (.int 0), some (.int 0)], [], _, _, _)) rfl ?_
  exact L182_5_ev sc n e he n a0 a1 0 0 _ _ _ h
def J183_49 (n : Nat) (rec6 : Int32 → Int32 → Int32 → Int32 → Int32 → Mem → Option (Int32 × Mem)) (x1 : Int32) (x2 : Int32) (x3 : Int32) (x4 : Int32) (x5 : Int32) (M : Mem) : Option (Int32 × Mem) :=
  rec6 x1 x2 x3 x4 (x5 + 1) M
set_option maxRecDepth 100000 in
set_option maxHeartbeats 4000000 in
theorem J183_49_ev (sc : Option (Nat × (Nat → Int32))) (n : Nat)  (e : Nat) (he : 1 ≤ e) (rec6 : Int32 → Int32 → Int32 → Int32 → Int32 → Mem → Option (Int32 × Mem)) (hr6 : ∀ (x1 : Int32) (x2 : Int32) (x3 : Int32) (x4 : Int32) (x5 : Int32) (M : Mem) (r : Int32) (M' : Mem), rec6 x1 x2 x3 x4 x5 M = some (r, M') → pm_ev pmT sc e 183 false (6, [some (.ref 17), some (.int x1), some (.int x2), some (.int x3), some (.int x4), some (.int x5)], [], 129, 17845, hp M) (some (.int r), 129, 17845, hp M')) : ∀ (x1 : Int32) (x2 : Int32) (x3 : Int32) (x4 : Int32) (x5 : Int32) (M : Mem) (r : Int32) (M' : Mem), J183_49 n rec6 x1 x2 x3 x4 x5 M = some (r, M') → pm_ev pmT sc e 183 false (49, [some (.ref 17), some (.int x1), some (.int x2), some (.int x3), some (.int x4), some (.int x5)], [], 129, 17845, hp M) (some (.int r), 129, 17845, hp M') := by
  intro x1 x2 x3 x4 x5  M r M' h
  unfold J183_49 at h
  refine pe_blk mm_183 2 (s' := (6, [some (.ref 17), some (.int x1), some (.int x2), some (.int x3), some (.int x4), some (.int (x5 + 1))], [], _, _, _)) rfl ?_
  exact hr6 x1 x2 x3 x4 (x5 + 1) _ _ _ h
def L183_6 (n : Nat) : Nat → Int32 → Int32 → Int32 → Int32 → Int32 → Mem → Option (Int32 × Mem)
  | 0, _, _, _, _, _, _ => none
  | k + 1, x1, x2, x3, x4, x5, M => if (M.1 17 5) ≤ x5 then (some ((-1), M)) else (if x5 < 0 ∨ 150 ≤ (x5 : Int32).toNatClampNeg then none else (if (M.1 18 (x5 : Int32).toNatClampNeg) = x1 then (if x5 < 0 ∨ 150 ≤ (x5 : Int32).toNatClampNeg then none else (if (M.1 19 (x5 : Int32).toNatClampNeg) = x2 then (if x4 = x3 then (some (x5, M)) else (J183_49 n (L183_6 n k) x1 x2 x3 (x4 + 1) x5 M)) else (J183_49 n (L183_6 n k) x1 x2 x3 x4 x5 M))) else (J183_49 n (L183_6 n k) x1 x2 x3 x4 x5 M)))
set_option maxRecDepth 100000 in
set_option maxHeartbeats 4000000 in
theorem L183_6_ev (sc : Option (Nat × (Nat → Int32))) (n : Nat)  (e : Nat) (he : 1 ≤ e) : ∀ k : Nat, ∀ (x1 : Int32) (x2 : Int32) (x3 : Int32) (x4 : Int32) (x5 : Int32) (M : Mem) (r : Int32) (M' : Mem), L183_6 n k x1 x2 x3 x4 x5 M = some (r, M') → pm_ev pmT sc e 183 false (6, [some (.ref 17), some (.int x1), some (.int x2), some (.int x3), some (.int x4), some (.int x5)], [], 129, 17845, hp M) (some (.int r), 129, 17845, hp M') := by
  intro k
  induction k with
  | zero => intro x1 x2 x3 x4 x5  M r M' h; cases h
  | succ k hr6 =>
    intro x1 x2 x3 x4 x5  M r M' h
    rw [L183_6] at h
    refine pe_blk mm_183 2 (s' := (9, [some (.ref 17), some (.int x1), some (.int x2), some (.int x3), some (.int x4), some (.int x5)], [.ref 17, .int x5], _, _, _)) rfl ?_
    refine pe_get mm_183 rfl rfl rfl (by decide) rfl ?_
    by_cases q1 : (M.1 17 5) ≤ x5
    · rw [if_pos q1] at h
      refine pe_blk mm_183 1 (s' := (if (M.1 17 5) ≤ x5 then 55 else 15, [some (.ref 17), some (.int x1), some (.int x2), some (.int x3), some (.int x4), some (.int x5)], [], _, _, _)) rfl ?_
      rw [if_pos q1]
      refine pe_blk mm_183 1 (s' := (56, [some (.ref 17), some (.int x1), some (.int x2), some (.int x3), some (.int x4), some (.int x5)], [.int (-1)], _, _, _)) rfl ?_
      cases h
      exact pe_ret mm_183 rfl rfl
    · rw [if_neg q1] at h
      refine pe_blk mm_183 1 (s' := (if (M.1 17 5) ≤ x5 then 55 else 15, [some (.ref 17), some (.int x1), some (.int x2), some (.int x3), some (.int x4), some (.int x5)], [], _, _, _)) rfl ?_
      rw [if_neg q1]
      refine pe_blk mm_183 1 (s' := (16, [some (.ref 17), some (.int x1), some (.int x2), some (.int x3), some (.int x4), some (.int x5)], [.ref 17], _, _, _)) rfl ?_
      refine pe_get mm_183 rfl rfl rfl (by decide) rfl ?_
      refine pe_blk mm_183 1 (s' := (21, [some (.ref 17), some (.int x1), some (.int x2), some (.int x3), some (.int x4), some (.int x5)], [.int x5, .ref 18], _, _, _)) rfl ?_
      by_cases q2 : x5 < 0 ∨ 150 ≤ (x5 : Int32).toNatClampNeg
      · rw [if_pos q2] at h
        cases h
      · rw [if_neg q2] at h
        refine pe_iald (f := M.1 18) mm_183 rfl rfl (by decide) q2 ?_
        refine pe_blk mm_183 1 (s' := (23, [some (.ref 17), some (.int x1), some (.int x2), some (.int x3), some (.int x4), some (.int x5)], [.int x1, .int (M.1 18 (x5 : Int32).toNatClampNeg)], _, _, _)) rfl ?_
        by_cases q3 : (M.1 18 (x5 : Int32).toNatClampNeg) = x1
        · rw [if_pos q3] at h
          refine pe_blk mm_183 1 (s' := (if (M.1 18 (x5 : Int32).toNatClampNeg) = x1 then 26 else 49, [some (.ref 17), some (.int x1), some (.int x2), some (.int x3), some (.int x4), some (.int x5)], [], _, _, _)) rfl ?_
          rw [if_pos q3]
          refine pe_blk mm_183 1 (s' := (27, [some (.ref 17), some (.int x1), some (.int x2), some (.int x3), some (.int x4), some (.int x5)], [.ref 17], _, _, _)) rfl ?_
          refine pe_get mm_183 rfl rfl rfl (by decide) rfl ?_
          refine pe_blk mm_183 1 (s' := (32, [some (.ref 17), some (.int x1), some (.int x2), some (.int x3), some (.int x4), some (.int x5)], [.int x5, .ref 19], _, _, _)) rfl ?_
          by_cases q4 : x5 < 0 ∨ 150 ≤ (x5 : Int32).toNatClampNeg
          · rw [if_pos q4] at h
            cases h
          · rw [if_neg q4] at h
            refine pe_iald (f := M.1 19) mm_183 rfl rfl (by decide) q4 ?_
            refine pe_blk mm_183 1 (s' := (34, [some (.ref 17), some (.int x1), some (.int x2), some (.int x3), some (.int x4), some (.int x5)], [.int x2, .int (M.1 19 (x5 : Int32).toNatClampNeg)], _, _, _)) rfl ?_
            by_cases q5 : (M.1 19 (x5 : Int32).toNatClampNeg) = x2
            · rw [if_pos q5] at h
              refine pe_blk mm_183 1 (s' := (if (M.1 19 (x5 : Int32).toNatClampNeg) = x2 then 37 else 49, [some (.ref 17), some (.int x1), some (.int x2), some (.int x3), some (.int x4), some (.int x5)], [], _, _, _)) rfl ?_
              rw [if_pos q5]
              refine pe_blk mm_183 2 (s' := (40, [some (.ref 17), some (.int x1), some (.int x2), some (.int x3), some (.int x4), some (.int x5)], [.int x3, .int x4], _, _, _)) rfl ?_
              by_cases q6 : x4 = x3
              · rw [if_pos q6] at h
                refine pe_blk mm_183 1 (s' := (if x4 = x3 then 43 else 46, [some (.ref 17), some (.int x1), some (.int x2), some (.int x3), some (.int x4), some (.int x5)], [], _, _, _)) rfl ?_
                rw [if_pos q6]
                refine pe_blk mm_183 1 (s' := (45, [some (.ref 17), some (.int x1), some (.int x2), some (.int x3), some (.int x4), some (.int x5)], [.int x5], _, _, _)) rfl ?_
                cases h
                exact pe_ret mm_183 rfl rfl
              · rw [if_neg q6] at h
                refine pe_blk mm_183 1 (s' := (if x4 = x3 then 43 else 46, [some (.ref 17), some (.int x1), some (.int x2), some (.int x3), some (.int x4), some (.int x5)], [], _, _, _)) rfl ?_
                rw [if_neg q6]
                refine pe_blk mm_183 1 (s' := (49, [some (.ref 17), some (.int x1), some (.int x2), some (.int x3), some (.int (x4 + 1)), some (.int x5)], [], _, _, _)) rfl ?_
                exact J183_49_ev sc n e he (L183_6 n k) hr6 x1 x2 x3 (x4 + 1) x5 _ _ _ h
            · rw [if_neg q5] at h
              refine pe_blk mm_183 1 (s' := (if (M.1 19 (x5 : Int32).toNatClampNeg) = x2 then 37 else 49, [some (.ref 17), some (.int x1), some (.int x2), some (.int x3), some (.int x4), some (.int x5)], [], _, _, _)) rfl ?_
              rw [if_neg q5]
              exact J183_49_ev sc n e he (L183_6 n k) hr6 x1 x2 x3 x4 x5 _ _ _ h
        · rw [if_neg q3] at h
          refine pe_blk mm_183 1 (s' := (if (M.1 18 (x5 : Int32).toNatClampNeg) = x1 then 26 else 49, [some (.ref 17), some (.int x1), some (.int x2), some (.int x3), some (.int x4), some (.int x5)], [], _, _, _)) rfl ?_
          rw [if_neg q3]
          exact J183_49_ev sc n e he (L183_6 n k) hr6 x1 x2 x3 x4 x5 _ _ _ h
/-- ArmExpander$Takings.find -/
def F183 (n : Nat) (a0 : Int32) (a1 : Int32) (a2 : Int32) (M : Mem) : Option (Int32 × Mem) :=
  L183_6 n n a0 a1 a2 0 0 M
set_option maxRecDepth 100000 in
set_option maxHeartbeats 4000000 in
theorem F183_ev (sc : Option (Nat × (Nat → Int32))) (n : Nat) (a0 : Int32) (a1 : Int32) (a2 : Int32)  (M : Mem) (e : Nat) (he : 1 ≤ e) (r : Int32) (M' : Mem) (h : F183 n a0 a1 a2 M = some (r, M')) : pm_ev pmT sc e 183 false (0, [some (.ref 17), some (.int a0), some (.int a1), some (.int a2), none, none], [], 129, 17845, hp M) (some (.int r), 129, 17845, hp M') := by
  unfold F183 at h
  refine pe_blk mm_183 4 (s' := (6, [some (.ref 17), some (.int a0), some (.int a1), some (.int a2), some (.int 0), some (.int 0)], [], _, _, _)) rfl ?_
  exact L183_6_ev sc n e he n a0 a1 a2 0 0 _ _ _ h
def J184_22 (n : Nat) (s0 : Int32) (M : Mem) : Option (Int32 × Mem) :=
  some (s0, M)
set_option maxRecDepth 100000 in
set_option maxHeartbeats 4000000 in
theorem J184_22_ev (sc : Option (Nat × (Nat → Int32))) (n : Nat)  (e : Nat) (he : 1 ≤ e) : ∀ (s0 : Int32) (u0 : Option Value) (u1 : Option Value) (M : Mem) (r : Int32) (M' : Mem), J184_22 n s0 M = some (r, M') → pm_ev pmT sc e 184 false (22, [u0, u1], [.int s0], 129, 17845, hp M) (some (.int r), 129, 17845, hp M') := by
  intro s0 u0 u1 M r M' h
  unfold J184_22 at h
  cases h
  exact pe_ret mm_184 rfl rfl
def J184_21 (n : Nat) (M : Mem) : Option (Int32 × Mem) :=
  J184_22 n 0 M
set_option maxRecDepth 100000 in
set_option maxHeartbeats 4000000 in
theorem J184_21_ev (sc : Option (Nat × (Nat → Int32))) (n : Nat)  (e : Nat) (he : 1 ≤ e) : ∀ (u0 : Option Value) (u1 : Option Value) (M : Mem) (r : Int32) (M' : Mem), J184_21 n  M = some (r, M') → pm_ev pmT sc e 184 false (21, [u0, u1], [], 129, 17845, hp M) (some (.int r), 129, 17845, hp M') := by
  intro u0 u1 M r M' h
  unfold J184_21 at h
  refine pe_blk mm_184 1 (s' := (22, [u0, u1], [.int 0], _, _, _)) rfl ?_
  exact J184_22_ev sc n e he 0 _ _ _ _ _ h
/-- ArmExpander$Takings.fromOf -/
def F184 (n : Nat) (a0 : Int32) (M : Mem) : Option (Int32 × Mem) :=
  if a0 < 0 then (J184_21 n M) else (if (M.1 17 5) ≤ a0 then (J184_21 n M) else (if a0 < 0 ∨ 150 ≤ (a0 : Int32).toNatClampNeg then none else (J184_22 n (M.1 20 (a0 : Int32).toNatClampNeg) M)))
set_option maxRecDepth 100000 in
set_option maxHeartbeats 4000000 in
theorem F184_ev (sc : Option (Nat × (Nat → Int32))) (n : Nat) (a0 : Int32)  (M : Mem) (e : Nat) (he : 1 ≤ e) (r : Int32) (M' : Mem) (h : F184 n a0 M = some (r, M')) : pm_ev pmT sc e 184 false (0, [some (.ref 17), some (.int a0)], [], 129, 17845, hp M) (some (.int r), 129, 17845, hp M') := by
  unfold F184 at h
  refine pe_blk mm_184 1 (s' := (1, [some (.ref 17), some (.int a0)], [.int a0], _, _, _)) rfl ?_
  by_cases q1 : a0 < 0
  · rw [if_pos q1] at h
    refine pe_blk mm_184 1 (s' := (if a0 < 0 then 21 else 4, [some (.ref 17), some (.int a0)], [], _, _, _)) rfl ?_
    rw [if_pos q1]
    exact J184_21_ev sc n e he _ _ _ _ _ h
  · rw [if_neg q1] at h
    refine pe_blk mm_184 1 (s' := (if a0 < 0 then 21 else 4, [some (.ref 17), some (.int a0)], [], _, _, _)) rfl ?_
    rw [if_neg q1]
    refine pe_blk mm_184 2 (s' := (6, [some (.ref 17), some (.int a0)], [.ref 17, .int a0], _, _, _)) rfl ?_
    refine pe_get mm_184 rfl rfl rfl (by decide) rfl ?_
    by_cases q2 : (M.1 17 5) ≤ a0
    · rw [if_pos q2] at h
      refine pe_blk mm_184 1 (s' := (if (M.1 17 5) ≤ a0 then 21 else 12, [some (.ref 17), some (.int a0)], [], _, _, _)) rfl ?_
      rw [if_pos q2]
      exact J184_21_ev sc n e he _ _ _ _ _ h
    · rw [if_neg q2] at h
      refine pe_blk mm_184 1 (s' := (if (M.1 17 5) ≤ a0 then 21 else 12, [some (.ref 17), some (.int a0)], [], _, _, _)) rfl ?_
      rw [if_neg q2]
      refine pe_blk mm_184 1 (s' := (13, [some (.ref 17), some (.int a0)], [.ref 17], _, _, _)) rfl ?_
      refine pe_get mm_184 rfl rfl rfl (by decide) rfl ?_
      refine pe_blk mm_184 1 (s' := (17, [some (.ref 17), some (.int a0)], [.int a0, .ref 20], _, _, _)) rfl ?_
      by_cases q3 : a0 < 0 ∨ 150 ≤ (a0 : Int32).toNatClampNeg
      · rw [if_pos q3] at h
        cases h
      · rw [if_neg q3] at h
        refine pe_iald (f := M.1 20) mm_184 rfl rfl (by decide) q3 ?_
        refine pe_blk mm_184 1 (s' := (22, [some (.ref 17), some (.int a0)], [.int (M.1 20 (a0 : Int32).toNatClampNeg)], _, _, _)) rfl ?_
        exact J184_22_ev sc n e he (M.1 20 (a0 : Int32).toNatClampNeg) _ _ _ _ _ h
def J185_22 (n : Nat) (s0 : Int32) (M : Mem) : Option (Int32 × Mem) :=
  some (s0, M)
set_option maxRecDepth 100000 in
set_option maxHeartbeats 4000000 in
theorem J185_22_ev (sc : Option (Nat × (Nat → Int32))) (n : Nat)  (e : Nat) (he : 1 ≤ e) : ∀ (s0 : Int32) (u0 : Option Value) (u1 : Option Value) (M : Mem) (r : Int32) (M' : Mem), J185_22 n s0 M = some (r, M') → pm_ev pmT sc e 185 false (22, [u0, u1], [.int s0], 129, 17845, hp M) (some (.int r), 129, 17845, hp M') := by
  intro s0 u0 u1 M r M' h
  unfold J185_22 at h
  cases h
  exact pe_ret mm_185 rfl rfl
def J185_21 (n : Nat) (M : Mem) : Option (Int32 × Mem) :=
  J185_22 n 0 M
set_option maxRecDepth 100000 in
set_option maxHeartbeats 4000000 in
theorem J185_21_ev (sc : Option (Nat × (Nat → Int32))) (n : Nat)  (e : Nat) (he : 1 ≤ e) : ∀ (u0 : Option Value) (u1 : Option Value) (M : Mem) (r : Int32) (M' : Mem), J185_21 n  M = some (r, M') → pm_ev pmT sc e 185 false (21, [u0, u1], [], 129, 17845, hp M) (some (.int r), 129, 17845, hp M') := by
  intro u0 u1 M r M' h
  unfold J185_21 at h
  refine pe_blk mm_185 1 (s' := (22, [u0, u1], [.int 0], _, _, _)) rfl ?_
  exact J185_22_ev sc n e he 0 _ _ _ _ _ h
/-- ArmExpander$Takings.toOf -/
def F185 (n : Nat) (a0 : Int32) (M : Mem) : Option (Int32 × Mem) :=
  if a0 < 0 then (J185_21 n M) else (if (M.1 17 5) ≤ a0 then (J185_21 n M) else (if a0 < 0 ∨ 150 ≤ (a0 : Int32).toNatClampNeg then none else (J185_22 n (M.1 21 (a0 : Int32).toNatClampNeg) M)))
set_option maxRecDepth 100000 in
set_option maxHeartbeats 4000000 in
theorem F185_ev (sc : Option (Nat × (Nat → Int32))) (n : Nat) (a0 : Int32)  (M : Mem) (e : Nat) (he : 1 ≤ e) (r : Int32) (M' : Mem) (h : F185 n a0 M = some (r, M')) : pm_ev pmT sc e 185 false (0, [some (.ref 17), some (.int a0)], [], 129, 17845, hp M) (some (.int r), 129, 17845, hp M') := by
  unfold F185 at h
  refine pe_blk mm_185 1 (s' := (1, [some (.ref 17), some (.int a0)], [.int a0], _, _, _)) rfl ?_
  by_cases q1 : a0 < 0
  · rw [if_pos q1] at h
    refine pe_blk mm_185 1 (s' := (if a0 < 0 then 21 else 4, [some (.ref 17), some (.int a0)], [], _, _, _)) rfl ?_
    rw [if_pos q1]
    exact J185_21_ev sc n e he _ _ _ _ _ h
  · rw [if_neg q1] at h
    refine pe_blk mm_185 1 (s' := (if a0 < 0 then 21 else 4, [some (.ref 17), some (.int a0)], [], _, _, _)) rfl ?_
    rw [if_neg q1]
    refine pe_blk mm_185 2 (s' := (6, [some (.ref 17), some (.int a0)], [.ref 17, .int a0], _, _, _)) rfl ?_
    refine pe_get mm_185 rfl rfl rfl (by decide) rfl ?_
    by_cases q2 : (M.1 17 5) ≤ a0
    · rw [if_pos q2] at h
      refine pe_blk mm_185 1 (s' := (if (M.1 17 5) ≤ a0 then 21 else 12, [some (.ref 17), some (.int a0)], [], _, _, _)) rfl ?_
      rw [if_pos q2]
      exact J185_21_ev sc n e he _ _ _ _ _ h
    · rw [if_neg q2] at h
      refine pe_blk mm_185 1 (s' := (if (M.1 17 5) ≤ a0 then 21 else 12, [some (.ref 17), some (.int a0)], [], _, _, _)) rfl ?_
      rw [if_neg q2]
      refine pe_blk mm_185 1 (s' := (13, [some (.ref 17), some (.int a0)], [.ref 17], _, _, _)) rfl ?_
      refine pe_get mm_185 rfl rfl rfl (by decide) rfl ?_
      refine pe_blk mm_185 1 (s' := (17, [some (.ref 17), some (.int a0)], [.int a0, .ref 21], _, _, _)) rfl ?_
      by_cases q3 : a0 < 0 ∨ 150 ≤ (a0 : Int32).toNatClampNeg
      · rw [if_pos q3] at h
        cases h
      · rw [if_neg q3] at h
        refine pe_iald (f := M.1 21) mm_185 rfl rfl (by decide) q3 ?_
        refine pe_blk mm_185 1 (s' := (22, [some (.ref 17), some (.int a0)], [.int (M.1 21 (a0 : Int32).toNatClampNeg)], _, _, _)) rfl ?_
        exact J185_22_ev sc n e he (M.1 21 (a0 : Int32).toNatClampNeg) _ _ _ _ _ h
def J188_20 (n : Nat) (b : Nat) (s0 : Int32) (M : Mem) : Option (Int32 × Mem) :=
  some (s0, M)
set_option maxRecDepth 100000 in
set_option maxHeartbeats 4000000 in
theorem J188_20_ev (sc : Option (Nat × (Nat → Int32))) (n : Nat) (b : Nat) (hb : isT b) (e : Nat) (he : 1 ≤ e) : ∀ (s0 : Int32) (u0 : Option Value) (u1 : Option Value) (M : Mem) (r : Int32) (M' : Mem), J188_20 n b s0 M = some (r, M') → pm_ev pmT sc e 188 false (20, [u0, u1], [.int s0], 129, 17845, hp M) (some (.int r), 129, 17845, hp M') := by
  intro s0 u0 u1 M r M' h
  unfold J188_20 at h
  cases h
  exact pe_ret mm_188 rfl rfl
def J188_19 (n : Nat) (b : Nat) (M : Mem) : Option (Int32 × Mem) :=
  J188_20 n b 0 M
set_option maxRecDepth 100000 in
set_option maxHeartbeats 4000000 in
theorem J188_19_ev (sc : Option (Nat × (Nat → Int32))) (n : Nat) (b : Nat) (hb : isT b) (e : Nat) (he : 1 ≤ e) : ∀ (u0 : Option Value) (u1 : Option Value) (M : Mem) (r : Int32) (M' : Mem), J188_19 n b  M = some (r, M') → pm_ev pmT sc e 188 false (19, [u0, u1], [], 129, 17845, hp M) (some (.int r), 129, 17845, hp M') := by
  intro u0 u1 M r M' h
  unfold J188_19 at h
  refine pe_blk mm_188 1 (s' := (20, [u0, u1], [.int 0], _, _, _)) rfl ?_
  exact J188_20_ev sc n b hb e he 0 _ _ _ _ _ h
/-- ArmExpander$Threads.manyAt -/
def F188 (n : Nat) (b : Nat) (a0 : Int32) (M : Mem) : Option (Int32 × Mem) :=
  if a0 < 0 then (J188_19 n b M) else (if 120 ≤ a0 then (J188_19 n b M) else (if a0 < 0 ∨ 120 ≤ (a0 : Int32).toNatClampNeg then none else (J188_20 n b (M.1 (b + 1) (a0 : Int32).toNatClampNeg) M)))
set_option maxRecDepth 100000 in
set_option maxHeartbeats 4000000 in
theorem F188_ev (sc : Option (Nat × (Nat → Int32))) (n : Nat) (b : Nat) (a0 : Int32) (hb : isT b) (M : Mem) (e : Nat) (he : 1 ≤ e) (r : Int32) (M' : Mem) (h : F188 n b a0 M = some (r, M')) : pm_ev pmT sc e 188 false (0, [some (.ref b), some (.int a0)], [], 129, 17845, hp M) (some (.int r), 129, 17845, hp M') := by
  unfold F188 at h
  refine pe_blk mm_188 1 (s' := (1, [some (.ref b), some (.int a0)], [.int a0], _, _, _)) rfl ?_
  by_cases q1 : a0 < 0
  · rw [if_pos q1] at h
    refine pe_blk mm_188 1 (s' := (if a0 < 0 then 19 else 4, [some (.ref b), some (.int a0)], [], _, _, _)) rfl ?_
    rw [if_pos q1]
    exact J188_19_ev sc n b hb e he _ _ _ _ _ h
  · rw [if_neg q1] at h
    refine pe_blk mm_188 1 (s' := (if a0 < 0 then 19 else 4, [some (.ref b), some (.int a0)], [], _, _, _)) rfl ?_
    rw [if_neg q1]
    refine pe_blk mm_188 2 (s' := (7, [some (.ref b), some (.int a0)], [.int 120, .int a0], _, _, _)) rfl ?_
    by_cases q2 : 120 ≤ a0
    · rw [if_pos q2] at h
      refine pe_blk mm_188 1 (s' := (if 120 ≤ a0 then 19 else 10, [some (.ref b), some (.int a0)], [], _, _, _)) rfl ?_
      rw [if_pos q2]
      exact J188_19_ev sc n b hb e he _ _ _ _ _ h
    · rw [if_neg q2] at h
      refine pe_blk mm_188 1 (s' := (if 120 ≤ a0 then 19 else 10, [some (.ref b), some (.int a0)], [], _, _, _)) rfl ?_
      rw [if_neg q2]
      refine pe_blk mm_188 1 (s' := (11, [some (.ref b), some (.int a0)], [.ref b], _, _, _)) rfl ?_
      refine pe_get mm_188 rfl rfl (isT_0 hb _) (by have := isT_lt hb; omega) rfl ?_
      refine pe_blk mm_188 1 (s' := (15, [some (.ref b), some (.int a0)], [.int a0, .ref (b + 1)], _, _, _)) rfl ?_
      by_cases q3 : a0 < 0 ∨ 120 ≤ (a0 : Int32).toNatClampNeg
      · rw [if_pos q3] at h
        cases h
      · rw [if_neg q3] at h
        refine pe_iald (f := M.1 (b + 1)) mm_188 rfl (isT_1 hb _) (by have := isT_lt hb; omega) q3 ?_
        refine pe_blk mm_188 1 (s' := (20, [some (.ref b), some (.int a0)], [.int (M.1 (b + 1) (a0 : Int32).toNatClampNeg)], _, _, _)) rfl ?_
        exact J188_20_ev sc n b hb e he (M.1 (b + 1) (a0 : Int32).toNatClampNeg) _ _ _ _ _ h
def J189_19 (n : Nat) (b : Nat) (M : Mem) : Option (Int32 × Mem) :=
  some (0, M)
set_option maxRecDepth 100000 in
set_option maxHeartbeats 4000000 in
theorem J189_19_ev (sc : Option (Nat × (Nat → Int32))) (n : Nat) (b : Nat) (hb : isT b) (e : Nat) (he : 1 ≤ e) : ∀ (u0 : Option Value) (u1 : Option Value) (u2 : Option Value) (M : Mem) (r : Int32) (M' : Mem), J189_19 n b  M = some (r, M') → pm_ev pmT sc e 189 false (19, [u0, u1, u2], [], 129, 17845, hp M) (some (.int r), 129, 17845, hp M') := by
  intro u0 u1 u2 M r M' h
  unfold J189_19 at h
  refine pe_blk mm_189 1 (s' := (20, [u0, u1, u2], [.int 0], _, _, _)) rfl ?_
  cases h
  exact pe_ret mm_189 rfl rfl
/-- ArmExpander$Threads.roundsAt -/
def F189 (n : Nat) (b : Nat) (a0 : Int32) (a1 : Int32) (M : Mem) : Option (Int32 × Mem) :=
  if a0 < 0 then (J189_19 n b M) else (if 120 ≤ a0 then (J189_19 n b M) else (if a1 < 0 then (J189_19 n b M) else (if a1 < 4 then (if ((a0 * 4) + a1) < 0 ∨ 480 ≤ ((a0 * 4) + a1 : Int32).toNatClampNeg then none else (some (M.1 (b + 2) ((a0 * 4) + a1 : Int32).toNatClampNeg, M))) else (J189_19 n b M))))
set_option maxRecDepth 100000 in
set_option maxHeartbeats 4000000 in
theorem F189_ev (sc : Option (Nat × (Nat → Int32))) (n : Nat) (b : Nat) (a0 : Int32) (a1 : Int32) (hb : isT b) (M : Mem) (e : Nat) (he : 1 ≤ e) (r : Int32) (M' : Mem) (h : F189 n b a0 a1 M = some (r, M')) : pm_ev pmT sc e 189 false (0, [some (.ref b), some (.int a0), some (.int a1)], [], 129, 17845, hp M) (some (.int r), 129, 17845, hp M') := by
  unfold F189 at h
  refine pe_blk mm_189 1 (s' := (1, [some (.ref b), some (.int a0), some (.int a1)], [.int a0], _, _, _)) rfl ?_
  by_cases q1 : a0 < 0
  · rw [if_pos q1] at h
    refine pe_blk mm_189 1 (s' := (if a0 < 0 then 19 else 4, [some (.ref b), some (.int a0), some (.int a1)], [], _, _, _)) rfl ?_
    rw [if_pos q1]
    exact J189_19_ev sc n b hb e he _ _ _ _ _ _ h
  · rw [if_neg q1] at h
    refine pe_blk mm_189 1 (s' := (if a0 < 0 then 19 else 4, [some (.ref b), some (.int a0), some (.int a1)], [], _, _, _)) rfl ?_
    rw [if_neg q1]
    refine pe_blk mm_189 2 (s' := (7, [some (.ref b), some (.int a0), some (.int a1)], [.int 120, .int a0], _, _, _)) rfl ?_
    by_cases q2 : 120 ≤ a0
    · rw [if_pos q2] at h
      refine pe_blk mm_189 1 (s' := (if 120 ≤ a0 then 19 else 10, [some (.ref b), some (.int a0), some (.int a1)], [], _, _, _)) rfl ?_
      rw [if_pos q2]
      exact J189_19_ev sc n b hb e he _ _ _ _ _ _ h
    · rw [if_neg q2] at h
      refine pe_blk mm_189 1 (s' := (if 120 ≤ a0 then 19 else 10, [some (.ref b), some (.int a0), some (.int a1)], [], _, _, _)) rfl ?_
      rw [if_neg q2]
      refine pe_blk mm_189 1 (s' := (11, [some (.ref b), some (.int a0), some (.int a1)], [.int a1], _, _, _)) rfl ?_
      by_cases q3 : a1 < 0
      · rw [if_pos q3] at h
        refine pe_blk mm_189 1 (s' := (if a1 < 0 then 19 else 14, [some (.ref b), some (.int a0), some (.int a1)], [], _, _, _)) rfl ?_
        rw [if_pos q3]
        exact J189_19_ev sc n b hb e he _ _ _ _ _ _ h
      · rw [if_neg q3] at h
        refine pe_blk mm_189 1 (s' := (if a1 < 0 then 19 else 14, [some (.ref b), some (.int a0), some (.int a1)], [], _, _, _)) rfl ?_
        rw [if_neg q3]
        refine pe_blk mm_189 2 (s' := (16, [some (.ref b), some (.int a0), some (.int a1)], [.int 4, .int a1], _, _, _)) rfl ?_
        by_cases q4 : a1 < 4
        · rw [if_pos q4] at h
          refine pe_blk mm_189 1 (s' := (if a1 < 4 then 21 else 19, [some (.ref b), some (.int a0), some (.int a1)], [], _, _, _)) rfl ?_
          rw [if_pos q4]
          refine pe_blk mm_189 1 (s' := (22, [some (.ref b), some (.int a0), some (.int a1)], [.ref b], _, _, _)) rfl ?_
          refine pe_get mm_189 rfl rfl (isT_0 hb _) (by have := isT_lt hb; omega) rfl ?_
          refine pe_blk mm_189 5 (s' := (30, [some (.ref b), some (.int a0), some (.int a1)], [.int ((a0 * 4) + a1), .ref (b + 2)], _, _, _)) rfl ?_
          by_cases q5 : ((a0 * 4) + a1) < 0 ∨ 480 ≤ ((a0 * 4) + a1 : Int32).toNatClampNeg
          · rw [if_pos q5] at h
            cases h
          · rw [if_neg q5] at h
            refine pe_iald (f := M.1 (b + 2)) mm_189 rfl (isT_2 hb _) (by have := isT_lt hb; omega) q5 ?_
            cases h
            exact pe_ret mm_189 rfl rfl
        · rw [if_neg q4] at h
          refine pe_blk mm_189 1 (s' := (if a1 < 4 then 21 else 19, [some (.ref b), some (.int a0), some (.int a1)], [], _, _, _)) rfl ?_
          rw [if_neg q4]
          exact J189_19_ev sc n b hb e he _ _ _ _ _ _ h
def L191_2 (n : Nat) (b : Nat) (g0 : Nat) : Nat → Int32 → Int32 → Mem → Option (Unit × Mem)
  | 0, _, _, _ => none
  | k + 1, x2, x3, M => if 4 ≤ x3 then (match F188 n g0 x2 M with | some (v2, M3) => (mlet (m_i M3 b 3 v2) (fun M5 => some ((), M5))) | none => none) else (match F189 n g0 x2 x3 M with | some (v6, M7) => (if x3 < 0 ∨ 4 ≤ (x3 : Int32).toNatClampNeg then none else (mlet (m_i M7 (b + 3) (x3 : Int32).toNatClampNeg v6) (fun M10 => (L191_2 n b g0 k) x2 (x3 + 1) M10))) | none => none)
set_option maxRecDepth 100000 in
set_option maxHeartbeats 4000000 in
theorem L191_2_ev (sc : Option (Nat × (Nat → Int32))) (n : Nat) (b : Nat) (g0 : Nat) (hb : isT b) (hg0 : isT g0) (e : Nat) (he : 2 ≤ e) : ∀ k : Nat, ∀ (x2 : Int32) (x3 : Int32) (M : Mem) (r : Unit) (M' : Mem), L191_2 n b g0 k x2 x3 M = some (r, M') → pm_ev pmT sc e 191 false (2, [some (.ref b), some (.ref g0), some (.int x2), some (.int x3)], [], 129, 17845, hp M) (none, 129, 17845, hp M') := by
  intro k
  induction k with
  | zero => intro x2 x3  M r M' h; cases h
  | succ k hr2 =>
    intro x2 x3  M r M' h
    rw [L191_2] at h
    refine pe_blk mm_191 2 (s' := (4, [some (.ref b), some (.ref g0), some (.int x2), some (.int x3)], [.int 4, .int x3], _, _, _)) rfl ?_
    by_cases q1 : 4 ≤ x3
    · rw [if_pos q1] at h
      refine pe_blk mm_191 1 (s' := (if 4 ≤ x3 then 25 else 7, [some (.ref b), some (.ref g0), some (.int x2), some (.int x3)], [], _, _, _)) rfl ?_
      rw [if_pos q1]
      refine pe_blk mm_191 3 (s' := (28, [some (.ref b), some (.ref g0), some (.int x2), some (.int x3)], [.int x2, .ref g0, .ref b], _, _, _)) rfl ?_
      obtain ⟨e1, rfl⟩ : ∃ e1, e = e1 + 1 := ⟨e - 1, by omega⟩
      cases hc4 : F188 n g0 x2 M with
      | none => rw [hc4] at h; cases h
      | some w =>
        obtain ⟨v2, M3⟩ := w
        rw [hc4] at h
        dsimp only at h
        refine pe_virt (al := [.int x2]) (a := g0) (L0 := [some (.ref g0), some (.int x2)]) (r1 := (some (.int v2), 129, 17845, hp M3)) mm_191 rfl rfl rfl mm_188 (isT_0 hg0 _) (by have := isT_lt hg0; omega) (by decide) rfl (Nat.le_of_ble_eq_true rfl) (Nat.le_of_ble_eq_true rfl) rfl rfl (F188_ev sc n g0 x2 hg0 _ e1 (by omega) _ _ hc4) ?_
        show pm_ev _ _ _ _ _ (31, [some (.ref b), some (.ref g0), some (.int x2), some (.int x3)], [.int v2, .ref b], _, _, _) _
        refine pe_puti mm_191 rfl rfl (isT_0 hb _) (by have := isT_lt hb; omega) (Nat.le_of_ble_eq_true rfl) rfl ((isT_0 hb _).trans (by simp [m_i, upd])) ?_
        show pm_ev _ _ _ _ _ (34, [some (.ref b), some (.ref g0), some (.int x2), some (.int x3)], [], _, _, hp (m_i M3 b 3 v2)) _
        generalize m_i M3 b 3 v2 = M5 at h ⊢
        rw [mlet] at h
        cases h
        exact pe_ret mm_191 rfl rfl
    · rw [if_neg q1] at h
      refine pe_blk mm_191 1 (s' := (if 4 ≤ x3 then 25 else 7, [some (.ref b), some (.ref g0), some (.int x2), some (.int x3)], [], _, _, _)) rfl ?_
      rw [if_neg q1]
      refine pe_blk mm_191 1 (s' := (8, [some (.ref b), some (.ref g0), some (.int x2), some (.int x3)], [.ref b], _, _, _)) rfl ?_
      refine pe_get mm_191 rfl rfl (isT_0 hb _) (by have := isT_lt hb; omega) rfl ?_
      refine pe_blk mm_191 4 (s' := (15, [some (.ref b), some (.ref g0), some (.int x2), some (.int x3)], [.int x3, .int x2, .ref g0, .int x3, .ref (b + 3)], _, _, _)) rfl ?_
      obtain ⟨e1, rfl⟩ : ∃ e1, e = e1 + 1 := ⟨e - 1, by omega⟩
      cases hc8 : F189 n g0 x2 x3 M with
      | none => rw [hc8] at h; cases h
      | some w =>
        obtain ⟨v6, M7⟩ := w
        rw [hc8] at h
        dsimp only at h
        refine pe_virt (al := [.int x3, .int x2]) (a := g0) (L0 := [some (.ref g0), some (.int x2), some (.int x3)]) (r1 := (some (.int v6), 129, 17845, hp M7)) mm_191 rfl rfl rfl mm_189 (isT_0 hg0 _) (by have := isT_lt hg0; omega) (by decide) rfl (Nat.le_of_ble_eq_true rfl) (Nat.le_of_ble_eq_true rfl) rfl rfl (F189_ev sc n g0 x2 x3 hg0 _ e1 (by omega) _ _ hc8) ?_
        show pm_ev _ _ _ _ _ (18, [some (.ref b), some (.ref g0), some (.int x2), some (.int x3)], [.int v6, .int x3, .ref (b + 3)], _, _, _) _
        by_cases q9 : x3 < 0 ∨ 4 ≤ (x3 : Int32).toNatClampNeg
        · rw [if_pos q9] at h
          cases h
        · rw [if_neg q9] at h
          refine pe_iasti mm_191 rfl (isT_3 hb _) (by have := isT_lt hb; omega) q9 ((isT_3 hb _).trans (by simp [m_i])) ?_
          show pm_ev _ _ _ _ _ (19, [some (.ref b), some (.ref g0), some (.int x2), some (.int x3)], [], _, _, hp (m_i M7 (b + 3) (x3 : Int32).toNatClampNeg v6)) _
          generalize m_i M7 (b + 3) (x3 : Int32).toNatClampNeg v6 = M10 at h ⊢
          rw [mlet] at h
          refine pe_blk mm_191 2 (s' := (2, [some (.ref b), some (.ref g0), some (.int x2), some (.int (x3 + 1))], [], _, _, _)) rfl ?_
          exact hr2 x2 (x3 + 1) _ _ _ h
/-- ArmExpander$Threads.setOutFrom -/
def F191 (n : Nat) (b : Nat) (g0 : Nat) (a1 : Int32) (M : Mem) : Option (Unit × Mem) :=
  L191_2 n b g0 n a1 0 M
set_option maxRecDepth 100000 in
set_option maxHeartbeats 4000000 in
theorem F191_ev (sc : Option (Nat × (Nat → Int32))) (n : Nat) (b : Nat) (g0 : Nat) (a1 : Int32) (hb : isT b) (hg0 : isT g0) (M : Mem) (e : Nat) (he : 2 ≤ e) (r : Unit) (M' : Mem) (h : F191 n b g0 a1 M = some (r, M')) : pm_ev pmT sc e 191 false (0, [some (.ref b), some (.ref g0), some (.int a1), none], [], 129, 17845, hp M) (none, 129, 17845, hp M') := by
  unfold F191 at h
  refine pe_blk mm_191 2 (s' := (2, [some (.ref b), some (.ref g0), some (.int a1), some (.int 0)], [], _, _, _)) rfl ?_
  exact L191_2_ev sc n b g0 hb hg0 e he n a1 0 _ _ _ h
def J195_10 (n : Nat) (b : Nat) (M : Mem) : Option (Unit × Mem) :=
  some ((), M)
set_option maxRecDepth 100000 in
set_option maxHeartbeats 4000000 in
theorem J195_10_ev (sc : Option (Nat × (Nat → Int32))) (n : Nat) (b : Nat) (hb : isT b) (e : Nat) (he : 1 ≤ e) : ∀ (u0 : Option Value) (u1 : Option Value) (u2 : Option Value) (u3 : Option Value) (M : Mem) (r : Unit) (M' : Mem), J195_10 n b  M = some (r, M') → pm_ev pmT sc e 195 false (10, [u0, u1, u2, u3], [], 129, 17845, hp M) (none, 129, 17845, hp M') := by
  intro u0 u1 u2 u3 M r M' h
  unfold J195_10 at h
  cases h
  exact pe_ret mm_195 rfl rfl
def L195_41 (n : Nat) (b : Nat) : Nat → Int32 → Int32 → Mem → Option (Unit × Mem)
  | 0, _, _, _ => none
  | k + 1, x1, x3, M => if 4 ≤ x3 then (some ((), M)) else (if x3 < 0 ∨ 4 ≤ (x3 : Int32).toNatClampNeg then none else (if ((x1 * 4) + x3) < 0 ∨ 480 ≤ ((x1 * 4) + x3 : Int32).toNatClampNeg then none else (mlet (m_i M (b + 2) ((x1 * 4) + x3 : Int32).toNatClampNeg (M.1 (b + 3) (x3 : Int32).toNatClampNeg)) (fun M10 => (L195_41 n b k) x1 (x3 + 1) M10))))
set_option maxRecDepth 100000 in
set_option maxHeartbeats 4000000 in
theorem L195_41_ev (sc : Option (Nat × (Nat → Int32))) (n : Nat) (b : Nat) (hb : isT b) (e : Nat) (he : 1 ≤ e) : ∀ k : Nat, ∀ (x1 : Int32) (x3 : Int32) (u2 : Option Value) (M : Mem) (r : Unit) (M' : Mem), L195_41 n b k x1 x3 M = some (r, M') → pm_ev pmT sc e 195 false (41, [some (.ref b), some (.int x1), u2, some (.int x3)], [], 129, 17845, hp M) (none, 129, 17845, hp M') := by
  intro k
  induction k with
  | zero => intro x1 x3 u2 M r M' h; cases h
  | succ k hr41 =>
    intro x1 x3 u2 M r M' h
    rw [L195_41] at h
    refine pe_blk mm_195 2 (s' := (43, [some (.ref b), some (.int x1), u2, some (.int x3)], [.int 4, .int x3], _, _, _)) rfl ?_
    by_cases q7 : 4 ≤ x3
    · rw [if_pos q7] at h
      refine pe_blk mm_195 1 (s' := (if 4 ≤ x3 then 68 else 46, [some (.ref b), some (.int x1), u2, some (.int x3)], [], _, _, _)) rfl ?_
      rw [if_pos q7]
      cases h
      exact pe_ret mm_195 rfl rfl
    · rw [if_neg q7] at h
      refine pe_blk mm_195 1 (s' := (if 4 ≤ x3 then 68 else 46, [some (.ref b), some (.int x1), u2, some (.int x3)], [], _, _, _)) rfl ?_
      rw [if_neg q7]
      refine pe_blk mm_195 1 (s' := (47, [some (.ref b), some (.int x1), u2, some (.int x3)], [.ref b], _, _, _)) rfl ?_
      refine pe_get mm_195 rfl rfl (isT_0 hb _) (by have := isT_lt hb; omega) rfl ?_
      refine pe_blk mm_195 6 (s' := (56, [some (.ref b), some (.int x1), u2, some (.int x3)], [.ref b, .int ((x1 * 4) + x3), .ref (b + 2)], _, _, _)) rfl ?_
      refine pe_get mm_195 rfl rfl (isT_0 hb _) (by have := isT_lt hb; omega) rfl ?_
      refine pe_blk mm_195 1 (s' := (60, [some (.ref b), some (.int x1), u2, some (.int x3)], [.int x3, .ref (b + 3), .int ((x1 * 4) + x3), .ref (b + 2)], _, _, _)) rfl ?_
      by_cases q8 : x3 < 0 ∨ 4 ≤ (x3 : Int32).toNatClampNeg
      · rw [if_pos q8] at h
        cases h
      · rw [if_neg q8] at h
        refine pe_iald (f := M.1 (b + 3)) mm_195 rfl (isT_3 hb _) (by have := isT_lt hb; omega) q8 ?_
        by_cases q9 : ((x1 * 4) + x3) < 0 ∨ 480 ≤ ((x1 * 4) + x3 : Int32).toNatClampNeg
        · rw [if_pos q9] at h
          cases h
        · rw [if_neg q9] at h
          refine pe_iasti mm_195 rfl (isT_2 hb _) (by have := isT_lt hb; omega) q9 ((isT_2 hb _).trans (by simp [m_i])) ?_
          show pm_ev _ _ _ _ _ (62, [some (.ref b), some (.int x1), u2, some (.int x3)], [], _, _, hp (m_i M (b + 2) ((x1 * 4) + x3 : Int32).toNatClampNeg (M.1 (b + 3) (x3 : Int32).toNatClampNeg))) _
          generalize m_i M (b + 2) ((x1 * 4) + x3 : Int32).toNatClampNeg (M.1 (b + 3) (x3 : Int32).toNatClampNeg) = M10 at h ⊢
          rw [mlet] at h
          refine pe_blk mm_195 2 (s' := (41, [some (.ref b), some (.int x1), u2, some (.int (x3 + 1))], [], _, _, _)) rfl ?_
          exact hr41 x1 (x3 + 1) _ _ _ _ h
def J195_38 (n : Nat) (b : Nat) (x1 : Int32) (s0 : Int32) (s1 : Int32) (M : Mem) : Option (Unit × Mem) :=
  if s1 < 0 ∨ 120 ≤ (s1 : Int32).toNatClampNeg then none else (mlet (m_i M (b + 1) (s1 : Int32).toNatClampNeg s0) (fun M6 => L195_41 n b n x1 0 M6))
set_option maxRecDepth 100000 in
set_option maxHeartbeats 4000000 in
theorem J195_38_ev (sc : Option (Nat × (Nat → Int32))) (n : Nat) (b : Nat) (hb : isT b) (e : Nat) (he : 1 ≤ e) : ∀ (x1 : Int32) (s0 : Int32) (s1 : Int32) (u2 : Option Value) (u3 : Option Value) (M : Mem) (r : Unit) (M' : Mem), J195_38 n b x1 s0 s1 M = some (r, M') → pm_ev pmT sc e 195 false (38, [some (.ref b), some (.int x1), u2, u3], [.int s0, .int s1, .ref (b + 1)], 129, 17845, hp M) (none, 129, 17845, hp M') := by
  intro x1 s0 s1 u2 u3 M r M' h
  unfold J195_38 at h
  by_cases q5 : s1 < 0 ∨ 120 ≤ (s1 : Int32).toNatClampNeg
  · rw [if_pos q5] at h
    cases h
  · rw [if_neg q5] at h
    refine pe_iasti mm_195 rfl (isT_1 hb _) (by have := isT_lt hb; omega) q5 ((isT_1 hb _).trans (by simp [m_i])) ?_
    show pm_ev _ _ _ _ _ (39, [some (.ref b), some (.int x1), u2, u3], [], _, _, hp (m_i M (b + 1) (s1 : Int32).toNatClampNeg s0)) _
    generalize m_i M (b + 1) (s1 : Int32).toNatClampNeg s0 = M6 at h ⊢
    rw [mlet] at h
    refine pe_blk mm_195 2 (s' := (41, [some (.ref b), some (.int x1), u2, some (.int 0)], [], _, _, _)) rfl ?_
    exact L195_41_ev sc n b hb e he n x1 0 _ _ _ _ h
/-- ArmExpander$Threads.stand -/
def F195 (n : Nat) (b : Nat) (a0 : Int32) (M : Mem) : Option (Unit × Mem) :=
  if a0 < 0 then (J195_10 n b M) else (if a0 < 120 then (if a0 < 0 ∨ 120 ≤ (a0 : Int32).toNatClampNeg then none else (if 2 ≤ ((M.1 (b + 1) (a0 : Int32).toNatClampNeg) + (M.1 b 3)) then (J195_38 n b a0 2 a0 M) else (J195_38 n b a0 ((M.1 (b + 1) (a0 : Int32).toNatClampNeg) + (M.1 b 3)) a0 M))) else (J195_10 n b M))
set_option maxRecDepth 100000 in
set_option maxHeartbeats 4000000 in
theorem F195_ev (sc : Option (Nat × (Nat → Int32))) (n : Nat) (b : Nat) (a0 : Int32) (hb : isT b) (M : Mem) (e : Nat) (he : 1 ≤ e) (r : Unit) (M' : Mem) (h : F195 n b a0 M = some (r, M')) : pm_ev pmT sc e 195 false (0, [some (.ref b), some (.int a0), none, none], [], 129, 17845, hp M) (none, 129, 17845, hp M') := by
  unfold F195 at h
  refine pe_blk mm_195 1 (s' := (1, [some (.ref b), some (.int a0), none, none], [.int a0], _, _, _)) rfl ?_
  by_cases q1 : a0 < 0
  · rw [if_pos q1] at h
    refine pe_blk mm_195 1 (s' := (if a0 < 0 then 10 else 4, [some (.ref b), some (.int a0), none, none], [], _, _, _)) rfl ?_
    rw [if_pos q1]
    exact J195_10_ev sc n b hb e he _ _ _ _ _ _ _ h
  · rw [if_neg q1] at h
    refine pe_blk mm_195 1 (s' := (if a0 < 0 then 10 else 4, [some (.ref b), some (.int a0), none, none], [], _, _, _)) rfl ?_
    rw [if_neg q1]
    refine pe_blk mm_195 2 (s' := (7, [some (.ref b), some (.int a0), none, none], [.int 120, .int a0], _, _, _)) rfl ?_
    by_cases q2 : a0 < 120
    · rw [if_pos q2] at h
      refine pe_blk mm_195 1 (s' := (if a0 < 120 then 11 else 10, [some (.ref b), some (.int a0), none, none], [], _, _, _)) rfl ?_
      rw [if_pos q2]
      refine pe_blk mm_195 1 (s' := (12, [some (.ref b), some (.int a0), none, none], [.ref b], _, _, _)) rfl ?_
      refine pe_get mm_195 rfl rfl (isT_0 hb _) (by have := isT_lt hb; omega) rfl ?_
      refine pe_blk mm_195 1 (s' := (16, [some (.ref b), some (.int a0), none, none], [.int a0, .ref (b + 1)], _, _, _)) rfl ?_
      by_cases q3 : a0 < 0 ∨ 120 ≤ (a0 : Int32).toNatClampNeg
      · rw [if_pos q3] at h
        cases h
      · rw [if_neg q3] at h
        refine pe_iald (f := M.1 (b + 1)) mm_195 rfl (isT_1 hb _) (by have := isT_lt hb; omega) q3 ?_
        refine pe_blk mm_195 1 (s' := (18, [some (.ref b), some (.int a0), none, none], [.ref b, .int (M.1 (b + 1) (a0 : Int32).toNatClampNeg)], _, _, _)) rfl ?_
        refine pe_get mm_195 rfl rfl (isT_0 hb _) (by have := isT_lt hb; omega) rfl ?_
        refine pe_blk mm_195 3 (s' := (24, [some (.ref b), some (.int a0), some (.int ((M.1 (b + 1) (a0 : Int32).toNatClampNeg) + (M.1 b 3))), none], [.ref b], _, _, _)) rfl ?_
        refine pe_get mm_195 rfl rfl (isT_0 hb _) (by have := isT_lt hb; omega) rfl ?_
        refine pe_blk mm_195 3 (s' := (30, [some (.ref b), some (.int a0), some (.int ((M.1 (b + 1) (a0 : Int32).toNatClampNeg) + (M.1 b 3))), none], [.int 2, .int ((M.1 (b + 1) (a0 : Int32).toNatClampNeg) + (M.1 b 3)), .int a0, .ref (b + 1)], _, _, _)) rfl ?_
        by_cases q4 : 2 ≤ ((M.1 (b + 1) (a0 : Int32).toNatClampNeg) + (M.1 b 3))
        · rw [if_pos q4] at h
          refine pe_blk mm_195 1 (s' := (if 2 ≤ ((M.1 (b + 1) (a0 : Int32).toNatClampNeg) + (M.1 b 3)) then 37 else 33, [some (.ref b), some (.int a0), some (.int ((M.1 (b + 1) (a0 : Int32).toNatClampNeg) + (M.1 b 3))), none], [.int a0, .ref (b + 1)], _, _, _)) rfl ?_
          rw [if_pos q4]
          refine pe_blk mm_195 1 (s' := (38, [some (.ref b), some (.int a0), some (.int ((M.1 (b + 1) (a0 : Int32).toNatClampNeg) + (M.1 b 3))), none], [.int 2, .int a0, .ref (b + 1)], _, _, _)) rfl ?_
          exact J195_38_ev sc n b hb e he a0 2 a0 _ _ _ _ _ h
        · rw [if_neg q4] at h
          refine pe_blk mm_195 1 (s' := (if 2 ≤ ((M.1 (b + 1) (a0 : Int32).toNatClampNeg) + (M.1 b 3)) then 37 else 33, [some (.ref b), some (.int a0), some (.int ((M.1 (b + 1) (a0 : Int32).toNatClampNeg) + (M.1 b 3))), none], [.int a0, .ref (b + 1)], _, _, _)) rfl ?_
          rw [if_neg q4]
          refine pe_blk mm_195 2 (s' := (38, [some (.ref b), some (.int a0), some (.int ((M.1 (b + 1) (a0 : Int32).toNatClampNeg) + (M.1 b 3))), none], [.int ((M.1 (b + 1) (a0 : Int32).toNatClampNeg) + (M.1 b 3)), .int a0, .ref (b + 1)], _, _, _)) rfl ?_
          exact J195_38_ev sc n b hb e he a0 ((M.1 (b + 1) (a0 : Int32).toNatClampNeg) + (M.1 b 3)) a0 _ _ _ _ _ h
    · rw [if_neg q2] at h
      refine pe_blk mm_195 1 (s' := (if a0 < 120 then 11 else 10, [some (.ref b), some (.int a0), none, none], [], _, _, _)) rfl ?_
      rw [if_neg q2]
      exact J195_10_ev sc n b hb e he _ _ _ _ _ _ _ h
/-- ArmExpander$TypedText.clear -/
def F198 (n : Nat) (M : Mem) : Option (Unit × Mem) :=
  mlet (m_i M 1 1 0) (fun M1 => mlet (m_i M1 1 2 0) (fun M2 => mlet (m_i M2 1 3 0) (fun M3 => some ((), M3))))
set_option maxRecDepth 100000 in
set_option maxHeartbeats 4000000 in
theorem F198_ev (sc : Option (Nat × (Nat → Int32))) (n : Nat)  (M : Mem) (e : Nat) (he : 1 ≤ e) (r : Unit) (M' : Mem) (h : F198 n M = some (r, M')) : pm_ev pmT sc e 198 false (0, [some (.ref 1)], [], 129, 17845, hp M) (none, 129, 17845, hp M') := by
  unfold F198 at h
  refine pe_blk mm_198 2 (s' := (2, [some (.ref 1)], [.int 0, .ref 1], _, _, _)) rfl ?_
  refine pe_puti mm_198 rfl rfl rfl (by decide) (Nat.le_of_ble_eq_true rfl) rfl rfl ?_
  show pm_ev _ _ _ _ _ (5, [some (.ref 1)], [], _, _, hp (m_i M 1 1 0)) _
  generalize m_i M 1 1 0 = M1 at h ⊢
  rw [mlet] at h
  refine pe_blk mm_198 2 (s' := (7, [some (.ref 1)], [.int 0, .ref 1], _, _, _)) rfl ?_
  refine pe_puti mm_198 rfl rfl rfl (by decide) (Nat.le_of_ble_eq_true rfl) rfl rfl ?_
  show pm_ev _ _ _ _ _ (10, [some (.ref 1)], [], _, _, hp (m_i M1 1 2 0)) _
  generalize m_i M1 1 2 0 = M2 at h ⊢
  rw [mlet] at h
  refine pe_blk mm_198 2 (s' := (12, [some (.ref 1)], [.int 0, .ref 1], _, _, _)) rfl ?_
  refine pe_puti mm_198 rfl rfl rfl (by decide) (Nat.le_of_ble_eq_true rfl) rfl rfl ?_
  show pm_ev _ _ _ _ _ (15, [some (.ref 1)], [], _, _, hp (m_i M2 1 3 0)) _
  generalize m_i M2 1 3 0 = M3 at h ⊢
  rw [mlet] at h
  cases h
  exact pe_ret mm_198 rfl rfl
/-- ArmExpander$TypedText.length -/
def F199 (n : Nat) (M : Mem) : Option (Int32 × Mem) :=
  some (M.1 1 1, M)
set_option maxRecDepth 100000 in
set_option maxHeartbeats 4000000 in
theorem F199_ev (sc : Option (Nat × (Nat → Int32))) (n : Nat)  (M : Mem) (e : Nat) (he : 1 ≤ e) (r : Int32) (M' : Mem) (h : F199 n M = some (r, M')) : pm_ev pmT sc e 199 false (0, [some (.ref 1)], [], 129, 17845, hp M) (some (.int r), 129, 17845, hp M') := by
  unfold F199 at h
  refine pe_blk mm_199 1 (s' := (1, [some (.ref 1)], [.ref 1], _, _, _)) rfl ?_
  refine pe_get mm_199 rfl rfl rfl (by decide) rfl ?_
  cases h
  exact pe_ret mm_199 rfl rfl
/-- ArmExpander$TypedText.start -/
def F200 (n : Nat) (M : Mem) : Option (Int32 × Mem) :=
  some (M.1 1 3, M)
set_option maxRecDepth 100000 in
set_option maxHeartbeats 4000000 in
theorem F200_ev (sc : Option (Nat × (Nat → Int32))) (n : Nat)  (M : Mem) (e : Nat) (he : 1 ≤ e) (r : Int32) (M' : Mem) (h : F200 n M = some (r, M')) : pm_ev pmT sc e 200 false (0, [some (.ref 1)], [], 129, 17845, hp M) (some (.int r), 129, 17845, hp M') := by
  unfold F200 at h
  refine pe_blk mm_200 1 (s' := (1, [some (.ref 1)], [.ref 1], _, _, _)) rfl ?_
  refine pe_get mm_200 rfl rfl rfl (by decide) rfl ?_
  cases h
  exact pe_ret mm_200 rfl rfl
/-- ArmExpander$TypedText.byteOf -/
def F204 (n : Nat) (a0 : Int32) (a1 : Int32) (M : Mem) : Option (Int32 × Mem) :=
  some ((((a0 : Int32).toUInt32 >>> (((8 * a1) : Int32).toUInt32 &&& Int32.toUInt32 31)).toInt32) &&& 255, M)
set_option maxRecDepth 100000 in
set_option maxHeartbeats 4000000 in
theorem F204_ev (sc : Option (Nat × (Nat → Int32))) (n : Nat) (a0 : Int32) (a1 : Int32)  (M : Mem) (e : Nat) (he : 1 ≤ e) (r : Int32) (M' : Mem) (h : F204 n a0 a1 M = some (r, M')) : pm_ev pmT sc e 204 false (0, [some (.int a0), some (.int a1)], [], 129, 17845, hp M) (some (.int r), 129, 17845, hp M') := by
  unfold F204 at h
  refine pe_blk mm_204 7 (s' := (10, [some (.int a0), some (.int a1)], [.int ((((a0 : Int32).toUInt32 >>> (((8 * a1) : Int32).toUInt32 &&& Int32.toUInt32 31)).toInt32) &&& 255)], _, _, _)) rfl ?_
  cases h
  exact pe_ret mm_204 rfl rfl
def J205_17 (n : Nat) (s0 : Int32) (M : Mem) : Option (Int32 × Mem) :=
  if s0 = 0 ∨ s0 = 1 then some (s0, M) else none
set_option maxRecDepth 100000 in
set_option maxHeartbeats 4000000 in
theorem J205_17_ev (sc : Option (Nat × (Nat → Int32))) (n : Nat)  (e : Nat) (he : 1 ≤ e) : ∀ (s0 : Int32) (u0 : Option Value) (M : Mem) (r : Int32) (M' : Mem), J205_17 n s0 M = some (r, M') → pm_ev pmT sc e 205 false (17, [u0], [.int s0], 129, 17845, hp M) (some (.int r), 129, 17845, hp M') := by
  intro s0 u0 M r M' h
  unfold J205_17 at h
  by_cases q2 : s0 = 0 ∨ s0 = 1
  · rw [if_pos q2] at h
    cases h
    exact pe_ret mm_205 rfl (if_pos q2)
  · rw [if_neg q2] at h
    cases h
def J205_16 (n : Nat) (M : Mem) : Option (Int32 × Mem) :=
  J205_17 n 0 M
set_option maxRecDepth 100000 in
set_option maxHeartbeats 4000000 in
theorem J205_16_ev (sc : Option (Nat × (Nat → Int32))) (n : Nat)  (e : Nat) (he : 1 ≤ e) : ∀ (u0 : Option Value) (M : Mem) (r : Int32) (M' : Mem), J205_16 n  M = some (r, M') → pm_ev pmT sc e 205 false (16, [u0], [], 129, 17845, hp M) (some (.int r), 129, 17845, hp M') := by
  intro u0 M r M' h
  unfold J205_16 at h
  refine pe_blk mm_205 1 (s' := (17, [u0], [.int 0], _, _, _)) rfl ?_
  exact J205_17_ev sc n e he 0 _ _ _ _ h
/-- ArmExpander$TypedText.isLetter -/
def F205 (n : Nat) (a0 : Int32) (M : Mem) : Option (Int32 × Mem) :=
  if a0 < 97 then (J205_16 n M) else (if 122 < a0 then (J205_16 n M) else (J205_17 n 1 M))
set_option maxRecDepth 100000 in
set_option maxHeartbeats 4000000 in
theorem F205_ev (sc : Option (Nat × (Nat → Int32))) (n : Nat) (a0 : Int32)  (M : Mem) (e : Nat) (he : 1 ≤ e) (r : Int32) (M' : Mem) (h : F205 n a0 M = some (r, M')) : pm_ev pmT sc e 205 false (0, [some (.int a0)], [], 129, 17845, hp M) (some (.int r), 129, 17845, hp M') := by
  unfold F205 at h
  refine pe_blk mm_205 2 (s' := (3, [some (.int a0)], [.int 97, .int a0], _, _, _)) rfl ?_
  by_cases q1 : a0 < 97
  · rw [if_pos q1] at h
    refine pe_blk mm_205 1 (s' := (if a0 < 97 then 16 else 6, [some (.int a0)], [], _, _, _)) rfl ?_
    rw [if_pos q1]
    exact J205_16_ev sc n e he _ _ _ _ h
  · rw [if_neg q1] at h
    refine pe_blk mm_205 1 (s' := (if a0 < 97 then 16 else 6, [some (.int a0)], [], _, _, _)) rfl ?_
    rw [if_neg q1]
    refine pe_blk mm_205 2 (s' := (9, [some (.int a0)], [.int 122, .int a0], _, _, _)) rfl ?_
    by_cases q3 : 122 < a0
    · rw [if_pos q3] at h
      refine pe_blk mm_205 1 (s' := (if 122 < a0 then 16 else 12, [some (.int a0)], [], _, _, _)) rfl ?_
      rw [if_pos q3]
      exact J205_16_ev sc n e he _ _ _ _ h
    · rw [if_neg q3] at h
      refine pe_blk mm_205 1 (s' := (if 122 < a0 then 16 else 12, [some (.int a0)], [], _, _, _)) rfl ?_
      rw [if_neg q3]
      refine pe_blk mm_205 2 (s' := (17, [some (.int a0)], [.int 1], _, _, _)) rfl ?_
      exact J205_17_ev sc n e he 1 _ _ _ _ h
def J206_17 (n : Nat) (s0 : Int32) (M : Mem) : Option (Int32 × Mem) :=
  if s0 = 0 ∨ s0 = 1 then some (s0, M) else none
set_option maxRecDepth 100000 in
set_option maxHeartbeats 4000000 in
theorem J206_17_ev (sc : Option (Nat × (Nat → Int32))) (n : Nat)  (e : Nat) (he : 1 ≤ e) : ∀ (s0 : Int32) (u0 : Option Value) (M : Mem) (r : Int32) (M' : Mem), J206_17 n s0 M = some (r, M') → pm_ev pmT sc e 206 false (17, [u0], [.int s0], 129, 17845, hp M) (some (.int r), 129, 17845, hp M') := by
  intro s0 u0 M r M' h
  unfold J206_17 at h
  by_cases q2 : s0 = 0 ∨ s0 = 1
  · rw [if_pos q2] at h
    cases h
    exact pe_ret mm_206 rfl (if_pos q2)
  · rw [if_neg q2] at h
    cases h
def J206_16 (n : Nat) (M : Mem) : Option (Int32 × Mem) :=
  J206_17 n 0 M
set_option maxRecDepth 100000 in
set_option maxHeartbeats 4000000 in
theorem J206_16_ev (sc : Option (Nat × (Nat → Int32))) (n : Nat)  (e : Nat) (he : 1 ≤ e) : ∀ (u0 : Option Value) (M : Mem) (r : Int32) (M' : Mem), J206_16 n  M = some (r, M') → pm_ev pmT sc e 206 false (16, [u0], [], 129, 17845, hp M) (some (.int r), 129, 17845, hp M') := by
  intro u0 M r M' h
  unfold J206_16 at h
  refine pe_blk mm_206 1 (s' := (17, [u0], [.int 0], _, _, _)) rfl ?_
  exact J206_17_ev sc n e he 0 _ _ _ _ h
/-- ArmExpander$TypedText.isDigit -/
def F206 (n : Nat) (a0 : Int32) (M : Mem) : Option (Int32 × Mem) :=
  if a0 < 48 then (J206_16 n M) else (if 57 < a0 then (J206_16 n M) else (J206_17 n 1 M))
set_option maxRecDepth 100000 in
set_option maxHeartbeats 4000000 in
theorem F206_ev (sc : Option (Nat × (Nat → Int32))) (n : Nat) (a0 : Int32)  (M : Mem) (e : Nat) (he : 1 ≤ e) (r : Int32) (M' : Mem) (h : F206 n a0 M = some (r, M')) : pm_ev pmT sc e 206 false (0, [some (.int a0)], [], 129, 17845, hp M) (some (.int r), 129, 17845, hp M') := by
  unfold F206 at h
  refine pe_blk mm_206 2 (s' := (3, [some (.int a0)], [.int 48, .int a0], _, _, _)) rfl ?_
  by_cases q1 : a0 < 48
  · rw [if_pos q1] at h
    refine pe_blk mm_206 1 (s' := (if a0 < 48 then 16 else 6, [some (.int a0)], [], _, _, _)) rfl ?_
    rw [if_pos q1]
    exact J206_16_ev sc n e he _ _ _ _ h
  · rw [if_neg q1] at h
    refine pe_blk mm_206 1 (s' := (if a0 < 48 then 16 else 6, [some (.int a0)], [], _, _, _)) rfl ?_
    rw [if_neg q1]
    refine pe_blk mm_206 2 (s' := (9, [some (.int a0)], [.int 57, .int a0], _, _, _)) rfl ?_
    by_cases q3 : 57 < a0
    · rw [if_pos q3] at h
      refine pe_blk mm_206 1 (s' := (if 57 < a0 then 16 else 12, [some (.int a0)], [], _, _, _)) rfl ?_
      rw [if_pos q3]
      exact J206_16_ev sc n e he _ _ _ _ h
    · rw [if_neg q3] at h
      refine pe_blk mm_206 1 (s' := (if 57 < a0 then 16 else 12, [some (.int a0)], [], _, _, _)) rfl ?_
      rw [if_neg q3]
      refine pe_blk mm_206 2 (s' := (17, [some (.int a0)], [.int 1], _, _, _)) rfl ?_
      exact J206_17_ev sc n e he 1 _ _ _ _ h
/-- ArmExpander.expansions -/
def F9 (n : Nat) (M : Mem) : Option (Int32 × Mem) :=
  match F137 n M with | some (v1, M2) => (some (v1, M2)) | none => none
set_option maxRecDepth 100000 in
set_option maxHeartbeats 4000000 in
theorem F9_ev (sc : Option (Nat × (Nat → Int32))) (n : Nat)  (M : Mem) (e : Nat) (he : 2 ≤ e) (r : Int32) (M' : Mem) (h : F9 n M = some (r, M')) : pm_ev pmT sc e 9 false (0, [some (.ref 0)], [], 129, 17845, hp M) (some (.int r), 129, 17845, hp M') := by
  unfold F9 at h
  refine pe_blk mm_9 1 (s' := (1, [some (.ref 0)], [.ref 0], _, _, _)) rfl ?_
  refine pe_get mm_9 rfl rfl rfl (by decide) rfl ?_
  obtain ⟨e1, rfl⟩ : ∃ e1, e = e1 + 1 := ⟨e - 1, by omega⟩
  cases hc3 : F137 n M with
  | none => rw [hc3] at h; cases h
  | some w =>
    obtain ⟨v1, M2⟩ := w
    rw [hc3] at h
    dsimp only at h
    refine pe_virt (al := []) (a := 12) (L0 := [some (.ref 12)]) (r1 := (some (.int v1), 129, 17845, hp M2)) mm_9 rfl rfl rfl mm_137 rfl (by decide) (by decide) rfl (Nat.le_of_ble_eq_true rfl) (Nat.le_of_ble_eq_true rfl) rfl rfl (F137_ev sc n _ e1 (by omega) _ _ hc3) ?_
    show pm_ev _ _ _ _ _ (7, [some (.ref 0)], [.int v1], _, _, _) _
    cases h
    exact pe_ret mm_9 rfl rfl
/-- ArmExpander.used -/
def F10 (n : Nat) (a0 : Int32) (M : Mem) : Option (Int32 × Mem) :=
  match F138 n a0 M with | some (v1, M2) => (some (v1, M2)) | none => none
set_option maxRecDepth 100000 in
set_option maxHeartbeats 4000000 in
theorem F10_ev (sc : Option (Nat × (Nat → Int32))) (n : Nat) (a0 : Int32)  (M : Mem) (e : Nat) (he : 2 ≤ e) (r : Int32) (M' : Mem) (h : F10 n a0 M = some (r, M')) : pm_ev pmT sc e 10 false (0, [some (.ref 0), some (.int a0)], [], 129, 17845, hp M) (some (.int r), 129, 17845, hp M') := by
  unfold F10 at h
  refine pe_blk mm_10 1 (s' := (1, [some (.ref 0), some (.int a0)], [.ref 0], _, _, _)) rfl ?_
  refine pe_get mm_10 rfl rfl rfl (by decide) rfl ?_
  refine pe_blk mm_10 1 (s' := (5, [some (.ref 0), some (.int a0)], [.int a0, .ref 12], _, _, _)) rfl ?_
  obtain ⟨e1, rfl⟩ : ∃ e1, e = e1 + 1 := ⟨e - 1, by omega⟩
  cases hc3 : F138 n a0 M with
  | none => rw [hc3] at h; cases h
  | some w =>
    obtain ⟨v1, M2⟩ := w
    rw [hc3] at h
    dsimp only at h
    refine pe_virt (al := [.int a0]) (a := 12) (L0 := [some (.ref 12), some (.int a0)]) (r1 := (some (.int v1), 129, 17845, hp M2)) mm_10 rfl rfl rfl mm_138 rfl (by decide) (by decide) rfl (Nat.le_of_ble_eq_true rfl) (Nat.le_of_ble_eq_true rfl) rfl rfl (F138_ev sc n a0 _ e1 (by omega) _ _ hc3) ?_
    show pm_ev _ _ _ _ _ (8, [some (.ref 0), some (.int a0)], [.int v1], _, _, _) _
    cases h
    exact pe_ret mm_10 rfl rfl
/-- ArmExpanderModel.readAgain -/
def F34 (n : Nat) (a0 : Int32) (M : Mem) : Option (Int32 × Mem) :=
  mlet (m_i M 83 7 0) (fun M1 => match F28 n M1 with | some (v2, M3) => (match F45 n 5 a0 M3 with | some (v5, M6) => (if v5 = 0 ∨ v5 = 1 then some (v5, M6) else none) | none => none) | none => none)
set_option maxRecDepth 100000 in
set_option maxHeartbeats 4000000 in
theorem F34_ev (sc : Option (Nat × (Nat → Int32))) (n : Nat) (a0 : Int32)  (M : Mem) (e : Nat) (he : 9 ≤ e) (r : Int32) (M' : Mem) (h : F34 n a0 M = some (r, M')) : pm_ev pmT sc e 34 false (0, [some (.ref 83), some (.int a0)], [], 129, 17845, hp M) (some (.int r), 129, 17845, hp M') := by
  unfold F34 at h
  refine pe_blk mm_34 2 (s' := (2, [some (.ref 83), some (.int a0)], [.int 0, .ref 83], _, _, _)) rfl ?_
  refine pe_puti mm_34 rfl rfl rfl (by decide) (Nat.le_of_ble_eq_true rfl) rfl rfl ?_
  show pm_ev _ _ _ _ _ (5, [some (.ref 83), some (.int a0)], [], _, _, hp (m_i M 83 7 0)) _
  generalize m_i M 83 7 0 = M1 at h ⊢
  rw [mlet] at h
  refine pe_blk mm_34 1 (s' := (6, [some (.ref 83), some (.int a0)], [.ref 83], _, _, _)) rfl ?_
  obtain ⟨e1, rfl⟩ : ∃ e1, e = e1 + 1 := ⟨e - 1, by omega⟩
  cases hc4 : F28 n M1 with
  | none => rw [hc4] at h; cases h
  | some w =>
    obtain ⟨v2, M3⟩ := w
    rw [hc4] at h
    dsimp only at h
    refine pe_virt (al := []) (a := 83) (L0 := [some (.ref 83), none, none, none, none, none]) (r1 := (none, 129, 17845, hp M3)) mm_34 rfl rfl rfl mm_28 rfl (by decide) (by decide) rfl (Nat.le_of_ble_eq_true rfl) (Nat.le_of_ble_eq_true rfl) rfl rfl (F28_ev sc n _ e1 (by omega) _ _ hc4) ?_
    show pm_ev _ _ _ _ _ (9, [some (.ref 83), some (.int a0)], [], _, _, _) _
    refine pe_blk mm_34 3 (s' := (12, [some (.ref 83), some (.int a0)], [.int a0, .int 5, .ref 83], _, _, _)) rfl ?_
    skip
    cases hc7 : F45 n 5 a0 M3 with
    | none => rw [hc7] at h; cases h
    | some w =>
      obtain ⟨v5, M6⟩ := w
      rw [hc7] at h
      dsimp only at h
      refine pe_virt (al := [.int a0, .int 5]) (a := 83) (L0 := [some (.ref 83), some (.int 5), some (.int a0), none]) (r1 := (some (.int v5), 129, 17845, hp M6)) mm_34 rfl rfl rfl mm_45 rfl (by decide) (by decide) rfl (Nat.le_of_ble_eq_true rfl) (Nat.le_of_ble_eq_true rfl) rfl rfl (F45_ev sc n 5 a0 _ e1 (by omega) _ _ hc7) ?_
      show pm_ev _ _ _ _ _ (15, [some (.ref 83), some (.int a0)], [.int v5], _, _, _) _
      by_cases q8 : v5 = 0 ∨ v5 = 1
      · rw [if_pos q8] at h
        cases h
        exact pe_ret mm_34 rfl (if_pos q8)
      · rw [if_neg q8] at h
        cases h
def L58_144 (n : Nat) : Nat → Int32 → Mem → Option (Int32 × Mem)
  | 0, _, _ => none
  | k + 1, x3, M => if (M.1 83 3) ≤ x3 then (mlet (m_i M 83 9 ((M.1 83 9) + 1)) (fun M17 => some (M17.1 83 9, M17))) else (if x3 < 0 ∨ 120 ≤ (x3 : Int32).toNatClampNeg then none else (if ((120 * (M.1 83 9)) + x3) < 0 ∨ 600 ≤ ((120 * (M.1 83 9)) + x3 : Int32).toNatClampNeg then none else (mlet (m_i M 86 ((120 * (M.1 83 9)) + x3 : Int32).toNatClampNeg (M.1 85 (x3 : Int32).toNatClampNeg)) (fun M20 => (L58_144 n k) (x3 + 1) M20))))
set_option maxRecDepth 100000 in
set_option maxHeartbeats 4000000 in
theorem L58_144_ev (sc : Option (Nat × (Nat → Int32))) (n : Nat)  (e : Nat) (he : 10 ≤ e) : ∀ k : Nat, ∀ (x3 : Int32) (u1 : Option Value) (u2 : Option Value) (M : Mem) (r : Int32) (M' : Mem), L58_144 n k x3 M = some (r, M') → pm_ev pmT sc e 58 false (144, [some (.ref 83), u1, u2, some (.int x3)], [], 129, 17845, hp M) (some (.int r), 129, 17845, hp M') := by
  intro k
  induction k with
  | zero => intro x3 u1 u2 M r M' h; cases h
  | succ k hr144 =>
    intro x3 u1 u2 M r M' h
    rw [L58_144] at h
    refine pe_blk mm_58 2 (s' := (146, [some (.ref 83), u1, u2, some (.int x3)], [.ref 83, .int x3], _, _, _)) rfl ?_
    refine pe_get mm_58 rfl rfl rfl (by decide) rfl ?_
    by_cases q16 : (M.1 83 3) ≤ x3
    · rw [if_pos q16] at h
      refine pe_blk mm_58 1 (s' := (if (M.1 83 3) ≤ x3 then 178 else 152, [some (.ref 83), u1, u2, some (.int x3)], [], _, _, _)) rfl ?_
      rw [if_pos q16]
      refine pe_blk mm_58 2 (s' := (180, [some (.ref 83), u1, u2, some (.int x3)], [.ref 83, .ref 83], _, _, _)) rfl ?_
      refine pe_get mm_58 rfl rfl rfl (by decide) rfl ?_
      refine pe_blk mm_58 2 (s' := (185, [some (.ref 83), u1, u2, some (.int x3)], [.int ((M.1 83 9) + 1), .ref 83], _, _, _)) rfl ?_
      refine pe_puti mm_58 rfl rfl rfl (by decide) (Nat.le_of_ble_eq_true rfl) rfl rfl ?_
      show pm_ev _ _ _ _ _ (188, [some (.ref 83), u1, u2, some (.int x3)], [], _, _, hp (m_i M 83 9 ((M.1 83 9) + 1))) _
      generalize m_i M 83 9 ((M.1 83 9) + 1) = M17 at h ⊢
      rw [mlet] at h
      refine pe_blk mm_58 1 (s' := (189, [some (.ref 83), u1, u2, some (.int x3)], [.ref 83], _, _, _)) rfl ?_
      refine pe_get mm_58 rfl rfl rfl (by decide) rfl ?_
      cases h
      exact pe_ret mm_58 rfl rfl
    · rw [if_neg q16] at h
      refine pe_blk mm_58 1 (s' := (if (M.1 83 3) ≤ x3 then 178 else 152, [some (.ref 83), u1, u2, some (.int x3)], [], _, _, _)) rfl ?_
      rw [if_neg q16]
      refine pe_blk mm_58 1 (s' := (153, [some (.ref 83), u1, u2, some (.int x3)], [.ref 83], _, _, _)) rfl ?_
      refine pe_get mm_58 rfl rfl rfl (by decide) rfl ?_
      refine pe_blk mm_58 2 (s' := (159, [some (.ref 83), u1, u2, some (.int x3)], [.ref 83, .int 120, .ref 86], _, _, _)) rfl ?_
      refine pe_get mm_58 rfl rfl rfl (by decide) rfl ?_
      refine pe_blk mm_58 4 (s' := (166, [some (.ref 83), u1, u2, some (.int x3)], [.ref 83, .int ((120 * (M.1 83 9)) + x3), .ref 86], _, _, _)) rfl ?_
      refine pe_get mm_58 rfl rfl rfl (by decide) rfl ?_
      refine pe_blk mm_58 1 (s' := (170, [some (.ref 83), u1, u2, some (.int x3)], [.int x3, .ref 85, .int ((120 * (M.1 83 9)) + x3), .ref 86], _, _, _)) rfl ?_
      by_cases q18 : x3 < 0 ∨ 120 ≤ (x3 : Int32).toNatClampNeg
      · rw [if_pos q18] at h
        cases h
      · rw [if_neg q18] at h
        refine pe_iald (f := M.1 85) mm_58 rfl rfl (by decide) q18 ?_
        by_cases q19 : ((120 * (M.1 83 9)) + x3) < 0 ∨ 600 ≤ ((120 * (M.1 83 9)) + x3 : Int32).toNatClampNeg
        · rw [if_pos q19] at h
          cases h
        · rw [if_neg q19] at h
          refine pe_iasti mm_58 rfl rfl (by decide) q19 rfl ?_
          show pm_ev _ _ _ _ _ (172, [some (.ref 83), u1, u2, some (.int x3)], [], _, _, hp (m_i M 86 ((120 * (M.1 83 9)) + x3 : Int32).toNatClampNeg (M.1 85 (x3 : Int32).toNatClampNeg))) _
          generalize m_i M 86 ((120 * (M.1 83 9)) + x3 : Int32).toNatClampNeg (M.1 85 (x3 : Int32).toNatClampNeg) = M20 at h ⊢
          rw [mlet] at h
          refine pe_blk mm_58 2 (s' := (144, [some (.ref 83), u1, u2, some (.int (x3 + 1))], [], _, _, _)) rfl ?_
          exact hr144 (x3 + 1) _ _ _ _ _ h
def L58_36 (n : Nat) : Nat → Int32 → Int32 → Int32 → Mem → Option (Int32 × Mem)
  | 0, _, _, _, _ => none
  | k + 1, x1, x2, x3, M => if x1 ≤ x3 then (if (M.1 83 9) < 5 then (if (M.1 83 9) < 0 ∨ 6 ≤ (M.1 83 9 : Int32).toNatClampNeg then none else (mlet (m_i M 88 (M.1 83 9 : Int32).toNatClampNeg x2) (fun M11 => if (M11.1 83 9) < 0 ∨ 6 ≤ (M11.1 83 9 : Int32).toNatClampNeg then none else (mlet (m_i M11 89 (M11.1 83 9 : Int32).toNatClampNeg x1) (fun M13 => if (M13.1 83 9) < 0 ∨ 5 ≤ (M13.1 83 9 : Int32).toNatClampNeg then none else (mlet (m_i M13 87 (M13.1 83 9 : Int32).toNatClampNeg (M13.1 83 3)) (fun M15 => L58_144 n n 0 M15))))))) else (some ((-1004), M))) else (match F34 n x3 M with | some (v21, M22) => (match F47 n M22 with | some (v24, M25) => (if v24 = 0 then (match F48 n M25 with | some (v28, M29) => (if v28 = 0 then (match F54 n M29 with | some (v32, M33) => (if v32 = 0 then (some ((-1002), M33)) else (match F57 n M33 with | some (v36, M37) => (if v36 = 0 then (some ((-1003), M37)) else ((L58_36 n k) x1 x2 (x3 + 1) M37)) | none => none)) | none => none) else (some ((-1001), M29))) | none => none) else (some ((-1000), M25))) | none => none) | none => none)
set_option maxRecDepth 100000 in
set_option maxHeartbeats 4000000 in
theorem L58_36_ev (sc : Option (Nat × (Nat → Int32))) (n : Nat)  (e : Nat) (he : 10 ≤ e) : ∀ k : Nat, ∀ (x1 : Int32) (x2 : Int32) (x3 : Int32) (M : Mem) (r : Int32) (M' : Mem), L58_36 n k x1 x2 x3 M = some (r, M') → pm_ev pmT sc e 58 false (36, [some (.ref 83), some (.int x1), some (.int x2), some (.int x3)], [], 129, 17845, hp M) (some (.int r), 129, 17845, hp M') := by
  intro k
  induction k with
  | zero => intro x1 x2 x3  M r M' h; cases h
  | succ k hr36 =>
    intro x1 x2 x3  M r M' h
    rw [L58_36] at h
    refine pe_blk mm_58 2 (s' := (38, [some (.ref 83), some (.int x1), some (.int x2), some (.int x3)], [.int x1, .int x3], _, _, _)) rfl ?_
    by_cases q8 : x1 ≤ x3
    · rw [if_pos q8] at h
      refine pe_blk mm_58 1 (s' := (if x1 ≤ x3 then 97 else 41, [some (.ref 83), some (.int x1), some (.int x2), some (.int x3)], [], _, _, _)) rfl ?_
      rw [if_pos q8]
      refine pe_blk mm_58 1 (s' := (98, [some (.ref 83), some (.int x1), some (.int x2), some (.int x3)], [.ref 83], _, _, _)) rfl ?_
      refine pe_get mm_58 rfl rfl rfl (by decide) rfl ?_
      refine pe_blk mm_58 1 (s' := (102, [some (.ref 83), some (.int x1), some (.int x2), some (.int x3)], [.int 5, .int (M.1 83 9)], _, _, _)) rfl ?_
      by_cases q9 : (M.1 83 9) < 5
      · rw [if_pos q9] at h
        refine pe_blk mm_58 1 (s' := (if (M.1 83 9) < 5 then 109 else 105, [some (.ref 83), some (.int x1), some (.int x2), some (.int x3)], [], _, _, _)) rfl ?_
        rw [if_pos q9]
        refine pe_blk mm_58 1 (s' := (110, [some (.ref 83), some (.int x1), some (.int x2), some (.int x3)], [.ref 83], _, _, _)) rfl ?_
        refine pe_get mm_58 rfl rfl rfl (by decide) rfl ?_
        refine pe_blk mm_58 1 (s' := (114, [some (.ref 83), some (.int x1), some (.int x2), some (.int x3)], [.ref 83, .ref 88], _, _, _)) rfl ?_
        refine pe_get mm_58 rfl rfl rfl (by decide) rfl ?_
        refine pe_blk mm_58 1 (s' := (118, [some (.ref 83), some (.int x1), some (.int x2), some (.int x3)], [.int x2, .int (M.1 83 9), .ref 88], _, _, _)) rfl ?_
        by_cases q10 : (M.1 83 9) < 0 ∨ 6 ≤ (M.1 83 9 : Int32).toNatClampNeg
        · rw [if_pos q10] at h
          cases h
        · rw [if_neg q10] at h
          refine pe_iasti mm_58 rfl rfl (by decide) q10 rfl ?_
          show pm_ev _ _ _ _ _ (119, [some (.ref 83), some (.int x1), some (.int x2), some (.int x3)], [], _, _, hp (m_i M 88 (M.1 83 9 : Int32).toNatClampNeg x2)) _
          generalize m_i M 88 (M.1 83 9 : Int32).toNatClampNeg x2 = M11 at h ⊢
          rw [mlet] at h
          refine pe_blk mm_58 1 (s' := (120, [some (.ref 83), some (.int x1), some (.int x2), some (.int x3)], [.ref 83], _, _, _)) rfl ?_
          refine pe_get mm_58 rfl rfl rfl (by decide) rfl ?_
          refine pe_blk mm_58 1 (s' := (124, [some (.ref 83), some (.int x1), some (.int x2), some (.int x3)], [.ref 83, .ref 89], _, _, _)) rfl ?_
          refine pe_get mm_58 rfl rfl rfl (by decide) rfl ?_
          refine pe_blk mm_58 1 (s' := (128, [some (.ref 83), some (.int x1), some (.int x2), some (.int x3)], [.int x1, .int (M11.1 83 9), .ref 89], _, _, _)) rfl ?_
          by_cases q12 : (M11.1 83 9) < 0 ∨ 6 ≤ (M11.1 83 9 : Int32).toNatClampNeg
          · rw [if_pos q12] at h
            cases h
          · rw [if_neg q12] at h
            refine pe_iasti mm_58 rfl rfl (by decide) q12 rfl ?_
            show pm_ev _ _ _ _ _ (129, [some (.ref 83), some (.int x1), some (.int x2), some (.int x3)], [], _, _, hp (m_i M11 89 (M11.1 83 9 : Int32).toNatClampNeg x1)) _
            generalize m_i M11 89 (M11.1 83 9 : Int32).toNatClampNeg x1 = M13 at h ⊢
            rw [mlet] at h
            refine pe_blk mm_58 1 (s' := (130, [some (.ref 83), some (.int x1), some (.int x2), some (.int x3)], [.ref 83], _, _, _)) rfl ?_
            refine pe_get mm_58 rfl rfl rfl (by decide) rfl ?_
            refine pe_blk mm_58 1 (s' := (134, [some (.ref 83), some (.int x1), some (.int x2), some (.int x3)], [.ref 83, .ref 87], _, _, _)) rfl ?_
            refine pe_get mm_58 rfl rfl rfl (by decide) rfl ?_
            refine pe_blk mm_58 1 (s' := (138, [some (.ref 83), some (.int x1), some (.int x2), some (.int x3)], [.ref 83, .int (M13.1 83 9), .ref 87], _, _, _)) rfl ?_
            refine pe_get mm_58 rfl rfl rfl (by decide) rfl ?_
            by_cases q14 : (M13.1 83 9) < 0 ∨ 5 ≤ (M13.1 83 9 : Int32).toNatClampNeg
            · rw [if_pos q14] at h
              cases h
            · rw [if_neg q14] at h
              refine pe_iasti mm_58 rfl rfl (by decide) q14 rfl ?_
              show pm_ev _ _ _ _ _ (142, [some (.ref 83), some (.int x1), some (.int x2), some (.int x3)], [], _, _, hp (m_i M13 87 (M13.1 83 9 : Int32).toNatClampNeg (M13.1 83 3))) _
              generalize m_i M13 87 (M13.1 83 9 : Int32).toNatClampNeg (M13.1 83 3) = M15 at h ⊢
              rw [mlet] at h
              refine pe_blk mm_58 2 (s' := (144, [some (.ref 83), some (.int x1), some (.int x2), some (.int 0)], [], _, _, _)) rfl ?_
              exact L58_144_ev sc n e he n 0 _ _ _ _ _ h
      · rw [if_neg q9] at h
        refine pe_blk mm_58 1 (s' := (if (M.1 83 9) < 5 then 109 else 105, [some (.ref 83), some (.int x1), some (.int x2), some (.int x3)], [], _, _, _)) rfl ?_
        rw [if_neg q9]
        refine pe_blk mm_58 1 (s' := (108, [some (.ref 83), some (.int x1), some (.int x2), some (.int x3)], [.int (-1004)], _, _, _)) rfl ?_
        cases h
        exact pe_ret mm_58 rfl rfl
    · rw [if_neg q8] at h
      refine pe_blk mm_58 1 (s' := (if x1 ≤ x3 then 97 else 41, [some (.ref 83), some (.int x1), some (.int x2), some (.int x3)], [], _, _, _)) rfl ?_
      rw [if_neg q8]
      refine pe_blk mm_58 2 (s' := (43, [some (.ref 83), some (.int x1), some (.int x2), some (.int x3)], [.int x3, .ref 83], _, _, _)) rfl ?_
      obtain ⟨e1, rfl⟩ : ∃ e1, e = e1 + 1 := ⟨e - 1, by omega⟩
      cases hc23 : F34 n x3 M with
      | none => rw [hc23] at h; cases h
      | some w =>
        obtain ⟨v21, M22⟩ := w
        rw [hc23] at h
        dsimp only at h
        refine pe_virt (al := [.int x3]) (a := 83) (L0 := [some (.ref 83), some (.int x3)]) (r1 := (some (.int v21), 129, 17845, hp M22)) mm_58 rfl rfl rfl mm_34 rfl (by decide) (by decide) rfl (Nat.le_of_ble_eq_true rfl) (Nat.le_of_ble_eq_true rfl) rfl rfl (F34_ev sc n x3 _ e1 (by omega) _ _ hc23) ?_
        show pm_ev _ _ _ _ _ (46, [some (.ref 83), some (.int x1), some (.int x2), some (.int x3)], [.int v21], _, _, _) _
        refine pe_blk mm_58 2 (s' := (48, [some (.ref 83), some (.int x1), some (.int x2), some (.int x3)], [.ref 83], _, _, _)) rfl ?_
        skip
        cases hc26 : F47 n M22 with
        | none => rw [hc26] at h; cases h
        | some w =>
          obtain ⟨v24, M25⟩ := w
          rw [hc26] at h
          dsimp only at h
          refine pe_virt (al := []) (a := 83) (L0 := [some (.ref 83), none, none]) (r1 := (some (.int v24), 129, 17845, hp M25)) mm_58 rfl rfl rfl mm_47 rfl (by decide) (by decide) rfl (Nat.le_of_ble_eq_true rfl) (Nat.le_of_ble_eq_true rfl) rfl rfl (F47_ev sc n _ e1 (by omega) _ _ hc26) ?_
          show pm_ev _ _ _ _ _ (51, [some (.ref 83), some (.int x1), some (.int x2), some (.int x3)], [.int v24], _, _, _) _
          by_cases q27 : v24 = 0
          · rw [if_pos q27] at h
            refine pe_blk mm_58 1 (s' := (if v24 = 0 then 58 else 54, [some (.ref 83), some (.int x1), some (.int x2), some (.int x3)], [], _, _, _)) rfl ?_
            rw [if_pos q27]
            refine pe_blk mm_58 1 (s' := (59, [some (.ref 83), some (.int x1), some (.int x2), some (.int x3)], [.ref 83], _, _, _)) rfl ?_
            skip
            cases hc30 : F48 n M25 with
            | none => rw [hc30] at h; cases h
            | some w =>
              obtain ⟨v28, M29⟩ := w
              rw [hc30] at h
              dsimp only at h
              refine pe_virt (al := []) (a := 83) (L0 := [some (.ref 83), none, none, none]) (r1 := (some (.int v28), 129, 17845, hp M29)) mm_58 rfl rfl rfl mm_48 rfl (by decide) (by decide) rfl (Nat.le_of_ble_eq_true rfl) (Nat.le_of_ble_eq_true rfl) rfl rfl (F48_ev sc n _ e1 (by omega) _ _ hc30) ?_
              show pm_ev _ _ _ _ _ (62, [some (.ref 83), some (.int x1), some (.int x2), some (.int x3)], [.int v28], _, _, _) _
              by_cases q31 : v28 = 0
              · rw [if_pos q31] at h
                refine pe_blk mm_58 1 (s' := (if v28 = 0 then 69 else 65, [some (.ref 83), some (.int x1), some (.int x2), some (.int x3)], [], _, _, _)) rfl ?_
                rw [if_pos q31]
                refine pe_blk mm_58 1 (s' := (70, [some (.ref 83), some (.int x1), some (.int x2), some (.int x3)], [.ref 83], _, _, _)) rfl ?_
                skip
                cases hc34 : F54 n M29 with
                | none => rw [hc34] at h; cases h
                | some w =>
                  obtain ⟨v32, M33⟩ := w
                  rw [hc34] at h
                  dsimp only at h
                  refine pe_virt (al := []) (a := 83) (L0 := [some (.ref 83), none, none, none, none, none]) (r1 := (some (.int v32), 129, 17845, hp M33)) mm_58 rfl rfl rfl mm_54 rfl (by decide) (by decide) rfl (Nat.le_of_ble_eq_true rfl) (Nat.le_of_ble_eq_true rfl) rfl rfl (F54_ev sc n _ e1 (by omega) _ _ hc34) ?_
                  show pm_ev _ _ _ _ _ (73, [some (.ref 83), some (.int x1), some (.int x2), some (.int x3)], [.int v32], _, _, _) _
                  by_cases q35 : v32 = 0
                  · rw [if_pos q35] at h
                    refine pe_blk mm_58 1 (s' := (if v32 = 0 then 76 else 80, [some (.ref 83), some (.int x1), some (.int x2), some (.int x3)], [], _, _, _)) rfl ?_
                    rw [if_pos q35]
                    refine pe_blk mm_58 1 (s' := (79, [some (.ref 83), some (.int x1), some (.int x2), some (.int x3)], [.int (-1002)], _, _, _)) rfl ?_
                    cases h
                    exact pe_ret mm_58 rfl rfl
                  · rw [if_neg q35] at h
                    refine pe_blk mm_58 1 (s' := (if v32 = 0 then 76 else 80, [some (.ref 83), some (.int x1), some (.int x2), some (.int x3)], [], _, _, _)) rfl ?_
                    rw [if_neg q35]
                    refine pe_blk mm_58 1 (s' := (81, [some (.ref 83), some (.int x1), some (.int x2), some (.int x3)], [.ref 83], _, _, _)) rfl ?_
                    skip
                    cases hc38 : F57 n M33 with
                    | none => rw [hc38] at h; cases h
                    | some w =>
                      obtain ⟨v36, M37⟩ := w
                      rw [hc38] at h
                      dsimp only at h
                      refine pe_virt (al := []) (a := 83) (L0 := [some (.ref 83), none, none, none, none]) (r1 := (some (.int v36), 129, 17845, hp M37)) mm_58 rfl rfl rfl mm_57 rfl (by decide) (by decide) rfl (Nat.le_of_ble_eq_true rfl) (Nat.le_of_ble_eq_true rfl) rfl rfl (F57_ev sc n _ e1 (by omega) _ _ hc38) ?_
                      show pm_ev _ _ _ _ _ (84, [some (.ref 83), some (.int x1), some (.int x2), some (.int x3)], [.int v36], _, _, _) _
                      by_cases q39 : v36 = 0
                      · rw [if_pos q39] at h
                        refine pe_blk mm_58 1 (s' := (if v36 = 0 then 87 else 91, [some (.ref 83), some (.int x1), some (.int x2), some (.int x3)], [], _, _, _)) rfl ?_
                        rw [if_pos q39]
                        refine pe_blk mm_58 1 (s' := (90, [some (.ref 83), some (.int x1), some (.int x2), some (.int x3)], [.int (-1003)], _, _, _)) rfl ?_
                        cases h
                        exact pe_ret mm_58 rfl rfl
                      · rw [if_neg q39] at h
                        refine pe_blk mm_58 1 (s' := (if v36 = 0 then 87 else 91, [some (.ref 83), some (.int x1), some (.int x2), some (.int x3)], [], _, _, _)) rfl ?_
                        rw [if_neg q39]
                        refine pe_blk mm_58 2 (s' := (36, [some (.ref 83), some (.int x1), some (.int x2), some (.int (x3 + 1))], [], _, _, _)) rfl ?_
                        exact hr36 x1 x2 (x3 + 1) _ _ _ h
              · rw [if_neg q31] at h
                refine pe_blk mm_58 1 (s' := (if v28 = 0 then 69 else 65, [some (.ref 83), some (.int x1), some (.int x2), some (.int x3)], [], _, _, _)) rfl ?_
                rw [if_neg q31]
                refine pe_blk mm_58 1 (s' := (68, [some (.ref 83), some (.int x1), some (.int x2), some (.int x3)], [.int (-1001)], _, _, _)) rfl ?_
                cases h
                exact pe_ret mm_58 rfl rfl
          · rw [if_neg q27] at h
            refine pe_blk mm_58 1 (s' := (if v24 = 0 then 58 else 54, [some (.ref 83), some (.int x1), some (.int x2), some (.int x3)], [], _, _, _)) rfl ?_
            rw [if_neg q27]
            refine pe_blk mm_58 1 (s' := (57, [some (.ref 83), some (.int x1), some (.int x2), some (.int x3)], [.int (-1000)], _, _, _)) rfl ?_
            cases h
            exact pe_ret mm_58 rfl rfl
/-- ArmExpanderModel.define -/
def F58 (n : Nat) (M : Mem) : Option (Int32 × Mem) :=
  match F32 n M with | some (v1, M2) => (match F45 n 5 (-1) M2 with | some (v4, M5) => (if v4 = 0 then (some ((-1) - (M5.1 83 8), M5)) else (L58_36 n n (M5.1 89 5) (M5.1 88 5) 0 M5)) | none => none) | none => none
set_option maxRecDepth 100000 in
set_option maxHeartbeats 4000000 in
theorem F58_ev (sc : Option (Nat × (Nat → Int32))) (n : Nat)  (M : Mem) (e : Nat) (he : 10 ≤ e) (r : Int32) (M' : Mem) (h : F58 n M = some (r, M')) : pm_ev pmT sc e 58 false (0, [some (.ref 83), none, none, none], [], 129, 17845, hp M) (some (.int r), 129, 17845, hp M') := by
  unfold F58 at h
  refine pe_blk mm_58 1 (s' := (1, [some (.ref 83), none, none, none], [.ref 83], _, _, _)) rfl ?_
  obtain ⟨e1, rfl⟩ : ∃ e1, e = e1 + 1 := ⟨e - 1, by omega⟩
  cases hc3 : F32 n M with
  | none => rw [hc3] at h; cases h
  | some w =>
    obtain ⟨v1, M2⟩ := w
    rw [hc3] at h
    dsimp only at h
    refine pe_virt (al := []) (a := 83) (L0 := [some (.ref 83), none]) (r1 := (none, 129, 17845, hp M2)) mm_58 rfl rfl rfl mm_32 rfl (by decide) (by decide) rfl (Nat.le_of_ble_eq_true rfl) (Nat.le_of_ble_eq_true rfl) rfl rfl (F32_ev sc n _ e1 (by omega) _ _ hc3) ?_
    show pm_ev _ _ _ _ _ (4, [some (.ref 83), none, none, none], [], _, _, _) _
    refine pe_blk mm_58 3 (s' := (7, [some (.ref 83), none, none, none], [.int (-1), .int 5, .ref 83], _, _, _)) rfl ?_
    skip
    cases hc6 : F45 n 5 (-1) M2 with
    | none => rw [hc6] at h; cases h
    | some w =>
      obtain ⟨v4, M5⟩ := w
      rw [hc6] at h
      dsimp only at h
      refine pe_virt (al := [.int (-1), .int 5]) (a := 83) (L0 := [some (.ref 83), some (.int 5), some (.int (-1)), none]) (r1 := (some (.int v4), 129, 17845, hp M5)) mm_58 rfl rfl rfl mm_45 rfl (by decide) (by decide) rfl (Nat.le_of_ble_eq_true rfl) (Nat.le_of_ble_eq_true rfl) rfl rfl (F45_ev sc n 5 (-1) _ e1 (by omega) _ _ hc6) ?_
      show pm_ev _ _ _ _ _ (10, [some (.ref 83), none, none, none], [.int v4], _, _, _) _
      by_cases q7 : v4 = 0
      · rw [if_pos q7] at h
        refine pe_blk mm_58 1 (s' := (if v4 = 0 then 13 else 20, [some (.ref 83), none, none, none], [], _, _, _)) rfl ?_
        rw [if_pos q7]
        refine pe_blk mm_58 2 (s' := (15, [some (.ref 83), none, none, none], [.ref 83, .int (-1)], _, _, _)) rfl ?_
        refine pe_get mm_58 rfl rfl rfl (by decide) rfl ?_
        refine pe_blk mm_58 1 (s' := (19, [some (.ref 83), none, none, none], [.int ((-1) - (M5.1 83 8))], _, _, _)) rfl ?_
        cases h
        exact pe_ret mm_58 rfl rfl
      · rw [if_neg q7] at h
        refine pe_blk mm_58 1 (s' := (if v4 = 0 then 13 else 20, [some (.ref 83), none, none, none], [], _, _, _)) rfl ?_
        rw [if_neg q7]
        refine pe_blk mm_58 1 (s' := (21, [some (.ref 83), none, none, none], [.ref 83], _, _, _)) rfl ?_
        refine pe_get mm_58 rfl rfl rfl (by decide) rfl ?_
        refine pe_blk mm_58 1 (s' := (25, [some (.ref 83), none, none, none], [.int 5, .ref 89], _, _, _)) rfl ?_
        refine pe_iald (f := M5.1 89) mm_58 rfl rfl (by decide) (by decide) ?_
        show pm_ev _ _ _ _ _ (26, [some (.ref 83), none, none, none], [.int (M5.1 89 5)], _, _, hp (M5)) _
        refine pe_blk mm_58 2 (s' := (28, [some (.ref 83), some (.int (M5.1 89 5)), none, none], [.ref 83], _, _, _)) rfl ?_
        refine pe_get mm_58 rfl rfl rfl (by decide) rfl ?_
        refine pe_blk mm_58 1 (s' := (32, [some (.ref 83), some (.int (M5.1 89 5)), none, none], [.int 5, .ref 88], _, _, _)) rfl ?_
        refine pe_iald (f := M5.1 88) mm_58 rfl rfl (by decide) (by decide) ?_
        show pm_ev _ _ _ _ _ (33, [some (.ref 83), some (.int (M5.1 89 5)), none, none], [.int (M5.1 88 5)], _, _, hp (M5)) _
        refine pe_blk mm_58 3 (s' := (36, [some (.ref 83), some (.int (M5.1 89 5)), some (.int (M5.1 88 5)), some (.int 0)], [], _, _, _)) rfl ?_
        exact L58_36_ev sc n (e1 + 1) he n (M5.1 89 5) (M5.1 88 5) 0 _ _ _ h
def J92_43 (n : Nat) (g0 : Nat) (rec12 : Int32 → Int32 → Int32 → Mem → Option (Int32 × Mem)) (x1 : Int32) (x2 : Int32) (x3 : Int32) (M : Mem) : Option (Int32 × Mem) :=
  rec12 x1 x2 (x3 + 1) M
set_option maxRecDepth 100000 in
set_option maxHeartbeats 4000000 in
theorem J92_43_ev (sc : Option (Nat × (Nat → Int32))) (n : Nat) (g0 : Nat) (hg0 : isD g0) (e : Nat) (he : 2 ≤ e) (rec12 : Int32 → Int32 → Int32 → Mem → Option (Int32 × Mem)) (hr12 : ∀ (x1 : Int32) (x2 : Int32) (x3 : Int32) (M : Mem) (r : Int32) (M' : Mem), rec12 x1 x2 x3 M = some (r, M') → pm_ev pmT sc e 92 false (12, [some (.ref g0), some (.int x1), some (.int x2), some (.int x3)], [], 129, 17845, hp M) (some (.int r), 129, 17845, hp M')) : ∀ (x1 : Int32) (x2 : Int32) (x3 : Int32) (M : Mem) (r : Int32) (M' : Mem), J92_43 n g0 rec12 x1 x2 x3 M = some (r, M') → pm_ev pmT sc e 92 false (43, [some (.ref g0), some (.int x1), some (.int x2), some (.int x3)], [], 129, 17845, hp M) (some (.int r), 129, 17845, hp M') := by
  intro x1 x2 x3  M r M' h
  unfold J92_43 at h
  refine pe_blk mm_92 2 (s' := (12, [some (.ref g0), some (.int x1), some (.int x2), some (.int (x3 + 1))], [], _, _, _)) rfl ?_
  exact hr12 x1 x2 (x3 + 1) _ _ _ h
def L92_12 (n : Nat) (g0 : Nat) : Nat → Int32 → Int32 → Int32 → Mem → Option (Int32 × Mem)
  | 0, _, _, _, _ => none
  | k + 1, x1, x2, x3, M => if x2 ≤ x3 then (some (0, M)) else (match F115 n g0 x3 M with | some (v8, M9) => (if v8 = 0 then (J92_43 n g0 (L92_12 n g0 k) x1 x2 x3 M9) else (match F109 n g0 (x3 + 1) M9 with | some (v12, M13) => (match F125 n g0 x1 v12 M13 with | some (v15, M16) => (if v15 = x3 then (J92_43 n g0 (L92_12 n g0 k) x1 x2 x3 M16) else (some (1, M16))) | none => none) | none => none)) | none => none)
set_option maxRecDepth 100000 in
set_option maxHeartbeats 4000000 in
theorem L92_12_ev (sc : Option (Nat × (Nat → Int32))) (n : Nat) (g0 : Nat) (hg0 : isD g0) (e : Nat) (he : 2 ≤ e) : ∀ k : Nat, ∀ (x1 : Int32) (x2 : Int32) (x3 : Int32) (M : Mem) (r : Int32) (M' : Mem), L92_12 n g0 k x1 x2 x3 M = some (r, M') → pm_ev pmT sc e 92 false (12, [some (.ref g0), some (.int x1), some (.int x2), some (.int x3)], [], 129, 17845, hp M) (some (.int r), 129, 17845, hp M') := by
  intro k
  induction k with
  | zero => intro x1 x2 x3  M r M' h; cases h
  | succ k hr12 =>
    intro x1 x2 x3  M r M' h
    rw [L92_12] at h
    refine pe_blk mm_92 2 (s' := (14, [some (.ref g0), some (.int x1), some (.int x2), some (.int x3)], [.int x2, .int x3], _, _, _)) rfl ?_
    by_cases q7 : x2 ≤ x3
    · rw [if_pos q7] at h
      refine pe_blk mm_92 1 (s' := (if x2 ≤ x3 then 49 else 17, [some (.ref g0), some (.int x1), some (.int x2), some (.int x3)], [], _, _, _)) rfl ?_
      rw [if_pos q7]
      refine pe_blk mm_92 1 (s' := (50, [some (.ref g0), some (.int x1), some (.int x2), some (.int x3)], [.int 0], _, _, _)) rfl ?_
      cases h
      exact pe_ret mm_92 rfl rfl
    · rw [if_neg q7] at h
      refine pe_blk mm_92 1 (s' := (if x2 ≤ x3 then 49 else 17, [some (.ref g0), some (.int x1), some (.int x2), some (.int x3)], [], _, _, _)) rfl ?_
      rw [if_neg q7]
      refine pe_blk mm_92 2 (s' := (19, [some (.ref g0), some (.int x1), some (.int x2), some (.int x3)], [.int x3, .ref g0], _, _, _)) rfl ?_
      obtain ⟨e1, rfl⟩ : ∃ e1, e = e1 + 1 := ⟨e - 1, by omega⟩
      cases hc10 : F115 n g0 x3 M with
      | none => rw [hc10] at h; cases h
      | some w =>
        obtain ⟨v8, M9⟩ := w
        rw [hc10] at h
        dsimp only at h
        refine pe_virt (al := [.int x3]) (a := g0) (L0 := [some (.ref g0), some (.int x3)]) (r1 := (some (.int v8), 129, 17845, hp M9)) mm_92 rfl rfl rfl mm_115 (isD_0 hg0 _) (by have := isD_lt hg0; omega) (by decide) rfl (Nat.le_of_ble_eq_true rfl) (Nat.le_of_ble_eq_true rfl) rfl rfl (F115_ev sc n g0 x3 hg0 _ e1 (by omega) _ _ hc10) ?_
        show pm_ev _ _ _ _ _ (22, [some (.ref g0), some (.int x1), some (.int x2), some (.int x3)], [.int v8], _, _, _) _
        by_cases q11 : v8 = 0
        · rw [if_pos q11] at h
          refine pe_blk mm_92 1 (s' := (if v8 = 0 then 43 else 25, [some (.ref g0), some (.int x1), some (.int x2), some (.int x3)], [], _, _, _)) rfl ?_
          rw [if_pos q11]
          exact J92_43_ev sc n g0 hg0 (e1 + 1) he (L92_12 n g0 k) hr12 x1 x2 x3 _ _ _ h
        · rw [if_neg q11] at h
          refine pe_blk mm_92 1 (s' := (if v8 = 0 then 43 else 25, [some (.ref g0), some (.int x1), some (.int x2), some (.int x3)], [], _, _, _)) rfl ?_
          rw [if_neg q11]
          refine pe_blk mm_92 6 (s' := (31, [some (.ref g0), some (.int x1), some (.int x2), some (.int x3)], [.int (x3 + 1), .ref g0, .int x1, .ref g0], _, _, _)) rfl ?_
          skip
          cases hc14 : F109 n g0 (x3 + 1) M9 with
          | none => rw [hc14] at h; cases h
          | some w =>
            obtain ⟨v12, M13⟩ := w
            rw [hc14] at h
            dsimp only at h
            refine pe_virt (al := [.int (x3 + 1)]) (a := g0) (L0 := [some (.ref g0), some (.int (x3 + 1))]) (r1 := (some (.int v12), 129, 17845, hp M13)) mm_92 rfl rfl rfl mm_109 (isD_0 hg0 _) (by have := isD_lt hg0; omega) (by decide) rfl (Nat.le_of_ble_eq_true rfl) (Nat.le_of_ble_eq_true rfl) rfl rfl (F109_ev sc n g0 (x3 + 1) hg0 _ e1 (by omega) _ _ hc14) ?_
            show pm_ev _ _ _ _ _ (34, [some (.ref g0), some (.int x1), some (.int x2), some (.int x3)], [.int v12, .int x1, .ref g0], _, _, _) _
            skip
            cases hc17 : F125 n g0 x1 v12 M13 with
            | none => rw [hc17] at h; cases h
            | some w =>
              obtain ⟨v15, M16⟩ := w
              rw [hc17] at h
              dsimp only at h
              refine pe_virt (al := [.int v12, .int x1]) (a := g0) (L0 := [some (.ref g0), some (.int x1), some (.int v12), none, none]) (r1 := (some (.int v15), 129, 17845, hp M16)) mm_92 rfl rfl rfl mm_125 (isD_0 hg0 _) (by have := isD_lt hg0; omega) (by decide) rfl (Nat.le_of_ble_eq_true rfl) (Nat.le_of_ble_eq_true rfl) rfl rfl (F125_ev sc n g0 x1 v12 hg0 _ e1 (by omega) _ _ hc17) ?_
              show pm_ev _ _ _ _ _ (37, [some (.ref g0), some (.int x1), some (.int x2), some (.int x3)], [.int v15], _, _, _) _
              refine pe_blk mm_92 1 (s' := (38, [some (.ref g0), some (.int x1), some (.int x2), some (.int x3)], [.int x3, .int v15], _, _, _)) rfl ?_
              by_cases q18 : v15 = x3
              · rw [if_pos q18] at h
                refine pe_blk mm_92 1 (s' := (if v15 = x3 then 43 else 41, [some (.ref g0), some (.int x1), some (.int x2), some (.int x3)], [], _, _, _)) rfl ?_
                rw [if_pos q18]
                exact J92_43_ev sc n g0 hg0 (e1 + 1) he (L92_12 n g0 k) hr12 x1 x2 x3 _ _ _ h
              · rw [if_neg q18] at h
                refine pe_blk mm_92 1 (s' := (if v15 = x3 then 43 else 41, [some (.ref g0), some (.int x1), some (.int x2), some (.int x3)], [], _, _, _)) rfl ?_
                rw [if_neg q18]
                refine pe_blk mm_92 1 (s' := (42, [some (.ref g0), some (.int x1), some (.int x2), some (.int x3)], [.int 1], _, _, _)) rfl ?_
                cases h
                exact pe_ret mm_92 rfl rfl
/-- ArmExpander$Checker.hasWordTwice -/
def F92 (n : Nat) (g0 : Nat) (a1 : Int32) (M : Mem) : Option (Int32 × Mem) :=
  match F112 n g0 a1 M with | some (v1, M2) => (match F111 n g0 a1 M2 with | some (v4, M5) => (L92_12 n g0 n a1 v1 v4 M5) | none => none) | none => none
set_option maxRecDepth 100000 in
set_option maxHeartbeats 4000000 in
theorem F92_ev (sc : Option (Nat × (Nat → Int32))) (n : Nat) (g0 : Nat) (a1 : Int32) (hg0 : isD g0) (M : Mem) (e : Nat) (he : 2 ≤ e) (r : Int32) (M' : Mem) (h : F92 n g0 a1 M = some (r, M')) : pm_ev pmT sc e 92 false (0, [some (.ref g0), some (.int a1), none, none], [], 129, 17845, hp M) (some (.int r), 129, 17845, hp M') := by
  unfold F92 at h
  refine pe_blk mm_92 2 (s' := (2, [some (.ref g0), some (.int a1), none, none], [.int a1, .ref g0], _, _, _)) rfl ?_
  obtain ⟨e1, rfl⟩ : ∃ e1, e = e1 + 1 := ⟨e - 1, by omega⟩
  cases hc3 : F112 n g0 a1 M with
  | none => rw [hc3] at h; cases h
  | some w =>
    obtain ⟨v1, M2⟩ := w
    rw [hc3] at h
    dsimp only at h
    refine pe_virt (al := [.int a1]) (a := g0) (L0 := [some (.ref g0), some (.int a1)]) (r1 := (some (.int v1), 129, 17845, hp M2)) mm_92 rfl rfl rfl mm_112 (isD_0 hg0 _) (by have := isD_lt hg0; omega) (by decide) rfl (Nat.le_of_ble_eq_true rfl) (Nat.le_of_ble_eq_true rfl) rfl rfl (F112_ev sc n g0 a1 hg0 _ e1 (by omega) _ _ hc3) ?_
    show pm_ev _ _ _ _ _ (5, [some (.ref g0), some (.int a1), none, none], [.int v1], _, _, _) _
    refine pe_blk mm_92 3 (s' := (8, [some (.ref g0), some (.int a1), some (.int v1), none], [.int a1, .ref g0], _, _, _)) rfl ?_
    skip
    cases hc6 : F111 n g0 a1 M2 with
    | none => rw [hc6] at h; cases h
    | some w =>
      obtain ⟨v4, M5⟩ := w
      rw [hc6] at h
      dsimp only at h
      refine pe_virt (al := [.int a1]) (a := g0) (L0 := [some (.ref g0), some (.int a1)]) (r1 := (some (.int v4), 129, 17845, hp M5)) mm_92 rfl rfl rfl mm_111 (isD_0 hg0 _) (by have := isD_lt hg0; omega) (by decide) rfl (Nat.le_of_ble_eq_true rfl) (Nat.le_of_ble_eq_true rfl) rfl rfl (F111_ev sc n g0 a1 hg0 _ e1 (by omega) _ _ hc6) ?_
      show pm_ev _ _ _ _ _ (11, [some (.ref g0), some (.int a1), some (.int v1), none], [.int v4], _, _, _) _
      refine pe_blk mm_92 1 (s' := (12, [some (.ref g0), some (.int a1), some (.int v1), some (.int v4)], [], _, _, _)) rfl ?_
      exact L92_12_ev sc n g0 hg0 (e1 + 1) he n a1 v1 v4 _ _ _ h
def J94_58 (n : Nat) (g0 : Nat) (M : Mem) : Option (Int32 × Mem) :=
  some (1, M)
set_option maxRecDepth 100000 in
set_option maxHeartbeats 4000000 in
theorem J94_58_ev (sc : Option (Nat × (Nat → Int32))) (n : Nat) (g0 : Nat) (hg0 : isD g0) (e : Nat) (he : 2 ≤ e) : ∀ (u0 : Option Value) (u1 : Option Value) (u2 : Option Value) (u3 : Option Value) (u4 : Option Value) (M : Mem) (r : Int32) (M' : Mem), J94_58 n g0  M = some (r, M') → pm_ev pmT sc e 94 false (58, [u0, u1, u2, u3, u4], [], 129, 17845, hp M) (some (.int r), 129, 17845, hp M') := by
  intro u0 u1 u2 u3 u4 M r M' h
  unfold J94_58 at h
  refine pe_blk mm_94 1 (s' := (59, [u0, u1, u2, u3, u4], [.int 1], _, _, _)) rfl ?_
  cases h
  exact pe_ret mm_94 rfl rfl
def J94_44 (n : Nat) (g0 : Nat) (M : Mem) : Option (Int32 × Mem) :=
  some (0, M)
set_option maxRecDepth 100000 in
set_option maxHeartbeats 4000000 in
theorem J94_44_ev (sc : Option (Nat × (Nat → Int32))) (n : Nat) (g0 : Nat) (hg0 : isD g0) (e : Nat) (he : 2 ≤ e) : ∀ (u0 : Option Value) (u1 : Option Value) (u2 : Option Value) (u3 : Option Value) (u4 : Option Value) (M : Mem) (r : Int32) (M' : Mem), J94_44 n g0  M = some (r, M') → pm_ev pmT sc e 94 false (44, [u0, u1, u2, u3, u4], [], 129, 17845, hp M) (some (.int r), 129, 17845, hp M') := by
  intro u0 u1 u2 u3 u4 M r M' h
  unfold J94_44 at h
  refine pe_blk mm_94 1 (s' := (45, [u0, u1, u2, u3, u4], [.int 0], _, _, _)) rfl ?_
  cases h
  exact pe_ret mm_94 rfl rfl
def L94_15 (n : Nat) (g0 : Nat) : Nat → Int32 → Int32 → Int32 → Mem → Option (Int32 × Mem)
  | 0, _, _, _, _ => none
  | k + 1, x2, x3, x4, M => if 4 ≤ x4 then (J94_58 n g0 M) else (if x2 ≤ x3 then (J94_58 n g0 M) else (match F116 n g0 x3 M with | some (v6, M7) => (if v6 = 0 then (J94_44 n g0 M7) else (match F118 n g0 x3 M7 with | some (v10, M11) => (if v10 = 43 then (J94_44 n g0 M11) else (match F119 n g0 x3 M11 with | some (v14, M15) => ((L94_15 n g0 k) x2 v14 (x4 + 1) M15) | none => none)) | none => none)) | none => none))
set_option maxRecDepth 100000 in
set_option maxHeartbeats 4000000 in
theorem L94_15_ev (sc : Option (Nat × (Nat → Int32))) (n : Nat) (g0 : Nat) (hg0 : isD g0) (e : Nat) (he : 2 ≤ e) : ∀ k : Nat, ∀ (x2 : Int32) (x3 : Int32) (x4 : Int32) (u1 : Option Value) (M : Mem) (r : Int32) (M' : Mem), L94_15 n g0 k x2 x3 x4 M = some (r, M') → pm_ev pmT sc e 94 false (15, [some (.ref g0), u1, some (.int x2), some (.int x3), some (.int x4)], [], 129, 17845, hp M) (some (.int r), 129, 17845, hp M') := by
  intro k
  induction k with
  | zero => intro x2 x3 x4 u1 M r M' h; cases h
  | succ k hr15 =>
    intro x2 x3 x4 u1 M r M' h
    rw [L94_15] at h
    refine pe_blk mm_94 2 (s' := (18, [some (.ref g0), u1, some (.int x2), some (.int x3), some (.int x4)], [.int 4, .int x4], _, _, _)) rfl ?_
    by_cases q4 : 4 ≤ x4
    · rw [if_pos q4] at h
      refine pe_blk mm_94 1 (s' := (if 4 ≤ x4 then 58 else 21, [some (.ref g0), u1, some (.int x2), some (.int x3), some (.int x4)], [], _, _, _)) rfl ?_
      rw [if_pos q4]
      exact J94_58_ev sc n g0 hg0 e he _ _ _ _ _ _ _ _ h
    · rw [if_neg q4] at h
      refine pe_blk mm_94 1 (s' := (if 4 ≤ x4 then 58 else 21, [some (.ref g0), u1, some (.int x2), some (.int x3), some (.int x4)], [], _, _, _)) rfl ?_
      rw [if_neg q4]
      refine pe_blk mm_94 2 (s' := (23, [some (.ref g0), u1, some (.int x2), some (.int x3), some (.int x4)], [.int x2, .int x3], _, _, _)) rfl ?_
      by_cases q5 : x2 ≤ x3
      · rw [if_pos q5] at h
        refine pe_blk mm_94 1 (s' := (if x2 ≤ x3 then 58 else 26, [some (.ref g0), u1, some (.int x2), some (.int x3), some (.int x4)], [], _, _, _)) rfl ?_
        rw [if_pos q5]
        exact J94_58_ev sc n g0 hg0 e he _ _ _ _ _ _ _ _ h
      · rw [if_neg q5] at h
        refine pe_blk mm_94 1 (s' := (if x2 ≤ x3 then 58 else 26, [some (.ref g0), u1, some (.int x2), some (.int x3), some (.int x4)], [], _, _, _)) rfl ?_
        rw [if_neg q5]
        refine pe_blk mm_94 2 (s' := (28, [some (.ref g0), u1, some (.int x2), some (.int x3), some (.int x4)], [.int x3, .ref g0], _, _, _)) rfl ?_
        obtain ⟨e1, rfl⟩ : ∃ e1, e = e1 + 1 := ⟨e - 1, by omega⟩
        cases hc8 : F116 n g0 x3 M with
        | none => rw [hc8] at h; cases h
        | some w =>
          obtain ⟨v6, M7⟩ := w
          rw [hc8] at h
          dsimp only at h
          refine pe_virt (al := [.int x3]) (a := g0) (L0 := [some (.ref g0), some (.int x3)]) (r1 := (some (.int v6), 129, 17845, hp M7)) mm_94 rfl rfl rfl mm_116 (isD_0 hg0 _) (by have := isD_lt hg0; omega) (by decide) rfl (Nat.le_of_ble_eq_true rfl) (Nat.le_of_ble_eq_true rfl) rfl rfl (F116_ev sc n g0 x3 hg0 _ e1 (by omega) _ _ hc8) ?_
          show pm_ev _ _ _ _ _ (31, [some (.ref g0), u1, some (.int x2), some (.int x3), some (.int x4)], [.int v6], _, _, _) _
          by_cases q9 : v6 = 0
          · rw [if_pos q9] at h
            refine pe_blk mm_94 1 (s' := (if v6 = 0 then 44 else 34, [some (.ref g0), u1, some (.int x2), some (.int x3), some (.int x4)], [], _, _, _)) rfl ?_
            rw [if_pos q9]
            exact J94_44_ev sc n g0 hg0 (e1 + 1) he _ _ _ _ _ _ _ _ h
          · rw [if_neg q9] at h
            refine pe_blk mm_94 1 (s' := (if v6 = 0 then 44 else 34, [some (.ref g0), u1, some (.int x2), some (.int x3), some (.int x4)], [], _, _, _)) rfl ?_
            rw [if_neg q9]
            refine pe_blk mm_94 2 (s' := (36, [some (.ref g0), u1, some (.int x2), some (.int x3), some (.int x4)], [.int x3, .ref g0], _, _, _)) rfl ?_
            skip
            cases hc12 : F118 n g0 x3 M7 with
            | none => rw [hc12] at h; cases h
            | some w =>
              obtain ⟨v10, M11⟩ := w
              rw [hc12] at h
              dsimp only at h
              refine pe_virt (al := [.int x3]) (a := g0) (L0 := [some (.ref g0), some (.int x3)]) (r1 := (some (.int v10), 129, 17845, hp M11)) mm_94 rfl rfl rfl mm_118 (isD_0 hg0 _) (by have := isD_lt hg0; omega) (by decide) rfl (Nat.le_of_ble_eq_true rfl) (Nat.le_of_ble_eq_true rfl) rfl rfl (F118_ev sc n g0 x3 hg0 _ e1 (by omega) _ _ hc12) ?_
              show pm_ev _ _ _ _ _ (39, [some (.ref g0), u1, some (.int x2), some (.int x3), some (.int x4)], [.int v10], _, _, _) _
              refine pe_blk mm_94 1 (s' := (41, [some (.ref g0), u1, some (.int x2), some (.int x3), some (.int x4)], [.int 43, .int v10], _, _, _)) rfl ?_
              by_cases q13 : v10 = 43
              · rw [if_pos q13] at h
                refine pe_blk mm_94 1 (s' := (if v10 = 43 then 44 else 46, [some (.ref g0), u1, some (.int x2), some (.int x3), some (.int x4)], [], _, _, _)) rfl ?_
                rw [if_pos q13]
                exact J94_44_ev sc n g0 hg0 (e1 + 1) he _ _ _ _ _ _ _ _ h
              · rw [if_neg q13] at h
                refine pe_blk mm_94 1 (s' := (if v10 = 43 then 44 else 46, [some (.ref g0), u1, some (.int x2), some (.int x3), some (.int x4)], [], _, _, _)) rfl ?_
                rw [if_neg q13]
                refine pe_blk mm_94 2 (s' := (48, [some (.ref g0), u1, some (.int x2), some (.int x3), some (.int x4)], [.int x3, .ref g0], _, _, _)) rfl ?_
                skip
                cases hc16 : F119 n g0 x3 M11 with
                | none => rw [hc16] at h; cases h
                | some w =>
                  obtain ⟨v14, M15⟩ := w
                  rw [hc16] at h
                  dsimp only at h
                  refine pe_virt (al := [.int x3]) (a := g0) (L0 := [some (.ref g0), some (.int x3)]) (r1 := (some (.int v14), 129, 17845, hp M15)) mm_94 rfl rfl rfl mm_119 (isD_0 hg0 _) (by have := isD_lt hg0; omega) (by decide) rfl (Nat.le_of_ble_eq_true rfl) (Nat.le_of_ble_eq_true rfl) rfl rfl (F119_ev sc n g0 x3 hg0 _ e1 (by omega) _ _ hc16) ?_
                  show pm_ev _ _ _ _ _ (51, [some (.ref g0), u1, some (.int x2), some (.int x3), some (.int x4)], [.int v14], _, _, _) _
                  refine pe_blk mm_94 3 (s' := (15, [some (.ref g0), u1, some (.int x2), some (.int v14), some (.int (x4 + 1))], [], _, _, _)) rfl ?_
                  exact hr15 x2 v14 (x4 + 1) _ _ _ _ h
/-- ArmExpander$Checker.canMatchNothing -/
def F94 (n : Nat) (g0 : Nat) (a1 : Int32) (M : Mem) : Option (Int32 × Mem) :=
  match F110 n g0 (a1 + 1) M with | some (v1, M2) => (L94_15 n g0 n v1 (a1 + 2) 0 M2) | none => none
set_option maxRecDepth 100000 in
set_option maxHeartbeats 4000000 in
theorem F94_ev (sc : Option (Nat × (Nat → Int32))) (n : Nat) (g0 : Nat) (a1 : Int32) (hg0 : isD g0) (M : Mem) (e : Nat) (he : 2 ≤ e) (r : Int32) (M' : Mem) (h : F94 n g0 a1 M = some (r, M')) : pm_ev pmT sc e 94 false (0, [some (.ref g0), some (.int a1), none, none, none], [], 129, 17845, hp M) (some (.int r), 129, 17845, hp M') := by
  unfold F94 at h
  refine pe_blk mm_94 4 (s' := (4, [some (.ref g0), some (.int a1), none, none, none], [.int (a1 + 1), .ref g0], _, _, _)) rfl ?_
  obtain ⟨e1, rfl⟩ : ∃ e1, e = e1 + 1 := ⟨e - 1, by omega⟩
  cases hc3 : F110 n g0 (a1 + 1) M with
  | none => rw [hc3] at h; cases h
  | some w =>
    obtain ⟨v1, M2⟩ := w
    rw [hc3] at h
    dsimp only at h
    refine pe_virt (al := [.int (a1 + 1)]) (a := g0) (L0 := [some (.ref g0), some (.int (a1 + 1))]) (r1 := (some (.int v1), 129, 17845, hp M2)) mm_94 rfl rfl rfl mm_110 (isD_0 hg0 _) (by have := isD_lt hg0; omega) (by decide) rfl (Nat.le_of_ble_eq_true rfl) (Nat.le_of_ble_eq_true rfl) rfl rfl (F110_ev sc n g0 (a1 + 1) hg0 _ e1 (by omega) _ _ hc3) ?_
    show pm_ev _ _ _ _ _ (7, [some (.ref g0), some (.int a1), none, none, none], [.int v1], _, _, _) _
    refine pe_blk mm_94 7 (s' := (15, [some (.ref g0), some (.int a1), some (.int v1), some (.int (a1 + 2)), some (.int 0)], [], _, _, _)) rfl ?_
    exact L94_15_ev sc n g0 hg0 (e1 + 1) he n v1 (a1 + 2) 0 _ _ _ _ h
