/-! The methods as functions over Mem; written by program. -/
def J168_26 (n : Nat) (b : Nat) (x2 : Int32) (M : Mem) : Option (Unit × Mem) :=
  if (M.1 b 2) < 0 ∨ 150 ≤ (M.1 b 2 : Int32).toNatClampNeg then none else (mlet (m_i M (b + 2) (M.1 b 2 : Int32).toNatClampNeg x2) (fun M5 => mlet (m_i M5 b 2 ((M5.1 b 2) + 1)) (fun M6 => some ((), M6))))
set_option maxRecDepth 100000 in
set_option maxHeartbeats 4000000 in
theorem J168_26_ev (sc : Option (Nat × (Nat → Int32))) (n : Nat) (b : Nat) (hb : isR b) (e : Nat) (he : 1 ≤ e) : ∀ (x2 : Int32) (u1 : Option Value) (M : Mem) (r : Unit) (M' : Mem), J168_26 n b x2 M = some (r, M') → pm_ev pmT sc e 168 false (26, [some (.ref b), u1, some (.int x2)], [], 129, 17845, hp M) (none, 129, 17845, hp M') := by
  intro x2 u1 M r M' h
  unfold J168_26 at h
  refine pe_blk mm_168 1 (s' := (27, [some (.ref b), u1, some (.int x2)], [.ref b], _, _, _)) rfl ?_
  refine pe_get mm_168 rfl rfl (isR_0 hb _) (by have := isR_lt hb; omega) rfl ?_
  refine pe_blk mm_168 1 (s' := (31, [some (.ref b), u1, some (.int x2)], [.ref b, .ref (b + 2)], _, _, _)) rfl ?_
  refine pe_get mm_168 rfl rfl (isR_0 hb _) (by have := isR_lt hb; omega) rfl ?_
  refine pe_blk mm_168 1 (s' := (35, [some (.ref b), u1, some (.int x2)], [.int x2, .int (M.1 b 2), .ref (b + 2)], _, _, _)) rfl ?_
  by_cases q4 : (M.1 b 2) < 0 ∨ 150 ≤ (M.1 b 2 : Int32).toNatClampNeg
  · rw [if_pos q4] at h
    cases h
  · rw [if_neg q4] at h
    refine pe_iasti mm_168 rfl (isR_2 hb _) (by have := isR_lt hb; omega) q4 ((isR_2 hb _).trans (by simp [m_i])) ?_
    show pm_ev _ _ _ _ _ (36, [some (.ref b), u1, some (.int x2)], [], _, _, hp (m_i M (b + 2) (M.1 b 2 : Int32).toNatClampNeg x2)) _
    generalize m_i M (b + 2) (M.1 b 2 : Int32).toNatClampNeg x2 = M5 at h ⊢
    rw [mlet] at h
    refine pe_blk mm_168 2 (s' := (38, [some (.ref b), u1, some (.int x2)], [.ref b, .ref b], _, _, _)) rfl ?_
    refine pe_get mm_168 rfl rfl (isR_0 hb _) (by have := isR_lt hb; omega) rfl ?_
    refine pe_blk mm_168 2 (s' := (43, [some (.ref b), u1, some (.int x2)], [.int ((M5.1 b 2) + 1), .ref b], _, _, _)) rfl ?_
    refine pe_puti mm_168 rfl rfl (isR_0 hb _) (by have := isR_lt hb; omega) (Nat.le_of_ble_eq_true rfl) rfl ((isR_0 hb _).trans (by simp [m_i, upd])) ?_
    show pm_ev _ _ _ _ _ (46, [some (.ref b), u1, some (.int x2)], [], _, _, hp (m_i M5 b 2 ((M5.1 b 2) + 1))) _
    generalize m_i M5 b 2 ((M5.1 b 2) + 1) = M6 at h ⊢
    rw [mlet] at h
    cases h
    exact pe_ret mm_168 rfl rfl
/-- ArmExpander$Row.add -/
def F168 (n : Nat) (b : Nat) (a0 : Int32) (a1 : Int32) (M : Mem) : Option (Unit × Mem) :=
  if (M.1 b 2) < 150 then (if (M.1 b 2) < 0 ∨ 150 ≤ (M.1 b 2 : Int32).toNatClampNeg then none else (mlet (m_i M (b + 1) (M.1 b 2 : Int32).toNatClampNeg a0) (fun M3 => J168_26 n b a1 M3))) else (mlet (m_i M b 3 1) (fun M7 => some ((), M7)))
set_option maxRecDepth 100000 in
set_option maxHeartbeats 4000000 in
theorem F168_ev (sc : Option (Nat × (Nat → Int32))) (n : Nat) (b : Nat) (a0 : Int32) (a1 : Int32) (hb : isR b) (M : Mem) (e : Nat) (he : 1 ≤ e) (r : Unit) (M' : Mem) (h : F168 n b a0 a1 M = some (r, M')) : pm_ev pmT sc e 168 false (0, [some (.ref b), some (.int a0), some (.int a1)], [], 129, 17845, hp M) (none, 129, 17845, hp M') := by
  unfold F168 at h
  refine pe_blk mm_168 1 (s' := (1, [some (.ref b), some (.int a0), some (.int a1)], [.ref b], _, _, _)) rfl ?_
  refine pe_get mm_168 rfl rfl (isR_0 hb _) (by have := isR_lt hb; omega) rfl ?_
  refine pe_blk mm_168 1 (s' := (7, [some (.ref b), some (.int a0), some (.int a1)], [.int 150, .int (M.1 b 2)], _, _, _)) rfl ?_
  by_cases q1 : (M.1 b 2) < 150
  · rw [if_pos q1] at h
    refine pe_blk mm_168 1 (s' := (if (M.1 b 2) < 150 then 16 else 10, [some (.ref b), some (.int a0), some (.int a1)], [], _, _, _)) rfl ?_
    rw [if_pos q1]
    refine pe_blk mm_168 1 (s' := (17, [some (.ref b), some (.int a0), some (.int a1)], [.ref b], _, _, _)) rfl ?_
    refine pe_get mm_168 rfl rfl (isR_0 hb _) (by have := isR_lt hb; omega) rfl ?_
    refine pe_blk mm_168 1 (s' := (21, [some (.ref b), some (.int a0), some (.int a1)], [.ref b, .ref (b + 1)], _, _, _)) rfl ?_
    refine pe_get mm_168 rfl rfl (isR_0 hb _) (by have := isR_lt hb; omega) rfl ?_
    refine pe_blk mm_168 1 (s' := (25, [some (.ref b), some (.int a0), some (.int a1)], [.int a0, .int (M.1 b 2), .ref (b + 1)], _, _, _)) rfl ?_
    by_cases q2 : (M.1 b 2) < 0 ∨ 150 ≤ (M.1 b 2 : Int32).toNatClampNeg
    · rw [if_pos q2] at h
      cases h
    · rw [if_neg q2] at h
      refine pe_iasti mm_168 rfl (isR_1 hb _) (by have := isR_lt hb; omega) q2 ((isR_1 hb _).trans (by simp [m_i])) ?_
      show pm_ev _ _ _ _ _ (26, [some (.ref b), some (.int a0), some (.int a1)], [], _, _, hp (m_i M (b + 1) (M.1 b 2 : Int32).toNatClampNeg a0)) _
      generalize m_i M (b + 1) (M.1 b 2 : Int32).toNatClampNeg a0 = M3 at h ⊢
      rw [mlet] at h
      exact J168_26_ev sc n b hb e he a1 _ _ _ _ h
  · rw [if_neg q1] at h
    refine pe_blk mm_168 1 (s' := (if (M.1 b 2) < 150 then 16 else 10, [some (.ref b), some (.int a0), some (.int a1)], [], _, _, _)) rfl ?_
    rw [if_neg q1]
    refine pe_blk mm_168 2 (s' := (12, [some (.ref b), some (.int a0), some (.int a1)], [.int 1, .ref b], _, _, _)) rfl ?_
    refine pe_puti mm_168 rfl rfl (isR_0 hb _) (by have := isR_lt hb; omega) (Nat.le_of_ble_eq_true rfl) rfl ((isR_0 hb _).trans (by simp [m_i, upd])) ?_
    show pm_ev _ _ _ _ _ (15, [some (.ref b), some (.int a0), some (.int a1)], [], _, _, hp (m_i M b 3 1)) _
    generalize m_i M b 3 1 = M7 at h ⊢
    rw [mlet] at h
    cases h
    exact pe_ret mm_168 rfl rfl
def J170_22 (n : Nat) (b : Nat) (s0 : Int32) (M : Mem) : Option (Int32 × Mem) :=
  some (s0, M)
set_option maxRecDepth 100000 in
set_option maxHeartbeats 4000000 in
theorem J170_22_ev (sc : Option (Nat × (Nat → Int32))) (n : Nat) (b : Nat) (hb : isR b) (e : Nat) (he : 1 ≤ e) : ∀ (s0 : Int32) (u0 : Option Value) (u1 : Option Value) (M : Mem) (r : Int32) (M' : Mem), J170_22 n b s0 M = some (r, M') → pm_ev pmT sc e 170 false (22, [u0, u1], [.int s0], 129, 17845, hp M) (some (.int r), 129, 17845, hp M') := by
  intro s0 u0 u1 M r M' h
  unfold J170_22 at h
  cases h
  exact pe_ret mm_170 rfl rfl
def J170_21 (n : Nat) (b : Nat) (M : Mem) : Option (Int32 × Mem) :=
  J170_22 n b (-1) M
set_option maxRecDepth 100000 in
set_option maxHeartbeats 4000000 in
theorem J170_21_ev (sc : Option (Nat × (Nat → Int32))) (n : Nat) (b : Nat) (hb : isR b) (e : Nat) (he : 1 ≤ e) : ∀ (u0 : Option Value) (u1 : Option Value) (M : Mem) (r : Int32) (M' : Mem), J170_21 n b  M = some (r, M') → pm_ev pmT sc e 170 false (21, [u0, u1], [], 129, 17845, hp M) (some (.int r), 129, 17845, hp M') := by
  intro u0 u1 M r M' h
  unfold J170_21 at h
  refine pe_blk mm_170 1 (s' := (22, [u0, u1], [.int (-1)], _, _, _)) rfl ?_
  exact J170_22_ev sc n b hb e he (-1) _ _ _ _ _ h
/-- ArmExpander$Row.codeAt -/
def F170 (n : Nat) (b : Nat) (a0 : Int32) (M : Mem) : Option (Int32 × Mem) :=
  if a0 < 0 then (J170_21 n b M) else (if (M.1 b 2) ≤ a0 then (J170_21 n b M) else (if a0 < 0 ∨ 150 ≤ (a0 : Int32).toNatClampNeg then none else (J170_22 n b (M.1 (b + 1) (a0 : Int32).toNatClampNeg) M)))
set_option maxRecDepth 100000 in
set_option maxHeartbeats 4000000 in
theorem F170_ev (sc : Option (Nat × (Nat → Int32))) (n : Nat) (b : Nat) (a0 : Int32) (hb : isR b) (M : Mem) (e : Nat) (he : 1 ≤ e) (r : Int32) (M' : Mem) (h : F170 n b a0 M = some (r, M')) : pm_ev pmT sc e 170 false (0, [some (.ref b), some (.int a0)], [], 129, 17845, hp M) (some (.int r), 129, 17845, hp M') := by
  unfold F170 at h
  refine pe_blk mm_170 1 (s' := (1, [some (.ref b), some (.int a0)], [.int a0], _, _, _)) rfl ?_
  by_cases q1 : a0 < 0
  · rw [if_pos q1] at h
    refine pe_blk mm_170 1 (s' := (if a0 < 0 then 21 else 4, [some (.ref b), some (.int a0)], [], _, _, _)) rfl ?_
    rw [if_pos q1]
    exact J170_21_ev sc n b hb e he _ _ _ _ _ h
  · rw [if_neg q1] at h
    refine pe_blk mm_170 1 (s' := (if a0 < 0 then 21 else 4, [some (.ref b), some (.int a0)], [], _, _, _)) rfl ?_
    rw [if_neg q1]
    refine pe_blk mm_170 2 (s' := (6, [some (.ref b), some (.int a0)], [.ref b, .int a0], _, _, _)) rfl ?_
    refine pe_get mm_170 rfl rfl (isR_0 hb _) (by have := isR_lt hb; omega) rfl ?_
    by_cases q2 : (M.1 b 2) ≤ a0
    · rw [if_pos q2] at h
      refine pe_blk mm_170 1 (s' := (if (M.1 b 2) ≤ a0 then 21 else 12, [some (.ref b), some (.int a0)], [], _, _, _)) rfl ?_
      rw [if_pos q2]
      exact J170_21_ev sc n b hb e he _ _ _ _ _ h
    · rw [if_neg q2] at h
      refine pe_blk mm_170 1 (s' := (if (M.1 b 2) ≤ a0 then 21 else 12, [some (.ref b), some (.int a0)], [], _, _, _)) rfl ?_
      rw [if_neg q2]
      refine pe_blk mm_170 1 (s' := (13, [some (.ref b), some (.int a0)], [.ref b], _, _, _)) rfl ?_
      refine pe_get mm_170 rfl rfl (isR_0 hb _) (by have := isR_lt hb; omega) rfl ?_
      refine pe_blk mm_170 1 (s' := (17, [some (.ref b), some (.int a0)], [.int a0, .ref (b + 1)], _, _, _)) rfl ?_
      by_cases q3 : a0 < 0 ∨ 150 ≤ (a0 : Int32).toNatClampNeg
      · rw [if_pos q3] at h
        cases h
      · rw [if_neg q3] at h
        refine pe_iald (f := M.1 (b + 1)) mm_170 rfl (isR_1 hb _) (by have := isR_lt hb; omega) q3 ?_
        refine pe_blk mm_170 1 (s' := (22, [some (.ref b), some (.int a0)], [.int (M.1 (b + 1) (a0 : Int32).toNatClampNeg)], _, _, _)) rfl ?_
        exact J170_22_ev sc n b hb e he (M.1 (b + 1) (a0 : Int32).toNatClampNeg) _ _ _ _ _ h
def J171_22 (n : Nat) (b : Nat) (s0 : Int32) (M : Mem) : Option (Int32 × Mem) :=
  some (s0, M)
set_option maxRecDepth 100000 in
set_option maxHeartbeats 4000000 in
theorem J171_22_ev (sc : Option (Nat × (Nat → Int32))) (n : Nat) (b : Nat) (hb : isR b) (e : Nat) (he : 1 ≤ e) : ∀ (s0 : Int32) (u0 : Option Value) (u1 : Option Value) (M : Mem) (r : Int32) (M' : Mem), J171_22 n b s0 M = some (r, M') → pm_ev pmT sc e 171 false (22, [u0, u1], [.int s0], 129, 17845, hp M) (some (.int r), 129, 17845, hp M') := by
  intro s0 u0 u1 M r M' h
  unfold J171_22 at h
  cases h
  exact pe_ret mm_171 rfl rfl
def J171_21 (n : Nat) (b : Nat) (M : Mem) : Option (Int32 × Mem) :=
  J171_22 n b (-1) M
set_option maxRecDepth 100000 in
set_option maxHeartbeats 4000000 in
theorem J171_21_ev (sc : Option (Nat × (Nat → Int32))) (n : Nat) (b : Nat) (hb : isR b) (e : Nat) (he : 1 ≤ e) : ∀ (u0 : Option Value) (u1 : Option Value) (M : Mem) (r : Int32) (M' : Mem), J171_21 n b  M = some (r, M') → pm_ev pmT sc e 171 false (21, [u0, u1], [], 129, 17845, hp M) (some (.int r), 129, 17845, hp M') := by
  intro u0 u1 M r M' h
  unfold J171_21 at h
  refine pe_blk mm_171 1 (s' := (22, [u0, u1], [.int (-1)], _, _, _)) rfl ?_
  exact J171_22_ev sc n b hb e he (-1) _ _ _ _ _ h
/-- ArmExpander$Row.originAt -/
def F171 (n : Nat) (b : Nat) (a0 : Int32) (M : Mem) : Option (Int32 × Mem) :=
  if a0 < 0 then (J171_21 n b M) else (if (M.1 b 2) ≤ a0 then (J171_21 n b M) else (if a0 < 0 ∨ 150 ≤ (a0 : Int32).toNatClampNeg then none else (J171_22 n b (M.1 (b + 2) (a0 : Int32).toNatClampNeg) M)))
set_option maxRecDepth 100000 in
set_option maxHeartbeats 4000000 in
theorem F171_ev (sc : Option (Nat × (Nat → Int32))) (n : Nat) (b : Nat) (a0 : Int32) (hb : isR b) (M : Mem) (e : Nat) (he : 1 ≤ e) (r : Int32) (M' : Mem) (h : F171 n b a0 M = some (r, M')) : pm_ev pmT sc e 171 false (0, [some (.ref b), some (.int a0)], [], 129, 17845, hp M) (some (.int r), 129, 17845, hp M') := by
  unfold F171 at h
  refine pe_blk mm_171 1 (s' := (1, [some (.ref b), some (.int a0)], [.int a0], _, _, _)) rfl ?_
  by_cases q1 : a0 < 0
  · rw [if_pos q1] at h
    refine pe_blk mm_171 1 (s' := (if a0 < 0 then 21 else 4, [some (.ref b), some (.int a0)], [], _, _, _)) rfl ?_
    rw [if_pos q1]
    exact J171_21_ev sc n b hb e he _ _ _ _ _ h
  · rw [if_neg q1] at h
    refine pe_blk mm_171 1 (s' := (if a0 < 0 then 21 else 4, [some (.ref b), some (.int a0)], [], _, _, _)) rfl ?_
    rw [if_neg q1]
    refine pe_blk mm_171 2 (s' := (6, [some (.ref b), some (.int a0)], [.ref b, .int a0], _, _, _)) rfl ?_
    refine pe_get mm_171 rfl rfl (isR_0 hb _) (by have := isR_lt hb; omega) rfl ?_
    by_cases q2 : (M.1 b 2) ≤ a0
    · rw [if_pos q2] at h
      refine pe_blk mm_171 1 (s' := (if (M.1 b 2) ≤ a0 then 21 else 12, [some (.ref b), some (.int a0)], [], _, _, _)) rfl ?_
      rw [if_pos q2]
      exact J171_21_ev sc n b hb e he _ _ _ _ _ h
    · rw [if_neg q2] at h
      refine pe_blk mm_171 1 (s' := (if (M.1 b 2) ≤ a0 then 21 else 12, [some (.ref b), some (.int a0)], [], _, _, _)) rfl ?_
      rw [if_neg q2]
      refine pe_blk mm_171 1 (s' := (13, [some (.ref b), some (.int a0)], [.ref b], _, _, _)) rfl ?_
      refine pe_get mm_171 rfl rfl (isR_0 hb _) (by have := isR_lt hb; omega) rfl ?_
      refine pe_blk mm_171 1 (s' := (17, [some (.ref b), some (.int a0)], [.int a0, .ref (b + 2)], _, _, _)) rfl ?_
      by_cases q3 : a0 < 0 ∨ 150 ≤ (a0 : Int32).toNatClampNeg
      · rw [if_pos q3] at h
        cases h
      · rw [if_neg q3] at h
        refine pe_iald (f := M.1 (b + 2)) mm_171 rfl (isR_2 hb _) (by have := isR_lt hb; omega) q3 ?_
        refine pe_blk mm_171 1 (s' := (22, [some (.ref b), some (.int a0)], [.int (M.1 (b + 2) (a0 : Int32).toNatClampNeg)], _, _, _)) rfl ?_
        exact J171_22_ev sc n b hb e he (M.1 (b + 2) (a0 : Int32).toNatClampNeg) _ _ _ _ _ h
def J172_55 (n : Nat) (b : Nat) (rec8 : Int32 → Int32 → Mem → Option (Int32 × Mem)) (x2 : Int32) (x3 : Int32) (M : Mem) : Option (Int32 × Mem) :=
  rec8 x2 (x3 + 1) M
set_option maxRecDepth 100000 in
set_option maxHeartbeats 4000000 in
theorem J172_55_ev (sc : Option (Nat × (Nat → Int32))) (n : Nat) (b : Nat) (hb : isR b) (e : Nat) (he : 2 ≤ e) (rec8 : Int32 → Int32 → Mem → Option (Int32 × Mem)) (hr8 : ∀ (x2 : Int32) (x3 : Int32) (u1 : Option Value) (M : Mem) (r : Int32) (M' : Mem), rec8 x2 x3 M = some (r, M') → pm_ev pmT sc e 172 false (8, [some (.ref b), u1, some (.int x2), some (.int x3)], [], 129, 17845, hp M) (some (.int r), 129, 17845, hp M')) : ∀ (x2 : Int32) (x3 : Int32) (u1 : Option Value) (M : Mem) (r : Int32) (M' : Mem), J172_55 n b rec8 x2 x3 M = some (r, M') → pm_ev pmT sc e 172 false (55, [some (.ref b), u1, some (.int x2), some (.int x3)], [], 129, 17845, hp M) (some (.int r), 129, 17845, hp M') := by
  intro x2 x3 u1 M r M' h
  unfold J172_55 at h
  refine pe_blk mm_172 2 (s' := (8, [some (.ref b), u1, some (.int x2), some (.int (x3 + 1))], [], _, _, _)) rfl ?_
  exact hr8 x2 (x3 + 1) _ _ _ _ h
def J172_53 (n : Nat) (b : Nat) (x3 : Int32) (M : Mem) : Option (Int32 × Mem) :=
  some (x3, M)
set_option maxRecDepth 100000 in
set_option maxHeartbeats 4000000 in
theorem J172_53_ev (sc : Option (Nat × (Nat → Int32))) (n : Nat) (b : Nat) (hb : isR b) (e : Nat) (he : 2 ≤ e) : ∀ (x3 : Int32) (u0 : Option Value) (u1 : Option Value) (u2 : Option Value) (M : Mem) (r : Int32) (M' : Mem), J172_53 n b x3 M = some (r, M') → pm_ev pmT sc e 172 false (53, [u0, u1, u2, some (.int x3)], [], 129, 17845, hp M) (some (.int r), 129, 17845, hp M') := by
  intro x3 u0 u1 u2 M r M' h
  unfold J172_53 at h
  refine pe_blk mm_172 1 (s' := (54, [u0, u1, u2, some (.int x3)], [.int x3], _, _, _)) rfl ?_
  cases h
  exact pe_ret mm_172 rfl rfl
def J172_34 (n : Nat) (b : Nat) (rec8 : Int32 → Int32 → Mem → Option (Int32 × Mem)) (x2 : Int32) (x3 : Int32) (M : Mem) : Option (Int32 × Mem) :=
  if x3 < 0 ∨ 150 ≤ (x3 : Int32).toNatClampNeg then none else (match F14 n (M.1 (b + 1) (x3 : Int32).toNatClampNeg) M with | some (v8, M9) => (if v8 = 0 then (J172_55 n b rec8 x2 x3 M9) else (if (x2 + (-1)) = 0 then (J172_53 n b x3 M9) else (J172_55 n b rec8 (x2 + (-1)) x3 M9))) | none => none)
set_option maxRecDepth 100000 in
set_option maxHeartbeats 4000000 in
theorem J172_34_ev (sc : Option (Nat × (Nat → Int32))) (n : Nat) (b : Nat) (hb : isR b) (e : Nat) (he : 2 ≤ e) (rec8 : Int32 → Int32 → Mem → Option (Int32 × Mem)) (hr8 : ∀ (x2 : Int32) (x3 : Int32) (u1 : Option Value) (M : Mem) (r : Int32) (M' : Mem), rec8 x2 x3 M = some (r, M') → pm_ev pmT sc e 172 false (8, [some (.ref b), u1, some (.int x2), some (.int x3)], [], 129, 17845, hp M) (some (.int r), 129, 17845, hp M')) : ∀ (x2 : Int32) (x3 : Int32) (u1 : Option Value) (M : Mem) (r : Int32) (M' : Mem), J172_34 n b rec8 x2 x3 M = some (r, M') → pm_ev pmT sc e 172 false (34, [some (.ref b), u1, some (.int x2), some (.int x3)], [], 129, 17845, hp M) (some (.int r), 129, 17845, hp M') := by
  intro x2 x3 u1 M r M' h
  unfold J172_34 at h
  refine pe_blk mm_172 1 (s' := (35, [some (.ref b), u1, some (.int x2), some (.int x3)], [.ref b], _, _, _)) rfl ?_
  refine pe_get mm_172 rfl rfl (isR_0 hb _) (by have := isR_lt hb; omega) rfl ?_
  refine pe_blk mm_172 1 (s' := (39, [some (.ref b), u1, some (.int x2), some (.int x3)], [.int x3, .ref (b + 1)], _, _, _)) rfl ?_
  by_cases q7 : x3 < 0 ∨ 150 ≤ (x3 : Int32).toNatClampNeg
  · rw [if_pos q7] at h
    cases h
  · rw [if_neg q7] at h
    refine pe_iald (f := M.1 (b + 1)) mm_172 rfl (isR_1 hb _) (by have := isR_lt hb; omega) q7 ?_
    obtain ⟨e1, rfl⟩ : ∃ e1, e = e1 + 1 := ⟨e - 1, by omega⟩
    cases hc10 : F14 n (M.1 (b + 1) (x3 : Int32).toNatClampNeg) M with
    | none => rw [hc10] at h; cases h
    | some w =>
      obtain ⟨v8, M9⟩ := w
      rw [hc10] at h
      dsimp only at h
      refine pe_stat (al := [.int (M.1 (b + 1) (x3 : Int32).toNatClampNeg)]) (L0 := [some (.int (M.1 (b + 1) (x3 : Int32).toNatClampNeg))]) (r1 := (some (.int v8), 129, 17845, hp M9)) mm_172 rfl rfl rfl mm_14 rfl (Nat.le_of_ble_eq_true rfl) (Nat.le_of_ble_eq_true rfl) rfl rfl (F14_ev sc n (M.1 (b + 1) (x3 : Int32).toNatClampNeg) _ e1 (by omega) _ _ hc10) ?_
      show pm_ev _ _ _ _ _ (43, [some (.ref b), u1, some (.int x2), some (.int x3)], [.int v8], _, _, _) _
      by_cases q11 : v8 = 0
      · rw [if_pos q11] at h
        refine pe_blk mm_172 1 (s' := (if v8 = 0 then 55 else 46, [some (.ref b), u1, some (.int x2), some (.int x3)], [], _, _, _)) rfl ?_
        rw [if_pos q11]
        exact J172_55_ev sc n b hb (e1 + 1) he rec8 hr8 x2 x3 _ _ _ _ h
      · rw [if_neg q11] at h
        refine pe_blk mm_172 1 (s' := (if v8 = 0 then 55 else 46, [some (.ref b), u1, some (.int x2), some (.int x3)], [], _, _, _)) rfl ?_
        rw [if_neg q11]
        refine pe_blk mm_172 2 (s' := (50, [some (.ref b), u1, some (.int (x2 + (-1))), some (.int x3)], [.int (x2 + (-1))], _, _, _)) rfl ?_
        by_cases q12 : (x2 + (-1)) = 0
        · rw [if_pos q12] at h
          refine pe_blk mm_172 1 (s' := (if (x2 + (-1)) = 0 then 53 else 55, [some (.ref b), u1, some (.int (x2 + (-1))), some (.int x3)], [], _, _, _)) rfl ?_
          rw [if_pos q12]
          exact J172_53_ev sc n b hb (e1 + 1) he x3 _ _ _ _ _ _ h
        · rw [if_neg q12] at h
          refine pe_blk mm_172 1 (s' := (if (x2 + (-1)) = 0 then 53 else 55, [some (.ref b), u1, some (.int (x2 + (-1))), some (.int x3)], [], _, _, _)) rfl ?_
          rw [if_neg q12]
          exact J172_55_ev sc n b hb (e1 + 1) he rec8 hr8 (x2 + (-1)) x3 _ _ _ _ h
def J172_28 (n : Nat) (b : Nat) (rec8 : Int32 → Int32 → Mem → Option (Int32 × Mem)) (x2 : Int32) (x3 : Int32) (M : Mem) : Option (Int32 × Mem) :=
  J172_55 n b rec8 (x2 + 1) x3 M
set_option maxRecDepth 100000 in
set_option maxHeartbeats 4000000 in
theorem J172_28_ev (sc : Option (Nat × (Nat → Int32))) (n : Nat) (b : Nat) (hb : isR b) (e : Nat) (he : 2 ≤ e) (rec8 : Int32 → Int32 → Mem → Option (Int32 × Mem)) (hr8 : ∀ (x2 : Int32) (x3 : Int32) (u1 : Option Value) (M : Mem) (r : Int32) (M' : Mem), rec8 x2 x3 M = some (r, M') → pm_ev pmT sc e 172 false (8, [some (.ref b), u1, some (.int x2), some (.int x3)], [], 129, 17845, hp M) (some (.int r), 129, 17845, hp M')) : ∀ (x2 : Int32) (x3 : Int32) (u1 : Option Value) (M : Mem) (r : Int32) (M' : Mem), J172_28 n b rec8 x2 x3 M = some (r, M') → pm_ev pmT sc e 172 false (28, [some (.ref b), u1, some (.int x2), some (.int x3)], [], 129, 17845, hp M) (some (.int r), 129, 17845, hp M') := by
  intro x2 x3 u1 M r M' h
  unfold J172_28 at h
  refine pe_blk mm_172 2 (s' := (55, [some (.ref b), u1, some (.int (x2 + 1)), some (.int x3)], [], _, _, _)) rfl ?_
  exact J172_55_ev sc n b hb e he rec8 hr8 (x2 + 1) x3 _ _ _ _ h
def L172_8 (n : Nat) (b : Nat) : Nat → Int32 → Int32 → Mem → Option (Int32 × Mem)
  | 0, _, _, _ => none
  | k + 1, x2, x3, M => if (M.1 b 2) ≤ x3 then (some (M.1 b 2, M)) else (if x3 < 0 ∨ 150 ≤ (x3 : Int32).toNatClampNeg then none else (match F13 n (M.1 (b + 1) (x3 : Int32).toNatClampNeg) M with | some (v3, M4) => (if v3 = 0 then (J172_34 n b (L172_8 n b k) x2 x3 M4) else (J172_28 n b (L172_8 n b k) x2 x3 M4)) | none => none))
set_option maxRecDepth 100000 in
set_option maxHeartbeats 4000000 in
theorem L172_8_ev (sc : Option (Nat × (Nat → Int32))) (n : Nat) (b : Nat) (hb : isR b) (e : Nat) (he : 2 ≤ e) : ∀ k : Nat, ∀ (x2 : Int32) (x3 : Int32) (u1 : Option Value) (M : Mem) (r : Int32) (M' : Mem), L172_8 n b k x2 x3 M = some (r, M') → pm_ev pmT sc e 172 false (8, [some (.ref b), u1, some (.int x2), some (.int x3)], [], 129, 17845, hp M) (some (.int r), 129, 17845, hp M') := by
  intro k
  induction k with
  | zero => intro x2 x3 u1 M r M' h; cases h
  | succ k hr8 =>
    intro x2 x3 u1 M r M' h
    rw [L172_8] at h
    refine pe_blk mm_172 2 (s' := (10, [some (.ref b), u1, some (.int x2), some (.int x3)], [.ref b, .int x3], _, _, _)) rfl ?_
    refine pe_get mm_172 rfl rfl (isR_0 hb _) (by have := isR_lt hb; omega) rfl ?_
    by_cases q1 : (M.1 b 2) ≤ x3
    · rw [if_pos q1] at h
      refine pe_blk mm_172 1 (s' := (if (M.1 b 2) ≤ x3 then 61 else 16, [some (.ref b), u1, some (.int x2), some (.int x3)], [], _, _, _)) rfl ?_
      rw [if_pos q1]
      refine pe_blk mm_172 1 (s' := (62, [some (.ref b), u1, some (.int x2), some (.int x3)], [.ref b], _, _, _)) rfl ?_
      refine pe_get mm_172 rfl rfl (isR_0 hb _) (by have := isR_lt hb; omega) rfl ?_
      cases h
      exact pe_ret mm_172 rfl rfl
    · rw [if_neg q1] at h
      refine pe_blk mm_172 1 (s' := (if (M.1 b 2) ≤ x3 then 61 else 16, [some (.ref b), u1, some (.int x2), some (.int x3)], [], _, _, _)) rfl ?_
      rw [if_neg q1]
      refine pe_blk mm_172 1 (s' := (17, [some (.ref b), u1, some (.int x2), some (.int x3)], [.ref b], _, _, _)) rfl ?_
      refine pe_get mm_172 rfl rfl (isR_0 hb _) (by have := isR_lt hb; omega) rfl ?_
      refine pe_blk mm_172 1 (s' := (21, [some (.ref b), u1, some (.int x2), some (.int x3)], [.int x3, .ref (b + 1)], _, _, _)) rfl ?_
      by_cases q2 : x3 < 0 ∨ 150 ≤ (x3 : Int32).toNatClampNeg
      · rw [if_pos q2] at h
        cases h
      · rw [if_neg q2] at h
        refine pe_iald (f := M.1 (b + 1)) mm_172 rfl (isR_1 hb _) (by have := isR_lt hb; omega) q2 ?_
        obtain ⟨e1, rfl⟩ : ∃ e1, e = e1 + 1 := ⟨e - 1, by omega⟩
        cases hc5 : F13 n (M.1 (b + 1) (x3 : Int32).toNatClampNeg) M with
        | none => rw [hc5] at h; cases h
        | some w =>
          obtain ⟨v3, M4⟩ := w
          rw [hc5] at h
          dsimp only at h
          refine pe_stat (al := [.int (M.1 (b + 1) (x3 : Int32).toNatClampNeg)]) (L0 := [some (.int (M.1 (b + 1) (x3 : Int32).toNatClampNeg))]) (r1 := (some (.int v3), 129, 17845, hp M4)) mm_172 rfl rfl rfl mm_13 rfl (Nat.le_of_ble_eq_true rfl) (Nat.le_of_ble_eq_true rfl) rfl rfl (F13_ev sc n (M.1 (b + 1) (x3 : Int32).toNatClampNeg) _ e1 (by omega) _ _ hc5) ?_
          show pm_ev _ _ _ _ _ (25, [some (.ref b), u1, some (.int x2), some (.int x3)], [.int v3], _, _, _) _
          by_cases q6 : v3 = 0
          · rw [if_pos q6] at h
            refine pe_blk mm_172 1 (s' := (if v3 = 0 then 34 else 28, [some (.ref b), u1, some (.int x2), some (.int x3)], [], _, _, _)) rfl ?_
            rw [if_pos q6]
            exact J172_34_ev sc n b hb (e1 + 1) he (L172_8 n b k) hr8 x2 x3 _ _ _ _ h
          · rw [if_neg q6] at h
            refine pe_blk mm_172 1 (s' := (if v3 = 0 then 34 else 28, [some (.ref b), u1, some (.int x2), some (.int x3)], [], _, _, _)) rfl ?_
            rw [if_neg q6]
            exact J172_28_ev sc n b hb (e1 + 1) he (L172_8 n b k) hr8 x2 x3 _ _ _ _ h
/-- ArmExpander$Row.closingOfBracketAt -/
def F172 (n : Nat) (b : Nat) (a0 : Int32) (M : Mem) : Option (Int32 × Mem) :=
  L172_8 n b n 0 (if 0 < a0 then a0 else 0) M
set_option maxRecDepth 100000 in
set_option maxHeartbeats 4000000 in
theorem F172_ev (sc : Option (Nat × (Nat → Int32))) (n : Nat) (b : Nat) (a0 : Int32) (hb : isR b) (M : Mem) (e : Nat) (he : 2 ≤ e) (r : Int32) (M' : Mem) (h : F172 n b a0 M = some (r, M')) : pm_ev pmT sc e 172 false (0, [some (.ref b), some (.int a0), none, none], [], 129, 17845, hp M) (some (.int r), 129, 17845, hp M') := by
  unfold F172 at h
  refine pe_blk mm_172 4 (s' := (4, [some (.ref b), some (.int a0), some (.int 0), none], [.int a0, .int 0], _, _, _)) rfl ?_
  refine pe_max mm_172 rfl rfl (by omega) (Nat.le_of_ble_eq_true rfl) ?_
  show pm_ev _ _ _ _ _ (7, [some (.ref b), some (.int a0), some (.int 0), none], [.int (if 0 < a0 then a0 else 0)], _, _, _) _
  refine pe_blk mm_172 1 (s' := (8, [some (.ref b), some (.int a0), some (.int 0), some (.int (if 0 < a0 then a0 else 0))], [], _, _, _)) rfl ?_
  exact L172_8_ev sc n b hb e he n 0 (if 0 < a0 then a0 else 0) _ _ _ _ h
def J173_57 (n : Nat) (b : Nat) (rec6 : Int32 → Mem → Option (Int32 × Mem)) (x2 : Int32) (M : Mem) : Option (Int32 × Mem) :=
  rec6 (x2 + 1) M
set_option maxRecDepth 100000 in
set_option maxHeartbeats 4000000 in
theorem J173_57_ev (sc : Option (Nat × (Nat → Int32))) (n : Nat) (b : Nat) (hb : isR b) (e : Nat) (he : 2 ≤ e) (rec6 : Int32 → Mem → Option (Int32 × Mem)) (hr6 : ∀ (x2 : Int32) (u1 : Option Value) (M : Mem) (r : Int32) (M' : Mem), rec6 x2 M = some (r, M') → pm_ev pmT sc e 173 false (6, [some (.ref b), u1, some (.int x2)], [], 129, 17845, hp M) (some (.int r), 129, 17845, hp M')) : ∀ (x2 : Int32) (u1 : Option Value) (M : Mem) (r : Int32) (M' : Mem), J173_57 n b rec6 x2 M = some (r, M') → pm_ev pmT sc e 173 false (57, [some (.ref b), u1, some (.int x2)], [], 129, 17845, hp M) (some (.int r), 129, 17845, hp M') := by
  intro x2 u1 M r M' h
  unfold J173_57 at h
  refine pe_blk mm_173 2 (s' := (6, [some (.ref b), u1, some (.int (x2 + 1))], [], _, _, _)) rfl ?_
  exact hr6 (x2 + 1) _ _ _ _ h
def J173_55 (n : Nat) (b : Nat) (x2 : Int32) (M : Mem) : Option (Int32 × Mem) :=
  some (x2, M)
set_option maxRecDepth 100000 in
set_option maxHeartbeats 4000000 in
theorem J173_55_ev (sc : Option (Nat × (Nat → Int32))) (n : Nat) (b : Nat) (hb : isR b) (e : Nat) (he : 2 ≤ e) : ∀ (x2 : Int32) (u0 : Option Value) (u1 : Option Value) (M : Mem) (r : Int32) (M' : Mem), J173_55 n b x2 M = some (r, M') → pm_ev pmT sc e 173 false (55, [u0, u1, some (.int x2)], [], 129, 17845, hp M) (some (.int r), 129, 17845, hp M') := by
  intro x2 u0 u1 M r M' h
  unfold J173_55 at h
  refine pe_blk mm_173 1 (s' := (56, [u0, u1, some (.int x2)], [.int x2], _, _, _)) rfl ?_
  cases h
  exact pe_ret mm_173 rfl rfl
def J173_28 (n : Nat) (b : Nat) (rec6 : Int32 → Mem → Option (Int32 × Mem)) (x2 : Int32) (M : Mem) : Option (Int32 × Mem) :=
  if (x2 + 1) < 0 ∨ 150 ≤ (x2 + 1 : Int32).toNatClampNeg then none else (if (M.1 (b + 1) (x2 + 1 : Int32).toNatClampNeg) = 33 then (if (x2 + 2) < 0 ∨ 150 ≤ (x2 + 2 : Int32).toNatClampNeg then none else (match F13 n (M.1 (b + 1) (x2 + 2 : Int32).toNatClampNeg) M with | some (v10, M11) => (if v10 = 0 then (J173_57 n b rec6 x2 M11) else (J173_55 n b x2 M11)) | none => none)) else (J173_57 n b rec6 x2 M))
set_option maxRecDepth 100000 in
set_option maxHeartbeats 4000000 in
theorem J173_28_ev (sc : Option (Nat × (Nat → Int32))) (n : Nat) (b : Nat) (hb : isR b) (e : Nat) (he : 2 ≤ e) (rec6 : Int32 → Mem → Option (Int32 × Mem)) (hr6 : ∀ (x2 : Int32) (u1 : Option Value) (M : Mem) (r : Int32) (M' : Mem), rec6 x2 M = some (r, M') → pm_ev pmT sc e 173 false (6, [some (.ref b), u1, some (.int x2)], [], 129, 17845, hp M) (some (.int r), 129, 17845, hp M')) : ∀ (x2 : Int32) (u1 : Option Value) (M : Mem) (r : Int32) (M' : Mem), J173_28 n b rec6 x2 M = some (r, M') → pm_ev pmT sc e 173 false (28, [some (.ref b), u1, some (.int x2)], [], 129, 17845, hp M) (some (.int r), 129, 17845, hp M') := by
  intro x2 u1 M r M' h
  unfold J173_28 at h
  refine pe_blk mm_173 1 (s' := (29, [some (.ref b), u1, some (.int x2)], [.ref b], _, _, _)) rfl ?_
  refine pe_get mm_173 rfl rfl (isR_0 hb _) (by have := isR_lt hb; omega) rfl ?_
  refine pe_blk mm_173 3 (s' := (35, [some (.ref b), u1, some (.int x2)], [.int (x2 + 1), .ref (b + 1)], _, _, _)) rfl ?_
  by_cases q7 : (x2 + 1) < 0 ∨ 150 ≤ (x2 + 1 : Int32).toNatClampNeg
  · rw [if_pos q7] at h
    cases h
  · rw [if_neg q7] at h
    refine pe_iald (f := M.1 (b + 1)) mm_173 rfl (isR_1 hb _) (by have := isR_lt hb; omega) q7 ?_
    refine pe_blk mm_173 1 (s' := (38, [some (.ref b), u1, some (.int x2)], [.int 33, .int (M.1 (b + 1) (x2 + 1 : Int32).toNatClampNeg)], _, _, _)) rfl ?_
    by_cases q8 : (M.1 (b + 1) (x2 + 1 : Int32).toNatClampNeg) = 33
    · rw [if_pos q8] at h
      refine pe_blk mm_173 1 (s' := (if (M.1 (b + 1) (x2 + 1 : Int32).toNatClampNeg) = 33 then 41 else 57, [some (.ref b), u1, some (.int x2)], [], _, _, _)) rfl ?_
      rw [if_pos q8]
      refine pe_blk mm_173 1 (s' := (42, [some (.ref b), u1, some (.int x2)], [.ref b], _, _, _)) rfl ?_
      refine pe_get mm_173 rfl rfl (isR_0 hb _) (by have := isR_lt hb; omega) rfl ?_
      refine pe_blk mm_173 3 (s' := (48, [some (.ref b), u1, some (.int x2)], [.int (x2 + 2), .ref (b + 1)], _, _, _)) rfl ?_
      by_cases q9 : (x2 + 2) < 0 ∨ 150 ≤ (x2 + 2 : Int32).toNatClampNeg
      · rw [if_pos q9] at h
        cases h
      · rw [if_neg q9] at h
        refine pe_iald (f := M.1 (b + 1)) mm_173 rfl (isR_1 hb _) (by have := isR_lt hb; omega) q9 ?_
        obtain ⟨e1, rfl⟩ : ∃ e1, e = e1 + 1 := ⟨e - 1, by omega⟩
        cases hc12 : F13 n (M.1 (b + 1) (x2 + 2 : Int32).toNatClampNeg) M with
        | none => rw [hc12] at h; cases h
        | some w =>
          obtain ⟨v10, M11⟩ := w
          rw [hc12] at h
          dsimp only at h
          refine pe_stat (al := [.int (M.1 (b + 1) (x2 + 2 : Int32).toNatClampNeg)]) (L0 := [some (.int (M.1 (b + 1) (x2 + 2 : Int32).toNatClampNeg))]) (r1 := (some (.int v10), 129, 17845, hp M11)) mm_173 rfl rfl rfl mm_13 rfl (Nat.le_of_ble_eq_true rfl) (Nat.le_of_ble_eq_true rfl) rfl rfl (F13_ev sc n (M.1 (b + 1) (x2 + 2 : Int32).toNatClampNeg) _ e1 (by omega) _ _ hc12) ?_
          show pm_ev _ _ _ _ _ (52, [some (.ref b), u1, some (.int x2)], [.int v10], _, _, _) _
          by_cases q13 : v10 = 0
          · rw [if_pos q13] at h
            refine pe_blk mm_173 1 (s' := (if v10 = 0 then 57 else 55, [some (.ref b), u1, some (.int x2)], [], _, _, _)) rfl ?_
            rw [if_pos q13]
            exact J173_57_ev sc n b hb (e1 + 1) he rec6 hr6 x2 _ _ _ _ h
          · rw [if_neg q13] at h
            refine pe_blk mm_173 1 (s' := (if v10 = 0 then 57 else 55, [some (.ref b), u1, some (.int x2)], [], _, _, _)) rfl ?_
            rw [if_neg q13]
            exact J173_55_ev sc n b hb (e1 + 1) he x2 _ _ _ _ _ h
    · rw [if_neg q8] at h
      refine pe_blk mm_173 1 (s' := (if (M.1 (b + 1) (x2 + 1 : Int32).toNatClampNeg) = 33 then 41 else 57, [some (.ref b), u1, some (.int x2)], [], _, _, _)) rfl ?_
      rw [if_neg q8]
      exact J173_57_ev sc n b hb e he rec6 hr6 x2 _ _ _ _ h
def L173_6 (n : Nat) (b : Nat) : Nat → Int32 → Mem → Option (Int32 × Mem)
  | 0, _, _ => none
  | k + 1, x2, M => if (M.1 b 2) ≤ (x2 + 2) then (some ((-1), M)) else (if x2 < 0 ∨ 150 ≤ (x2 : Int32).toNatClampNeg then none else (match F11 n (M.1 (b + 1) (x2 : Int32).toNatClampNeg) M with | some (v3, M4) => (if v3 = 0 then (J173_57 n b (L173_6 n b k) x2 M4) else (J173_28 n b (L173_6 n b k) x2 M4)) | none => none))
set_option maxRecDepth 100000 in
set_option maxHeartbeats 4000000 in
theorem L173_6_ev (sc : Option (Nat × (Nat → Int32))) (n : Nat) (b : Nat) (hb : isR b) (e : Nat) (he : 2 ≤ e) : ∀ k : Nat, ∀ (x2 : Int32) (u1 : Option Value) (M : Mem) (r : Int32) (M' : Mem), L173_6 n b k x2 M = some (r, M') → pm_ev pmT sc e 173 false (6, [some (.ref b), u1, some (.int x2)], [], 129, 17845, hp M) (some (.int r), 129, 17845, hp M') := by
  intro k
  induction k with
  | zero => intro x2 u1 M r M' h; cases h
  | succ k hr6 =>
    intro x2 u1 M r M' h
    rw [L173_6] at h
    refine pe_blk mm_173 4 (s' := (10, [some (.ref b), u1, some (.int x2)], [.ref b, .int (x2 + 2)], _, _, _)) rfl ?_
    refine pe_get mm_173 rfl rfl (isR_0 hb _) (by have := isR_lt hb; omega) rfl ?_
    by_cases q1 : (M.1 b 2) ≤ (x2 + 2)
    · rw [if_pos q1] at h
      refine pe_blk mm_173 1 (s' := (if (M.1 b 2) ≤ (x2 + 2) then 63 else 16, [some (.ref b), u1, some (.int x2)], [], _, _, _)) rfl ?_
      rw [if_pos q1]
      refine pe_blk mm_173 1 (s' := (64, [some (.ref b), u1, some (.int x2)], [.int (-1)], _, _, _)) rfl ?_
      cases h
      exact pe_ret mm_173 rfl rfl
    · rw [if_neg q1] at h
      refine pe_blk mm_173 1 (s' := (if (M.1 b 2) ≤ (x2 + 2) then 63 else 16, [some (.ref b), u1, some (.int x2)], [], _, _, _)) rfl ?_
      rw [if_neg q1]
      refine pe_blk mm_173 1 (s' := (17, [some (.ref b), u1, some (.int x2)], [.ref b], _, _, _)) rfl ?_
      refine pe_get mm_173 rfl rfl (isR_0 hb _) (by have := isR_lt hb; omega) rfl ?_
      refine pe_blk mm_173 1 (s' := (21, [some (.ref b), u1, some (.int x2)], [.int x2, .ref (b + 1)], _, _, _)) rfl ?_
      by_cases q2 : x2 < 0 ∨ 150 ≤ (x2 : Int32).toNatClampNeg
      · rw [if_pos q2] at h
        cases h
      · rw [if_neg q2] at h
        refine pe_iald (f := M.1 (b + 1)) mm_173 rfl (isR_1 hb _) (by have := isR_lt hb; omega) q2 ?_
        obtain ⟨e1, rfl⟩ : ∃ e1, e = e1 + 1 := ⟨e - 1, by omega⟩
        cases hc5 : F11 n (M.1 (b + 1) (x2 : Int32).toNatClampNeg) M with
        | none => rw [hc5] at h; cases h
        | some w =>
          obtain ⟨v3, M4⟩ := w
          rw [hc5] at h
          dsimp only at h
          refine pe_stat (al := [.int (M.1 (b + 1) (x2 : Int32).toNatClampNeg)]) (L0 := [some (.int (M.1 (b + 1) (x2 : Int32).toNatClampNeg))]) (r1 := (some (.int v3), 129, 17845, hp M4)) mm_173 rfl rfl rfl mm_11 rfl (Nat.le_of_ble_eq_true rfl) (Nat.le_of_ble_eq_true rfl) rfl rfl (F11_ev sc n (M.1 (b + 1) (x2 : Int32).toNatClampNeg) _ e1 (by omega) _ _ hc5) ?_
          show pm_ev _ _ _ _ _ (25, [some (.ref b), u1, some (.int x2)], [.int v3], _, _, _) _
          by_cases q6 : v3 = 0
          · rw [if_pos q6] at h
            refine pe_blk mm_173 1 (s' := (if v3 = 0 then 57 else 28, [some (.ref b), u1, some (.int x2)], [], _, _, _)) rfl ?_
            rw [if_pos q6]
            exact J173_57_ev sc n b hb (e1 + 1) he (L173_6 n b k) hr6 x2 _ _ _ _ h
          · rw [if_neg q6] at h
            refine pe_blk mm_173 1 (s' := (if v3 = 0 then 57 else 28, [some (.ref b), u1, some (.int x2)], [], _, _, _)) rfl ?_
            rw [if_neg q6]
            exact J173_28_ev sc n b hb (e1 + 1) he (L173_6 n b k) hr6 x2 _ _ _ _ h
/-- ArmExpander$Row.callFrom -/
def F173 (n : Nat) (b : Nat) (a0 : Int32) (M : Mem) : Option (Int32 × Mem) :=
  L173_6 n b n (if 0 < a0 then a0 else 0) M
set_option maxRecDepth 100000 in
set_option maxHeartbeats 4000000 in
theorem F173_ev (sc : Option (Nat × (Nat → Int32))) (n : Nat) (b : Nat) (a0 : Int32) (hb : isR b) (M : Mem) (e : Nat) (he : 2 ≤ e) (r : Int32) (M' : Mem) (h : F173 n b a0 M = some (r, M')) : pm_ev pmT sc e 173 false (0, [some (.ref b), some (.int a0), none], [], 129, 17845, hp M) (some (.int r), 129, 17845, hp M') := by
  unfold F173 at h
  refine pe_blk mm_173 2 (s' := (2, [some (.ref b), some (.int a0), none], [.int a0, .int 0], _, _, _)) rfl ?_
  refine pe_max mm_173 rfl rfl (by omega) (Nat.le_of_ble_eq_true rfl) ?_
  show pm_ev _ _ _ _ _ (5, [some (.ref b), some (.int a0), none], [.int (if 0 < a0 then a0 else 0)], _, _, _) _
  refine pe_blk mm_173 1 (s' := (6, [some (.ref b), some (.int a0), some (.int (if 0 < a0 then a0 else 0))], [], _, _, _)) rfl ?_
  exact L173_6_ev sc n b hb e he n (if 0 < a0 then a0 else 0) _ _ _ _ h
def J175_29 (n : Nat) (b : Nat) (s0 : Int32) (M : Mem) : Option (Int32 × Mem) :=
  if s0 = 0 ∨ s0 = 1 then some (s0, M) else none
set_option maxRecDepth 100000 in
set_option maxHeartbeats 4000000 in
theorem J175_29_ev (sc : Option (Nat × (Nat → Int32))) (n : Nat) (b : Nat) (hb : isR b) (e : Nat) (he : 2 ≤ e) : ∀ (s0 : Int32) (u0 : Option Value) (u1 : Option Value) (M : Mem) (r : Int32) (M' : Mem), J175_29 n b s0 M = some (r, M') → pm_ev pmT sc e 175 false (29, [u0, u1], [.int s0], 129, 17845, hp M) (some (.int r), 129, 17845, hp M') := by
  intro s0 u0 u1 M r M' h
  unfold J175_29 at h
  by_cases q8 : s0 = 0 ∨ s0 = 1
  · rw [if_pos q8] at h
    cases h
    exact pe_ret mm_175 rfl (if_pos q8)
  · rw [if_neg q8] at h
    cases h
def J175_28 (n : Nat) (b : Nat) (M : Mem) : Option (Int32 × Mem) :=
  J175_29 n b 0 M
set_option maxRecDepth 100000 in
set_option maxHeartbeats 4000000 in
theorem J175_28_ev (sc : Option (Nat × (Nat → Int32))) (n : Nat) (b : Nat) (hb : isR b) (e : Nat) (he : 2 ≤ e) : ∀ (u0 : Option Value) (u1 : Option Value) (M : Mem) (r : Int32) (M' : Mem), J175_28 n b  M = some (r, M') → pm_ev pmT sc e 175 false (28, [u0, u1], [], 129, 17845, hp M) (some (.int r), 129, 17845, hp M') := by
  intro u0 u1 M r M' h
  unfold J175_28 at h
  refine pe_blk mm_175 1 (s' := (29, [u0, u1], [.int 0], _, _, _)) rfl ?_
  exact J175_29_ev sc n b hb e he 0 _ _ _ _ _ h
def J175_24 (n : Nat) (b : Nat) (M : Mem) : Option (Int32 × Mem) :=
  J175_29 n b 1 M
set_option maxRecDepth 100000 in
set_option maxHeartbeats 4000000 in
theorem J175_24_ev (sc : Option (Nat × (Nat → Int32))) (n : Nat) (b : Nat) (hb : isR b) (e : Nat) (he : 2 ≤ e) : ∀ (u0 : Option Value) (u1 : Option Value) (M : Mem) (r : Int32) (M' : Mem), J175_24 n b  M = some (r, M') → pm_ev pmT sc e 175 false (24, [u0, u1], [], 129, 17845, hp M) (some (.int r), 129, 17845, hp M') := by
  intro u0 u1 M r M' h
  unfold J175_24 at h
  refine pe_blk mm_175 2 (s' := (29, [u0, u1], [.int 1], _, _, _)) rfl ?_
  exact J175_29_ev sc n b hb e he 1 _ _ _ _ _ h
/-- ArmExpander$Row.isBinder -/
def F175 (n : Nat) (b : Nat) (a0 : Int32) (M : Mem) : Option (Int32 × Mem) :=
  match F170 n b a0 M with | some (v1, M2) => (match F11 n v1 M2 with | some (v4, M5) => (if v4 = 0 then (J175_28 n b M5) else (match F170 n b (a0 - 1) M5 with | some (v9, M10) => (if v9 = 9903 then (J175_24 n b M10) else (J175_28 n b M10)) | none => none)) | none => none) | none => none
set_option maxRecDepth 100000 in
set_option maxHeartbeats 4000000 in
theorem F175_ev (sc : Option (Nat × (Nat → Int32))) (n : Nat) (b : Nat) (a0 : Int32) (hb : isR b) (M : Mem) (e : Nat) (he : 2 ≤ e) (r : Int32) (M' : Mem) (h : F175 n b a0 M = some (r, M')) : pm_ev pmT sc e 175 false (0, [some (.ref b), some (.int a0)], [], 129, 17845, hp M) (some (.int r), 129, 17845, hp M') := by
  unfold F175 at h
  refine pe_blk mm_175 2 (s' := (2, [some (.ref b), some (.int a0)], [.int a0, .ref b], _, _, _)) rfl ?_
  obtain ⟨e1, rfl⟩ : ∃ e1, e = e1 + 1 := ⟨e - 1, by omega⟩
  cases hc3 : F170 n b a0 M with
  | none => rw [hc3] at h; cases h
  | some w =>
    obtain ⟨v1, M2⟩ := w
    rw [hc3] at h
    dsimp only at h
    refine pe_virt (al := [.int a0]) (a := b) (L0 := [some (.ref b), some (.int a0)]) (r1 := (some (.int v1), 129, 17845, hp M2)) mm_175 rfl rfl rfl mm_170 (isR_0 hb _) (by have := isR_lt hb; omega) (by decide) rfl (Nat.le_of_ble_eq_true rfl) (Nat.le_of_ble_eq_true rfl) rfl rfl (F170_ev sc n b a0 hb _ e1 (by omega) _ _ hc3) ?_
    show pm_ev _ _ _ _ _ (5, [some (.ref b), some (.int a0)], [.int v1], _, _, _) _
    skip
    cases hc6 : F11 n v1 M2 with
    | none => rw [hc6] at h; cases h
    | some w =>
      obtain ⟨v4, M5⟩ := w
      rw [hc6] at h
      dsimp only at h
      refine pe_stat (al := [.int v1]) (L0 := [some (.int v1)]) (r1 := (some (.int v4), 129, 17845, hp M5)) mm_175 rfl rfl rfl mm_11 rfl (Nat.le_of_ble_eq_true rfl) (Nat.le_of_ble_eq_true rfl) rfl rfl (F11_ev sc n v1 _ e1 (by omega) _ _ hc6) ?_
      show pm_ev _ _ _ _ _ (8, [some (.ref b), some (.int a0)], [.int v4], _, _, _) _
      by_cases q7 : v4 = 0
      · rw [if_pos q7] at h
        refine pe_blk mm_175 1 (s' := (if v4 = 0 then 28 else 11, [some (.ref b), some (.int a0)], [], _, _, _)) rfl ?_
        rw [if_pos q7]
        exact J175_28_ev sc n b hb (e1 + 1) he _ _ _ _ _ h
      · rw [if_neg q7] at h
        refine pe_blk mm_175 1 (s' := (if v4 = 0 then 28 else 11, [some (.ref b), some (.int a0)], [], _, _, _)) rfl ?_
        rw [if_neg q7]
        refine pe_blk mm_175 4 (s' := (15, [some (.ref b), some (.int a0)], [.int (a0 - 1), .ref b], _, _, _)) rfl ?_
        skip
        cases hc11 : F170 n b (a0 - 1) M5 with
        | none => rw [hc11] at h; cases h
        | some w =>
          obtain ⟨v9, M10⟩ := w
          rw [hc11] at h
          dsimp only at h
          refine pe_virt (al := [.int (a0 - 1)]) (a := b) (L0 := [some (.ref b), some (.int (a0 - 1))]) (r1 := (some (.int v9), 129, 17845, hp M10)) mm_175 rfl rfl rfl mm_170 (isR_0 hb _) (by have := isR_lt hb; omega) (by decide) rfl (Nat.le_of_ble_eq_true rfl) (Nat.le_of_ble_eq_true rfl) rfl rfl (F170_ev sc n b (a0 - 1) hb _ e1 (by omega) _ _ hc11) ?_
          show pm_ev _ _ _ _ _ (18, [some (.ref b), some (.int a0)], [.int v9], _, _, _) _
          refine pe_blk mm_175 1 (s' := (21, [some (.ref b), some (.int a0)], [.int 9903, .int v9], _, _, _)) rfl ?_
          by_cases q12 : v9 = 9903
          · rw [if_pos q12] at h
            refine pe_blk mm_175 1 (s' := (if v9 = 9903 then 24 else 28, [some (.ref b), some (.int a0)], [], _, _, _)) rfl ?_
            rw [if_pos q12]
            exact J175_24_ev sc n b hb (e1 + 1) he _ _ _ _ _ h
          · rw [if_neg q12] at h
            refine pe_blk mm_175 1 (s' := (if v9 = 9903 then 24 else 28, [some (.ref b), some (.int a0)], [], _, _, _)) rfl ?_
            rw [if_neg q12]
            exact J175_28_ev sc n b hb (e1 + 1) he _ _ _ _ _ h
def J176_31 (n : Nat) (b : Nat) (s0 : Int32) (M : Mem) : Option (Int32 × Mem) :=
  if s0 = 0 ∨ s0 = 1 then some (s0, M) else none
set_option maxRecDepth 100000 in
set_option maxHeartbeats 4000000 in
theorem J176_31_ev (sc : Option (Nat × (Nat → Int32))) (n : Nat) (b : Nat) (hb : isR b) (e : Nat) (he : 2 ≤ e) : ∀ (s0 : Int32) (u0 : Option Value) (u1 : Option Value) (u2 : Option Value) (M : Mem) (r : Int32) (M' : Mem), J176_31 n b s0 M = some (r, M') → pm_ev pmT sc e 176 false (31, [u0, u1, u2], [.int s0], 129, 17845, hp M) (some (.int r), 129, 17845, hp M') := by
  intro s0 u0 u1 u2 M r M' h
  unfold J176_31 at h
  by_cases q15 : s0 = 0 ∨ s0 = 1
  · rw [if_pos q15] at h
    cases h
    exact pe_ret mm_176 rfl (if_pos q15)
  · rw [if_neg q15] at h
    cases h
def J176_26 (n : Nat) (b : Nat) (M : Mem) : Option (Int32 × Mem) :=
  J176_31 n b 1 M
set_option maxRecDepth 100000 in
set_option maxHeartbeats 4000000 in
theorem J176_26_ev (sc : Option (Nat × (Nat → Int32))) (n : Nat) (b : Nat) (hb : isR b) (e : Nat) (he : 2 ≤ e) : ∀ (u0 : Option Value) (u1 : Option Value) (u2 : Option Value) (M : Mem) (r : Int32) (M' : Mem), J176_26 n b  M = some (r, M') → pm_ev pmT sc e 176 false (26, [u0, u1, u2], [], 129, 17845, hp M) (some (.int r), 129, 17845, hp M') := by
  intro u0 u1 u2 M r M' h
  unfold J176_26 at h
  refine pe_blk mm_176 2 (s' := (31, [u0, u1, u2], [.int 1], _, _, _)) rfl ?_
  exact J176_31_ev sc n b hb e he 1 _ _ _ _ _ _ h
def J176_30 (n : Nat) (b : Nat) (M : Mem) : Option (Int32 × Mem) :=
  J176_31 n b 0 M
set_option maxRecDepth 100000 in
set_option maxHeartbeats 4000000 in
theorem J176_30_ev (sc : Option (Nat × (Nat → Int32))) (n : Nat) (b : Nat) (hb : isR b) (e : Nat) (he : 2 ≤ e) : ∀ (u0 : Option Value) (u1 : Option Value) (u2 : Option Value) (M : Mem) (r : Int32) (M' : Mem), J176_30 n b  M = some (r, M') → pm_ev pmT sc e 176 false (30, [u0, u1, u2], [], 129, 17845, hp M) (some (.int r), 129, 17845, hp M') := by
  intro u0 u1 u2 M r M' h
  unfold J176_30 at h
  refine pe_blk mm_176 1 (s' := (31, [u0, u1, u2], [.int 0], _, _, _)) rfl ?_
  exact J176_31_ev sc n b hb e he 0 _ _ _ _ _ _ h
def J176_13 (n : Nat) (b : Nat) (x1 : Int32) (x2 : Int32) (M : Mem) : Option (Int32 × Mem) :=
  match F171 n b x1 M with | some (v8, M9) => (match F171 n b x2 M9 with | some (v11, M12) => (if v8 = v11 then (J176_26 n b M12) else (J176_30 n b M12)) | none => none) | none => none
set_option maxRecDepth 100000 in
set_option maxHeartbeats 4000000 in
theorem J176_13_ev (sc : Option (Nat × (Nat → Int32))) (n : Nat) (b : Nat) (hb : isR b) (e : Nat) (he : 2 ≤ e) : ∀ (x1 : Int32) (x2 : Int32) (M : Mem) (r : Int32) (M' : Mem), J176_13 n b x1 x2 M = some (r, M') → pm_ev pmT sc e 176 false (13, [some (.ref b), some (.int x1), some (.int x2)], [], 129, 17845, hp M) (some (.int r), 129, 17845, hp M') := by
  intro x1 x2  M r M' h
  unfold J176_13 at h
  refine pe_blk mm_176 2 (s' := (15, [some (.ref b), some (.int x1), some (.int x2)], [.int x1, .ref b], _, _, _)) rfl ?_
  obtain ⟨e1, rfl⟩ : ∃ e1, e = e1 + 1 := ⟨e - 1, by omega⟩
  cases hc10 : F171 n b x1 M with
  | none => rw [hc10] at h; cases h
  | some w =>
    obtain ⟨v8, M9⟩ := w
    rw [hc10] at h
    dsimp only at h
    refine pe_virt (al := [.int x1]) (a := b) (L0 := [some (.ref b), some (.int x1)]) (r1 := (some (.int v8), 129, 17845, hp M9)) mm_176 rfl rfl rfl mm_171 (isR_0 hb _) (by have := isR_lt hb; omega) (by decide) rfl (Nat.le_of_ble_eq_true rfl) (Nat.le_of_ble_eq_true rfl) rfl rfl (F171_ev sc n b x1 hb _ e1 (by omega) _ _ hc10) ?_
    show pm_ev _ _ _ _ _ (18, [some (.ref b), some (.int x1), some (.int x2)], [.int v8], _, _, _) _
    refine pe_blk mm_176 2 (s' := (20, [some (.ref b), some (.int x1), some (.int x2)], [.int x2, .ref b, .int v8], _, _, _)) rfl ?_
    skip
    cases hc13 : F171 n b x2 M9 with
    | none => rw [hc13] at h; cases h
    | some w =>
      obtain ⟨v11, M12⟩ := w
      rw [hc13] at h
      dsimp only at h
      refine pe_virt (al := [.int x2]) (a := b) (L0 := [some (.ref b), some (.int x2)]) (r1 := (some (.int v11), 129, 17845, hp M12)) mm_176 rfl rfl rfl mm_171 (isR_0 hb _) (by have := isR_lt hb; omega) (by decide) rfl (Nat.le_of_ble_eq_true rfl) (Nat.le_of_ble_eq_true rfl) rfl rfl (F171_ev sc n b x2 hb _ e1 (by omega) _ _ hc13) ?_
      show pm_ev _ _ _ _ _ (23, [some (.ref b), some (.int x1), some (.int x2)], [.int v11, .int v8], _, _, _) _
      by_cases q14 : v8 = v11
      · rw [if_pos q14] at h
        refine pe_blk mm_176 1 (s' := (if v8 = v11 then 26 else 30, [some (.ref b), some (.int x1), some (.int x2)], [], _, _, _)) rfl ?_
        rw [if_pos q14]
        exact J176_26_ev sc n b hb (e1 + 1) he _ _ _ _ _ _ h
      · rw [if_neg q14] at h
        refine pe_blk mm_176 1 (s' := (if v8 = v11 then 26 else 30, [some (.ref b), some (.int x1), some (.int x2)], [], _, _, _)) rfl ?_
        rw [if_neg q14]
        exact J176_30_ev sc n b hb (e1 + 1) he _ _ _ _ _ _ h
/-- ArmExpander$Row.isSameName -/
def F176 (n : Nat) (b : Nat) (a0 : Int32) (a1 : Int32) (M : Mem) : Option (Int32 × Mem) :=
  match F170 n b a0 M with | some (v1, M2) => (match F170 n b a1 M2 with | some (v4, M5) => (if v1 = v4 then (J176_13 n b a0 a1 M5) else (J176_30 n b M5)) | none => none) | none => none
set_option maxRecDepth 100000 in
set_option maxHeartbeats 4000000 in
theorem F176_ev (sc : Option (Nat × (Nat → Int32))) (n : Nat) (b : Nat) (a0 : Int32) (a1 : Int32) (hb : isR b) (M : Mem) (e : Nat) (he : 2 ≤ e) (r : Int32) (M' : Mem) (h : F176 n b a0 a1 M = some (r, M')) : pm_ev pmT sc e 176 false (0, [some (.ref b), some (.int a0), some (.int a1)], [], 129, 17845, hp M) (some (.int r), 129, 17845, hp M') := by
  unfold F176 at h
  refine pe_blk mm_176 2 (s' := (2, [some (.ref b), some (.int a0), some (.int a1)], [.int a0, .ref b], _, _, _)) rfl ?_
  obtain ⟨e1, rfl⟩ : ∃ e1, e = e1 + 1 := ⟨e - 1, by omega⟩
  cases hc3 : F170 n b a0 M with
  | none => rw [hc3] at h; cases h
  | some w =>
    obtain ⟨v1, M2⟩ := w
    rw [hc3] at h
    dsimp only at h
    refine pe_virt (al := [.int a0]) (a := b) (L0 := [some (.ref b), some (.int a0)]) (r1 := (some (.int v1), 129, 17845, hp M2)) mm_176 rfl rfl rfl mm_170 (isR_0 hb _) (by have := isR_lt hb; omega) (by decide) rfl (Nat.le_of_ble_eq_true rfl) (Nat.le_of_ble_eq_true rfl) rfl rfl (F170_ev sc n b a0 hb _ e1 (by omega) _ _ hc3) ?_
    show pm_ev _ _ _ _ _ (5, [some (.ref b), some (.int a0), some (.int a1)], [.int v1], _, _, _) _
    refine pe_blk mm_176 2 (s' := (7, [some (.ref b), some (.int a0), some (.int a1)], [.int a1, .ref b, .int v1], _, _, _)) rfl ?_
    skip
    cases hc6 : F170 n b a1 M2 with
    | none => rw [hc6] at h; cases h
    | some w =>
      obtain ⟨v4, M5⟩ := w
      rw [hc6] at h
      dsimp only at h
      refine pe_virt (al := [.int a1]) (a := b) (L0 := [some (.ref b), some (.int a1)]) (r1 := (some (.int v4), 129, 17845, hp M5)) mm_176 rfl rfl rfl mm_170 (isR_0 hb _) (by have := isR_lt hb; omega) (by decide) rfl (Nat.le_of_ble_eq_true rfl) (Nat.le_of_ble_eq_true rfl) rfl rfl (F170_ev sc n b a1 hb _ e1 (by omega) _ _ hc6) ?_
      show pm_ev _ _ _ _ _ (10, [some (.ref b), some (.int a0), some (.int a1)], [.int v4, .int v1], _, _, _) _
      by_cases q7 : v1 = v4
      · rw [if_pos q7] at h
        refine pe_blk mm_176 1 (s' := (if v1 = v4 then 13 else 30, [some (.ref b), some (.int a0), some (.int a1)], [], _, _, _)) rfl ?_
        rw [if_pos q7]
        exact J176_13_ev sc n b hb (e1 + 1) he a0 a1 _ _ _ h
      · rw [if_neg q7] at h
        refine pe_blk mm_176 1 (s' := (if v1 = v4 then 13 else 30, [some (.ref b), some (.int a0), some (.int a1)], [], _, _, _)) rfl ?_
        rw [if_neg q7]
        exact J176_30_ev sc n b hb (e1 + 1) he _ _ _ _ _ _ h
/-- ArmExpander$Takings.clear -/
def F178 (n : Nat) (M : Mem) : Option (Unit × Mem) :=
  mlet (m_i M 17 5 0) (fun M1 => some ((), M1))
set_option maxRecDepth 100000 in
set_option maxHeartbeats 4000000 in
theorem F178_ev (sc : Option (Nat × (Nat → Int32))) (n : Nat)  (M : Mem) (e : Nat) (he : 1 ≤ e) (r : Unit) (M' : Mem) (h : F178 n M = some (r, M')) : pm_ev pmT sc e 178 false (0, [some (.ref 17)], [], 129, 17845, hp M) (none, 129, 17845, hp M') := by
  unfold F178 at h
  refine pe_blk mm_178 2 (s' := (2, [some (.ref 17)], [.int 0, .ref 17], _, _, _)) rfl ?_
  refine pe_puti mm_178 rfl rfl rfl (by decide) (Nat.le_of_ble_eq_true rfl) rfl rfl ?_
  show pm_ev _ _ _ _ _ (5, [some (.ref 17)], [], _, _, hp (m_i M 17 5 0)) _
  generalize m_i M 17 5 0 = M1 at h ⊢
  rw [mlet] at h
  cases h
  exact pe_ret mm_178 rfl rfl
def J179_61 (n : Nat) (M : Mem) : Option (Unit × Mem) :=
  some ((), M)
set_option maxRecDepth 100000 in
set_option maxHeartbeats 4000000 in
theorem J179_61_ev (sc : Option (Nat × (Nat → Int32))) (n : Nat)  (e : Nat) (he : 1 ≤ e) : ∀ (u0 : Option Value) (u1 : Option Value) (u2 : Option Value) (u3 : Option Value) (u4 : Option Value) (M : Mem) (r : Unit) (M' : Mem), J179_61 n  M = some (r, M') → pm_ev pmT sc e 179 false (61, [u0, u1, u2, u3, u4], [], 129, 17845, hp M) (none, 129, 17845, hp M') := by
  intro u0 u1 u2 u3 u4 M r M' h
  unfold J179_61 at h
  cases h
  exact pe_ret mm_179 rfl rfl
def J179_40 (n : Nat) (x4 : Int32) (M : Mem) : Option (Unit × Mem) :=
  if (M.1 17 5) < 0 ∨ 150 ≤ (M.1 17 5 : Int32).toNatClampNeg then none else (mlet (m_i M 21 (M.1 17 5 : Int32).toNatClampNeg x4) (fun M9 => mlet (m_i M9 17 5 ((M9.1 17 5) + 1)) (fun M10 => J179_61 n M10)))
set_option maxRecDepth 100000 in
set_option maxHeartbeats 4000000 in
theorem J179_40_ev (sc : Option (Nat × (Nat → Int32))) (n : Nat)  (e : Nat) (he : 1 ≤ e) : ∀ (x4 : Int32) (u1 : Option Value) (u2 : Option Value) (u3 : Option Value) (M : Mem) (r : Unit) (M' : Mem), J179_40 n x4 M = some (r, M') → pm_ev pmT sc e 179 false (40, [some (.ref 17), u1, u2, u3, some (.int x4)], [], 129, 17845, hp M) (none, 129, 17845, hp M') := by
  intro x4 u1 u2 u3 M r M' h
  unfold J179_40 at h
  refine pe_blk mm_179 1 (s' := (41, [some (.ref 17), u1, u2, u3, some (.int x4)], [.ref 17], _, _, _)) rfl ?_
  refine pe_get mm_179 rfl rfl rfl (by decide) rfl ?_
  refine pe_blk mm_179 1 (s' := (45, [some (.ref 17), u1, u2, u3, some (.int x4)], [.ref 17, .ref 21], _, _, _)) rfl ?_
  refine pe_get mm_179 rfl rfl rfl (by decide) rfl ?_
  refine pe_blk mm_179 1 (s' := (50, [some (.ref 17), u1, u2, u3, some (.int x4)], [.int x4, .int (M.1 17 5), .ref 21], _, _, _)) rfl ?_
  by_cases q8 : (M.1 17 5) < 0 ∨ 150 ≤ (M.1 17 5 : Int32).toNatClampNeg
  · rw [if_pos q8] at h
    cases h
  · rw [if_neg q8] at h
    refine pe_iasti mm_179 rfl rfl (by decide) q8 rfl ?_
    show pm_ev _ _ _ _ _ (51, [some (.ref 17), u1, u2, u3, some (.int x4)], [], _, _, hp (m_i M 21 (M.1 17 5 : Int32).toNatClampNeg x4)) _
    generalize m_i M 21 (M.1 17 5 : Int32).toNatClampNeg x4 = M9 at h ⊢
    rw [mlet] at h
    refine pe_blk mm_179 2 (s' := (53, [some (.ref 17), u1, u2, u3, some (.int x4)], [.ref 17, .ref 17], _, _, _)) rfl ?_
    refine pe_get mm_179 rfl rfl rfl (by decide) rfl ?_
    refine pe_blk mm_179 2 (s' := (58, [some (.ref 17), u1, u2, u3, some (.int x4)], [.int ((M9.1 17 5) + 1), .ref 17], _, _, _)) rfl ?_
    refine pe_puti mm_179 rfl rfl rfl (by decide) (Nat.le_of_ble_eq_true rfl) rfl rfl ?_
    show pm_ev _ _ _ _ _ (61, [some (.ref 17), u1, u2, u3, some (.int x4)], [], _, _, hp (m_i M9 17 5 ((M9.1 17 5) + 1))) _
    generalize m_i M9 17 5 ((M9.1 17 5) + 1) = M10 at h ⊢
    rw [mlet] at h
    exact J179_61_ev sc n e he _ _ _ _ _ _ _ _ h
def J179_20 (n : Nat) (x2 : Int32) (x3 : Int32) (x4 : Int32) (M : Mem) : Option (Unit × Mem) :=
  if (M.1 17 5) < 0 ∨ 150 ≤ (M.1 17 5 : Int32).toNatClampNeg then none else (mlet (m_i M 19 (M.1 17 5 : Int32).toNatClampNeg x2) (fun M5 => if (M5.1 17 5) < 0 ∨ 150 ≤ (M5.1 17 5 : Int32).toNatClampNeg then none else (mlet (m_i M5 20 (M5.1 17 5 : Int32).toNatClampNeg x3) (fun M7 => J179_40 n x4 M7))))
set_option maxRecDepth 100000 in
set_option maxHeartbeats 4000000 in
theorem J179_20_ev (sc : Option (Nat × (Nat → Int32))) (n : Nat)  (e : Nat) (he : 1 ≤ e) : ∀ (x2 : Int32) (x3 : Int32) (x4 : Int32) (u1 : Option Value) (M : Mem) (r : Unit) (M' : Mem), J179_20 n x2 x3 x4 M = some (r, M') → pm_ev pmT sc e 179 false (20, [some (.ref 17), u1, some (.int x2), some (.int x3), some (.int x4)], [], 129, 17845, hp M) (none, 129, 17845, hp M') := by
  intro x2 x3 x4 u1 M r M' h
  unfold J179_20 at h
  refine pe_blk mm_179 1 (s' := (21, [some (.ref 17), u1, some (.int x2), some (.int x3), some (.int x4)], [.ref 17], _, _, _)) rfl ?_
  refine pe_get mm_179 rfl rfl rfl (by decide) rfl ?_
  refine pe_blk mm_179 1 (s' := (25, [some (.ref 17), u1, some (.int x2), some (.int x3), some (.int x4)], [.ref 17, .ref 19], _, _, _)) rfl ?_
  refine pe_get mm_179 rfl rfl rfl (by decide) rfl ?_
  refine pe_blk mm_179 1 (s' := (29, [some (.ref 17), u1, some (.int x2), some (.int x3), some (.int x4)], [.int x2, .int (M.1 17 5), .ref 19], _, _, _)) rfl ?_
  by_cases q4 : (M.1 17 5) < 0 ∨ 150 ≤ (M.1 17 5 : Int32).toNatClampNeg
  · rw [if_pos q4] at h
    cases h
  · rw [if_neg q4] at h
    refine pe_iasti mm_179 rfl rfl (by decide) q4 rfl ?_
    show pm_ev _ _ _ _ _ (30, [some (.ref 17), u1, some (.int x2), some (.int x3), some (.int x4)], [], _, _, hp (m_i M 19 (M.1 17 5 : Int32).toNatClampNeg x2)) _
    generalize m_i M 19 (M.1 17 5 : Int32).toNatClampNeg x2 = M5 at h ⊢
    rw [mlet] at h
    refine pe_blk mm_179 1 (s' := (31, [some (.ref 17), u1, some (.int x2), some (.int x3), some (.int x4)], [.ref 17], _, _, _)) rfl ?_
    refine pe_get mm_179 rfl rfl rfl (by decide) rfl ?_
    refine pe_blk mm_179 1 (s' := (35, [some (.ref 17), u1, some (.int x2), some (.int x3), some (.int x4)], [.ref 17, .ref 20], _, _, _)) rfl ?_
    refine pe_get mm_179 rfl rfl rfl (by decide) rfl ?_
    refine pe_blk mm_179 1 (s' := (39, [some (.ref 17), u1, some (.int x2), some (.int x3), some (.int x4)], [.int x3, .int (M5.1 17 5), .ref 20], _, _, _)) rfl ?_
    by_cases q6 : (M5.1 17 5) < 0 ∨ 150 ≤ (M5.1 17 5 : Int32).toNatClampNeg
    · rw [if_pos q6] at h
      cases h
    · rw [if_neg q6] at h
      refine pe_iasti mm_179 rfl rfl (by decide) q6 rfl ?_
      show pm_ev _ _ _ _ _ (40, [some (.ref 17), u1, some (.int x2), some (.int x3), some (.int x4)], [], _, _, hp (m_i M5 20 (M5.1 17 5 : Int32).toNatClampNeg x3)) _
      generalize m_i M5 20 (M5.1 17 5 : Int32).toNatClampNeg x3 = M7 at h ⊢
      rw [mlet] at h
      exact J179_40_ev sc n e he x4 _ _ _ _ _ _ h
/-- ArmExpander$Takings.add -/
def F179 (n : Nat) (a0 : Int32) (a1 : Int32) (a2 : Int32) (a3 : Int32) (M : Mem) : Option (Unit × Mem) :=
  if 150 ≤ (M.1 17 5) then (J179_61 n M) else (if (M.1 17 5) < 0 ∨ 150 ≤ (M.1 17 5 : Int32).toNatClampNeg then none else (mlet (m_i M 18 (M.1 17 5 : Int32).toNatClampNeg a0) (fun M3 => J179_20 n a1 a2 a3 M3)))
set_option maxRecDepth 100000 in
set_option maxHeartbeats 4000000 in
theorem F179_ev (sc : Option (Nat × (Nat → Int32))) (n : Nat) (a0 : Int32) (a1 : Int32) (a2 : Int32) (a3 : Int32)  (M : Mem) (e : Nat) (he : 1 ≤ e) (r : Unit) (M' : Mem) (h : F179 n a0 a1 a2 a3 M = some (r, M')) : pm_ev pmT sc e 179 false (0, [some (.ref 17), some (.int a0), some (.int a1), some (.int a2), some (.int a3)], [], 129, 17845, hp M) (none, 129, 17845, hp M') := by
  unfold F179 at h
  refine pe_blk mm_179 1 (s' := (1, [some (.ref 17), some (.int a0), some (.int a1), some (.int a2), some (.int a3)], [.ref 17], _, _, _)) rfl ?_
  refine pe_get mm_179 rfl rfl rfl (by decide) rfl ?_
  refine pe_blk mm_179 1 (s' := (7, [some (.ref 17), some (.int a0), some (.int a1), some (.int a2), some (.int a3)], [.int 150, .int (M.1 17 5)], _, _, _)) rfl ?_
  by_cases q1 : 150 ≤ (M.1 17 5)
  · rw [if_pos q1] at h
    refine pe_blk mm_179 1 (s' := (if 150 ≤ (M.1 17 5) then 61 else 10, [some (.ref 17), some (.int a0), some (.int a1), some (.int a2), some (.int a3)], [], _, _, _)) rfl ?_
    rw [if_pos q1]
    exact J179_61_ev sc n e he _ _ _ _ _ _ _ _ h
  · rw [if_neg q1] at h
    refine pe_blk mm_179 1 (s' := (if 150 ≤ (M.1 17 5) then 61 else 10, [some (.ref 17), some (.int a0), some (.int a1), some (.int a2), some (.int a3)], [], _, _, _)) rfl ?_
    rw [if_neg q1]
    refine pe_blk mm_179 1 (s' := (11, [some (.ref 17), some (.int a0), some (.int a1), some (.int a2), some (.int a3)], [.ref 17], _, _, _)) rfl ?_
    refine pe_get mm_179 rfl rfl rfl (by decide) rfl ?_
    refine pe_blk mm_179 1 (s' := (15, [some (.ref 17), some (.int a0), some (.int a1), some (.int a2), some (.int a3)], [.ref 17, .ref 18], _, _, _)) rfl ?_
    refine pe_get mm_179 rfl rfl rfl (by decide) rfl ?_
    refine pe_blk mm_179 1 (s' := (19, [some (.ref 17), some (.int a0), some (.int a1), some (.int a2), some (.int a3)], [.int a0, .int (M.1 17 5), .ref 18], _, _, _)) rfl ?_
    by_cases q2 : (M.1 17 5) < 0 ∨ 150 ≤ (M.1 17 5 : Int32).toNatClampNeg
    · rw [if_pos q2] at h
      cases h
    · rw [if_neg q2] at h
      refine pe_iasti mm_179 rfl rfl (by decide) q2 rfl ?_
      show pm_ev _ _ _ _ _ (20, [some (.ref 17), some (.int a0), some (.int a1), some (.int a2), some (.int a3)], [], _, _, hp (m_i M 18 (M.1 17 5 : Int32).toNatClampNeg a0)) _
      generalize m_i M 18 (M.1 17 5 : Int32).toNatClampNeg a0 = M3 at h ⊢
      rw [mlet] at h
      exact J179_20_ev sc n e he a1 a2 a3 _ _ _ _ h
def J180_16 (n : Nat) (M : Mem) : Option (Unit × Mem) :=
  some ((), M)
set_option maxRecDepth 100000 in
set_option maxHeartbeats 4000000 in
theorem J180_16_ev (sc : Option (Nat × (Nat → Int32))) (n : Nat)  (e : Nat) (he : 1 ≤ e) : ∀ (u0 : Option Value) (u1 : Option Value) (u2 : Option Value) (M : Mem) (r : Unit) (M' : Mem), J180_16 n  M = some (r, M') → pm_ev pmT sc e 180 false (16, [u0, u1, u2], [], 129, 17845, hp M) (none, 129, 17845, hp M') := by
  intro u0 u1 u2 M r M' h
  unfold J180_16 at h
  cases h
  exact pe_ret mm_180 rfl rfl
/-- ArmExpander$Takings.setRounds -/
def F180 (n : Nat) (a0 : Int32) (a1 : Int32) (M : Mem) : Option (Unit × Mem) :=
  if a0 < 0 then (J180_16 n M) else (if 4 ≤ a0 then (J180_16 n M) else (if a0 < 0 ∨ 4 ≤ (a0 : Int32).toNatClampNeg then none else (mlet (m_i M 22 (a0 : Int32).toNatClampNeg a1) (fun M4 => J180_16 n M4))))
set_option maxRecDepth 100000 in
set_option maxHeartbeats 4000000 in
theorem F180_ev (sc : Option (Nat × (Nat → Int32))) (n : Nat) (a0 : Int32) (a1 : Int32)  (M : Mem) (e : Nat) (he : 1 ≤ e) (r : Unit) (M' : Mem) (h : F180 n a0 a1 M = some (r, M')) : pm_ev pmT sc e 180 false (0, [some (.ref 17), some (.int a0), some (.int a1)], [], 129, 17845, hp M) (none, 129, 17845, hp M') := by
  unfold F180 at h
  refine pe_blk mm_180 1 (s' := (1, [some (.ref 17), some (.int a0), some (.int a1)], [.int a0], _, _, _)) rfl ?_
  by_cases q1 : a0 < 0
  · rw [if_pos q1] at h
    refine pe_blk mm_180 1 (s' := (if a0 < 0 then 16 else 4, [some (.ref 17), some (.int a0), some (.int a1)], [], _, _, _)) rfl ?_
    rw [if_pos q1]
    exact J180_16_ev sc n e he _ _ _ _ _ _ h
  · rw [if_neg q1] at h
    refine pe_blk mm_180 1 (s' := (if a0 < 0 then 16 else 4, [some (.ref 17), some (.int a0), some (.int a1)], [], _, _, _)) rfl ?_
    rw [if_neg q1]
    refine pe_blk mm_180 2 (s' := (6, [some (.ref 17), some (.int a0), some (.int a1)], [.int 4, .int a0], _, _, _)) rfl ?_
    by_cases q2 : 4 ≤ a0
    · rw [if_pos q2] at h
      refine pe_blk mm_180 1 (s' := (if 4 ≤ a0 then 16 else 9, [some (.ref 17), some (.int a0), some (.int a1)], [], _, _, _)) rfl ?_
      rw [if_pos q2]
      exact J180_16_ev sc n e he _ _ _ _ _ _ h
    · rw [if_neg q2] at h
      refine pe_blk mm_180 1 (s' := (if 4 ≤ a0 then 16 else 9, [some (.ref 17), some (.int a0), some (.int a1)], [], _, _, _)) rfl ?_
      rw [if_neg q2]
      refine pe_blk mm_180 1 (s' := (10, [some (.ref 17), some (.int a0), some (.int a1)], [.ref 17], _, _, _)) rfl ?_
      refine pe_get mm_180 rfl rfl rfl (by decide) rfl ?_
      refine pe_blk mm_180 2 (s' := (15, [some (.ref 17), some (.int a0), some (.int a1)], [.int a1, .int a0, .ref 22], _, _, _)) rfl ?_
      by_cases q3 : a0 < 0 ∨ 4 ≤ (a0 : Int32).toNatClampNeg
      · rw [if_pos q3] at h
        cases h
      · rw [if_neg q3] at h
        refine pe_iasti mm_180 rfl rfl (by decide) q3 rfl ?_
        show pm_ev _ _ _ _ _ (16, [some (.ref 17), some (.int a0), some (.int a1)], [], _, _, hp (m_i M 22 (a0 : Int32).toNatClampNeg a1)) _
        generalize m_i M 22 (a0 : Int32).toNatClampNeg a1 = M4 at h ⊢
        rw [mlet] at h
        exact J180_16_ev sc n e he _ _ _ _ _ _ h
def J181_19 (n : Nat) (s0 : Int32) (M : Mem) : Option (Int32 × Mem) :=
  some (s0, M)
set_option maxRecDepth 100000 in
set_option maxHeartbeats 4000000 in
theorem J181_19_ev (sc : Option (Nat × (Nat → Int32))) (n : Nat)  (e : Nat) (he : 1 ≤ e) : ∀ (s0 : Int32) (u0 : Option Value) (u1 : Option Value) (M : Mem) (r : Int32) (M' : Mem), J181_19 n s0 M = some (r, M') → pm_ev pmT sc e 181 false (19, [u0, u1], [.int s0], 129, 17845, hp M) (some (.int r), 129, 17845, hp M') := by
  intro s0 u0 u1 M r M' h
  unfold J181_19 at h
  cases h
  exact pe_ret mm_181 rfl rfl
def J181_18 (n : Nat) (M : Mem) : Option (Int32 × Mem) :=
  J181_19 n 0 M
set_option maxRecDepth 100000 in
set_option maxHeartbeats 4000000 in
theorem J181_18_ev (sc : Option (Nat × (Nat → Int32))) (n : Nat)  (e : Nat) (he : 1 ≤ e) : ∀ (u0 : Option Value) (u1 : Option Value) (M : Mem) (r : Int32) (M' : Mem), J181_18 n  M = some (r, M') → pm_ev pmT sc e 181 false (18, [u0, u1], [], 129, 17845, hp M) (some (.int r), 129, 17845, hp M') := by
  intro u0 u1 M r M' h
  unfold J181_18 at h
  refine pe_blk mm_181 1 (s' := (19, [u0, u1], [.int 0], _, _, _)) rfl ?_
  exact J181_19_ev sc n e he 0 _ _ _ _ _ h
/-- ArmExpander$Takings.roundsOf -/
def F181 (n : Nat) (a0 : Int32) (M : Mem) : Option (Int32 × Mem) :=
  if a0 < 0 then (J181_18 n M) else (if 4 ≤ a0 then (J181_18 n M) else (if a0 < 0 ∨ 4 ≤ (a0 : Int32).toNatClampNeg then none else (J181_19 n (M.1 22 (a0 : Int32).toNatClampNeg) M)))
set_option maxRecDepth 100000 in
set_option maxHeartbeats 4000000 in
theorem F181_ev (sc : Option (Nat × (Nat → Int32))) (n : Nat) (a0 : Int32)  (M : Mem) (e : Nat) (he : 1 ≤ e) (r : Int32) (M' : Mem) (h : F181 n a0 M = some (r, M')) : pm_ev pmT sc e 181 false (0, [some (.ref 17), some (.int a0)], [], 129, 17845, hp M) (some (.int r), 129, 17845, hp M') := by
  unfold F181 at h
  refine pe_blk mm_181 1 (s' := (1, [some (.ref 17), some (.int a0)], [.int a0], _, _, _)) rfl ?_
  by_cases q1 : a0 < 0
  · rw [if_pos q1] at h
    refine pe_blk mm_181 1 (s' := (if a0 < 0 then 18 else 4, [some (.ref 17), some (.int a0)], [], _, _, _)) rfl ?_
    rw [if_pos q1]
    exact J181_18_ev sc n e he _ _ _ _ _ h
  · rw [if_neg q1] at h
    refine pe_blk mm_181 1 (s' := (if a0 < 0 then 18 else 4, [some (.ref 17), some (.int a0)], [], _, _, _)) rfl ?_
    rw [if_neg q1]
    refine pe_blk mm_181 2 (s' := (6, [some (.ref 17), some (.int a0)], [.int 4, .int a0], _, _, _)) rfl ?_
    by_cases q2 : 4 ≤ a0
    · rw [if_pos q2] at h
      refine pe_blk mm_181 1 (s' := (if 4 ≤ a0 then 18 else 9, [some (.ref 17), some (.int a0)], [], _, _, _)) rfl ?_
      rw [if_pos q2]
      exact J181_18_ev sc n e he _ _ _ _ _ h
    · rw [if_neg q2] at h
      refine pe_blk mm_181 1 (s' := (if 4 ≤ a0 then 18 else 9, [some (.ref 17), some (.int a0)], [], _, _, _)) rfl ?_
      rw [if_neg q2]
      refine pe_blk mm_181 1 (s' := (10, [some (.ref 17), some (.int a0)], [.ref 17], _, _, _)) rfl ?_
      refine pe_get mm_181 rfl rfl rfl (by decide) rfl ?_
      refine pe_blk mm_181 1 (s' := (14, [some (.ref 17), some (.int a0)], [.int a0, .ref 22], _, _, _)) rfl ?_
      by_cases q3 : a0 < 0 ∨ 4 ≤ (a0 : Int32).toNatClampNeg
      · rw [if_pos q3] at h
        cases h
      · rw [if_neg q3] at h
        refine pe_iald (f := M.1 22) mm_181 rfl rfl (by decide) q3 ?_
        refine pe_blk mm_181 1 (s' := (19, [some (.ref 17), some (.int a0)], [.int (M.1 22 (a0 : Int32).toNatClampNeg)], _, _, _)) rfl ?_
        exact J181_19_ev sc n e he (M.1 22 (a0 : Int32).toNatClampNeg) _ _ _ _ _ h
def J182_39 (n : Nat) (rec5 : Int32 → Int32 → Int32 → Int32 → Mem → Option (Int32 × Mem)) (x1 : Int32) (x2 : Int32) (x3 : Int32) (x4 : Int32) (M : Mem) : Option (Int32 × Mem) :=
  rec5 x1 x2 x3 (x4 + 1) M
set_option maxRecDepth 100000 in
set_option maxHeartbeats 4000000 in
theorem J182_39_ev (sc : Option (Nat × (Nat → Int32))) (n : Nat)  (e : Nat) (he : 1 ≤ e) (rec5 : Int32 → Int32 → Int32 → Int32 → Mem → Option (Int32 × Mem)) (hr5 : ∀ (x1 : Int32) (x2 : Int32) (x3 : Int32) (x4 : Int32) (M : Mem) (r : Int32) (M' : Mem), rec5 x1 x2 x3 x4 M = some (r, M') → pm_ev pmT sc e 182 false (5, [some (.ref 17), some (.int x1), some (.int x2), some (.int x3), some (.int x4)], [], 129, 17845, hp M) (some (.int r), 129, 17845, hp M')) : ∀ (x1 : Int32) (x2 : Int32) (x3 : Int32) (x4 : Int32) (M : Mem) (r : Int32) (M' : Mem), J182_39 n rec5 x1 x2 x3 x4 M = some (r, M') → pm_ev pmT sc e 182 false (39, [some (.ref 17), some (.int x1), some (.int x2), some (.int x3), some (.int x4)], [], 129, 17845, hp M) (some (.int r), 129, 17845, hp M') := by
  intro x1 x2 x3 x4  M r M' h
  unfold J182_39 at h
  refine pe_blk mm_182 2 (s' := (5, [some (.ref 17), some (.int x1), some (.int x2), some (.int x3), some (.int (x4 + 1))], [], _, _, _)) rfl ?_
  exact hr5 x1 x2 x3 (x4 + 1) _ _ _ h
def J182_36 (n : Nat) (rec5 : Int32 → Int32 → Int32 → Int32 → Mem → Option (Int32 × Mem)) (x1 : Int32) (x2 : Int32) (x3 : Int32) (x4 : Int32) (M : Mem) : Option (Int32 × Mem) :=
  J182_39 n rec5 x1 x2 (x3 + 1) x4 M
set_option maxRecDepth 100000 in
set_option maxHeartbeats 4000000 in
theorem J182_36_ev (sc : Option (Nat × (Nat → Int32))) (n : Nat)  (e : Nat) (he : 1 ≤ e) (rec5 : Int32 → Int32 → Int32 → Int32 → Mem → Option (Int32 × Mem)) (hr5 : ∀ (x1 : Int32) (x2 : Int32) (x3 : Int32) (x4 : Int32) (M : Mem) (r : Int32) (M' : Mem), rec5 x1 x2 x3 x4 M = some (r, M') → pm_ev pmT sc e 182 false (5, [some (.ref 17), some (.int x1), some (.int x2), some (.int x3), some (.int x4)], [], 129, 17845, hp M) (some (.int r), 129, 17845, hp M')) : ∀ (x1 : Int32) (x2 : Int32) (x3 : Int32) (x4 : Int32) (M : Mem) (r : Int32) (M' : Mem), J182_36 n rec5 x1 x2 x3 x4 M = some (r, M') → pm_ev pmT sc e 182 false (36, [some (.ref 17), some (.int x1), some (.int x2), some (.int x3), some (.int x4)], [], 129, 17845, hp M) (some (.int r), 129, 17845, hp M') := by
  intro x1 x2 x3 x4  M r M' h
  unfold J182_36 at h
  refine pe_blk mm_182 1 (s' := (39, [some (.ref 17), some (.int x1), some (.int x2), some (.int (x3 + 1)), some (.int x4)], [], _, _, _)) rfl ?_
  exact J182_39_ev sc n e he rec5 hr5 x1 x2 (x3 + 1) x4 _ _ _ h
def L182_5 (n : Nat) : Nat → Int32 → Int32 → Int32 → Int32 → Mem → Option (Int32 × Mem)
  | 0, _, _, _, _, _ => none
  | k + 1, x1, x2, x3, x4, M => if (M.1 17 5) ≤ x4 then (some (x3, M)) else (if x4 < 0 ∨ 150 ≤ (x4 : Int32).toNatClampNeg then none else (if (M.1 18 (x4 : Int32).toNatClampNeg) = x1 then (if x4 < 0 ∨ 150 ≤ (x4 : Int32).toNatClampNeg then none else (if (M.1 19 (x4 : Int32).toNatClampNeg) = x2 then (J182_36 n (L182_5 n k) x1 x2 x3 x4 M) else (J182_39 n (L182_5 n k) x1 x2 x3 x4 M))) else (J182_39 n (L182_5 n k) x1 x2 x3 x4 M)))
set_option maxRecDepth 100000 in
set_option maxHeartbeats 4000000 in
theorem L182_5_ev (sc : Option (Nat × (Nat → Int32))) (n : Nat)  (e : Nat) (he : 1 ≤ e) : ∀ k : Nat, ∀ (x1 : Int32) (x2 : Int32) (x3 : Int32) (x4 : Int32) (M : Mem) (r : Int32) (M' : Mem), L182_5 n k x1 x2 x3 x4 M = some (r, M') → pm_ev pmT sc e 182 false (5, [some (.ref 17), some (.int x1), some (.int x2), some (.int x3), some (.int x4)], [], 129, 17845, hp M) (some (.int r), 129, 17845, hp M') := by
  intro k
  induction k with
  | zero => intro x1 x2 x3 x4  M r M' h; cases h
  | succ k hr5 =>
    intro x1 x2 x3 x4  M r M' h
    rw [L182_5] at h
    refine pe_blk mm_182 2 (s' := (8, [some (.ref 17), some (.int x1), some (.int x2), some (.int x3), some (.int x4)], [.ref 17, .int x4], _, _, _)) rfl ?_
    refine pe_get mm_182 rfl rfl rfl (by decide) rfl ?_
    by_cases q1 : (M.1 17 5) ≤ x4
    · rw [if_pos q1] at h
      refine pe_blk mm_182 1 (s' := (if (M.1 17 5) ≤ x4 then 45 else 14, [some (.ref 17), some (.int x1), some (.int x2), some (.int x3), some (.int x4)], [], _, _, _)) rfl ?_
      rw [if_pos q1]
      refine pe_blk mm_182 1 (s' := (46, [some (.ref 17), some (.int x1), some (.int x2), some (.int x3), some (.int x4)], [.int x3], _, _, _)) rfl ?_
      cases h
      exact pe_ret mm_182 rfl rfl
    · rw [if_neg q1] at h
      refine pe_blk mm_182 1 (s' := (if (M.1 17 5) ≤ x4 then 45 else 14, [some (.ref 17), some (.int x1), some (.int x2), some (.int x3), some (.int x4)], [], _, _, _)) rfl ?_
      rw [if_neg q1]
      refine pe_blk mm_182 1 (s' := (15, [some (.ref 17), some (.int x1), some (.int x2), some (.int x3), some (.int x4)], [.ref 17], _, _, _)) rfl ?_
      refine pe_get mm_182 rfl rfl rfl (by decide) rfl ?_
      refine pe_blk mm_182 1 (s' := (20, [some (.ref 17), some (.int x1), some (.int x2), some (.int x3), some (.int x4)], [.int x4, .ref 18], _, _, _)) rfl ?_
      by_cases q2 : x4 < 0 ∨ 150 ≤ (x4 : Int32).toNatClampNeg
      · rw [if_pos q2] at h
        cases h
      · rw [if_neg q2] at h
        refine pe_iald (f := M.1 18) mm_182 rfl rfl (by decide) q2 ?_
        refine pe_blk mm_182 1 (s' := (22, [some (.ref 17), some (.int x1), some (.int x2), some (.int x3), some (.int x4)], [.int x1, .int (M.1 18 (x4 : Int32).toNatClampNeg)], _, _, _)) rfl ?_
        by_cases q3 : (M.1 18 (x4 : Int32).toNatClampNeg) = x1
        · rw [if_pos q3] at h
          refine pe_blk mm_182 1 (s' := (if (M.1 18 (x4 : Int32).toNatClampNeg) = x1 then 25 else 39, [some (.ref 17), some (.int x1), some (.int x2), some (.int x3), some (.int x4)], [], _, _, _)) rfl ?_
          rw [if_pos q3]
          refine pe_blk mm_182 1 (s' := (26, [some (.ref 17), some (.int x1), some (.int x2), some (.int x3), some (.int x4)], [.ref 17], _, _, _)) rfl ?_
          refine pe_get mm_182 rfl rfl rfl (by decide) rfl ?_
          refine pe_blk mm_182 1 (s' := (31, [some (.ref 17), some (.int x1), some (.int x2), some (.int x3), some (.int x4)], [.int x4, .ref 19], _, _, _)) rfl ?_
          by_cases q4 : x4 < 0 ∨ 150 ≤ (x4 : Int32).toNatClampNeg
          · rw [if_pos q4] at h
            cases h
          · rw [if_neg q4] at h
            refine pe_iald (f := M.1 19) mm_182 rfl rfl (by decide) q4 ?_
            refine pe_blk mm_182 1 (s' := (33, [some (.ref 17), some (.int x1), some (.int x2), some (.int x3), some (.int x4)], [.int x2, .int (M.1 19 (x4 : Int32).toNatClampNeg)], _, _, _)) rfl ?_
            by_cases q5 : (M.1 19 (x4 : Int32).toNatClampNeg) = x2
            · rw [if_pos q5] at h
              refine pe_blk mm_182 1 (s' := (if (M.1 19 (x4 : Int32).toNatClampNeg) = x2 then 36 else 39, [some (.ref 17), some (.int x1), some (.int x2), some (.int x3), some (.int x4)], [], _, _, _)) rfl ?_
              rw [if_pos q5]
              exact J182_36_ev sc n e he (L182_5 n k) hr5 x1 x2 x3 x4 _ _ _ h
            · rw [if_neg q5] at h
              refine pe_blk mm_182 1 (s' := (if (M.1 19 (x4 : Int32).toNatClampNeg) = x2 then 36 else 39, [some (.ref 17), some (.int x1), some (.int x2), some (.int x3), some (.int x4)], [], _, _, _)) rfl ?_
              rw [if_neg q5]
              exact J182_39_ev sc n e he (L182_5 n k) hr5 x1 x2 x3 x4 _ _ _ h
        · rw [if_neg q3] at h
          refine pe_blk mm_182 1 (s' := (if (M.1 18 (x4 : Int32).toNatClampNeg) = x1 then 25 else 39, [some (.ref 17), some (.int x1), some (.int x2), some (.int x3), some (.int x4)], [], _, _, _)) rfl ?_
          rw [if_neg q3]
          exact J182_39_ev sc n e he (L182_5 n k) hr5 x1 x2 x3 x4 _ _ _ h
/-- ArmExpander$Takings.timesTaken -/
def F182 (n : Nat) (a0 : Int32) (a1 : Int32) (M : Mem) : Option (Int32 × Mem) :=
  L182_5 n n a0 a1 0 0 M
set_option maxRecDepth 100000 in
set_option maxHeartbeats 4000000 in
theorem F182_ev (sc : Option (Nat × (Nat → Int32))) (n : Nat) (a0 : Int32) (a1 : Int32)  (M : Mem) (e : Nat) (he : 1 ≤ e) (r : Int32) (M' : Mem) (h : F182 n a0 a1 M = some (r, M')) : pm_ev pmT sc e 182 false (0, [some (.ref 17), some (.int a0), some (.int a1), none, none], [], 129, 17845, hp M) (some (.int r), 129, 17845, hp M') := by
  unfold F182 at h
  refine pe_blk mm_182 4 (s' := (5, [some (.ref 17), some (.int a0), some (.int a1), some (.int 0), some (.int 0)], [], _, _, _)) rfl ?_
  exact L182_5_ev sc n e he n a0 a1 0 0 _ _ _ h
def J183_49 (n : Nat) (rec6 : Int32 → Int32 → Int32 → Int32 → Int32 → Mem → Option (Int32 × Mem)) (x1 : Int32) (x2 : Int32) (x3 : Int32) (x4 : Int32) (x5 : Int32) (M : Mem) : Option (Int32 × Mem) :=
  rec6 x1 x2 x3 x4 (x5 + 1) M
set_option maxRecDepth 100000 in
set_option maxHeartbeats 4000000 in
theorem J183_49_ev (sc : Option (Nat × (Nat → Int32))) (n : Nat)  (e : Nat) (he : 1 ≤ e) (rec6 : Int32 → Int32 → Int32 → Int32 → Int32 → Mem → Option (Int32 × Mem)) (hr6 : ∀ (x1 : Int32) (x2 : Int32) (x3 : Int32) (x4 : Int32) (x5 : Int32) (M : Mem) (r : Int32) (M' : Mem), rec6 x1 x2 x3 x4 x5 M = some (r, M') → pm_ev pmT sc e 183 false (6, [some (.ref 17), some (.int x1), some (.int x2), some (.int x3), some (.int x4), some (.int x5)], [], 129, 17845, hp M) (some (.int r), 129, 17845, hp M')) : ∀ (x1 : Int32) (x2 : Int32) (x3 : Int32) (x4 : Int32) (x5 : Int32) (M : Mem) (r : Int32) (M' : Mem), J183_49 n rec6 x1 x2 x3 x4 x5 M = some (r, M') → pm_ev pmT sc e 183 false (49, [some (.ref 17), some (.int x1), some (.int x2), some (.int x3), some (.int x4), some (.int x5)], [], 129, 17845, hp M) (some (.int r), 129, 17845, hp M') := by
  intro x1 x2 x3 x4 x5  M r M' h
  unfold J183_49 at h
  refine pe_blk mm_183 2 (s' := (6, [some (.ref 17), some (.int x1), some (.int x2), some (.int x3), some (.int x4), some (.int (x5 + 1))], [], _, _, _)) rfl ?_
  exact hr6 x1 x2 x3 x4 (x5 + 1) _ _ _ h
def J183_37 (n : Nat) (rec6 : Int32 → Int32 → Int32 → Int32 → Int32 → Mem → Option (Int32 × Mem)) (x1 : Int32) (x2 : Int32) (x3 : Int32) (x4 : Int32) (x5 : Int32) (M : Mem) : Option (Int32 × Mem) :=
  if x4 = x3 then (some (x5, M)) else (J183_49 n rec6 x1 x2 x3 (x4 + 1) x5 M)
set_option maxRecDepth 100000 in
set_option maxHeartbeats 4000000 in
theorem J183_37_ev (sc : Option (Nat × (Nat → Int32))) (n : Nat)  (e : Nat) (he : 1 ≤ e) (rec6 : Int32 → Int32 → Int32 → Int32 → Int32 → Mem → Option (Int32 × Mem)) (hr6 : ∀ (x1 : Int32) (x2 : Int32) (x3 : Int32) (x4 : Int32) (x5 : Int32) (M : Mem) (r : Int32) (M' : Mem), rec6 x1 x2 x3 x4 x5 M = some (r, M') → pm_ev pmT sc e 183 false (6, [some (.ref 17), some (.int x1), some (.int x2), some (.int x3), some (.int x4), some (.int x5)], [], 129, 17845, hp M) (some (.int r), 129, 17845, hp M')) : ∀ (x1 : Int32) (x2 : Int32) (x3 : Int32) (x4 : Int32) (x5 : Int32) (M : Mem) (r : Int32) (M' : Mem), J183_37 n rec6 x1 x2 x3 x4 x5 M = some (r, M') → pm_ev pmT sc e 183 false (37, [some (.ref 17), some (.int x1), some (.int x2), some (.int x3), some (.int x4), some (.int x5)], [], 129, 17845, hp M) (some (.int r), 129, 17845, hp M') := by
  intro x1 x2 x3 x4 x5  M r M' h
  unfold J183_37 at h
  refine pe_blk mm_183 2 (s' := (40, [some (.ref 17), some (.int x1), some (.int x2), some (.int x3), some (.int x4), some (.int x5)], [.int x3, .int x4], _, _, _)) rfl ?_
  by_cases q6 : x4 = x3
  · rw [if_pos q6] at h
    refine pe_blk mm_183 1 (s' := (if x4 = x3 then 43 else 46, [some (.ref 17), some (.int x1), some (.int x2), some (.int x3), some (.int x4), some (.int x5)], [], _, _, _)) rfl ?_
    rw [if_pos q6]
    refine pe_blk mm_183 1 (s' := (45, [some (.ref 17), some (.int x1), some (.int x2), some (.int x3), some (.int x4), some (.int x5)], [.int x5], _, _, _)) rfl ?_
    cases h
    exact pe_ret mm_183 rfl rfl
  · rw [if_neg q6] at h
    refine pe_blk mm_183 1 (s' := (if x4 = x3 then 43 else 46, [some (.ref 17), some (.int x1), some (.int x2), some (.int x3), some (.int x4), some (.int x5)], [], _, _, _)) rfl ?_
    rw [if_neg q6]
    refine pe_blk mm_183 1 (s' := (49, [some (.ref 17), some (.int x1), some (.int x2), some (.int x3), some (.int (x4 + 1)), some (.int x5)], [], _, _, _)) rfl ?_
    exact J183_49_ev sc n e he rec6 hr6 x1 x2 x3 (x4 + 1) x5 _ _ _ h
def L183_6 (n : Nat) : Nat → Int32 → Int32 → Int32 → Int32 → Int32 → Mem → Option (Int32 × Mem)
  | 0, _, _, _, _, _, _ => none
  | k + 1, x1, x2, x3, x4, x5, M => if (M.1 17 5) ≤ x5 then (some ((-1), M)) else (if x5 < 0 ∨ 150 ≤ (x5 : Int32).toNatClampNeg then none else (if (M.1 18 (x5 : Int32).toNatClampNeg) = x1 then (if x5 < 0 ∨ 150 ≤ (x5 : Int32).toNatClampNeg then none else (if (M.1 19 (x5 : Int32).toNatClampNeg) = x2 then (J183_37 n (L183_6 n k) x1 x2 x3 x4 x5 M) else (J183_49 n (L183_6 n k) x1 x2 x3 x4 x5 M))) else (J183_49 n (L183_6 n k) x1 x2 x3 x4 x5 M)))
set_option maxRecDepth 100000 in
set_option maxHeartbeats 4000000 in
theorem L183_6_ev (sc : Option (Nat × (Nat → Int32))) (n : Nat)  (e : Nat) (he : 1 ≤ e) : ∀ k : Nat, ∀ (x1 : Int32) (x2 : Int32) (x3 : Int32) (x4 : Int32) (x5 : Int32) (M : Mem) (r : Int32) (M' : Mem), L183_6 n k x1 x2 x3 x4 x5 M = some (r, M') → pm_ev pmT sc e 183 false (6, [some (.ref 17), some (.int x1), some (.int x2), some (.int x3), some (.int x4), some (.int x5)], [], 129, 17845, hp M) (some (.int r), 129, 17845, hp M') := by
  intro k
  induction k with
  | zero => intro x1 x2 x3 x4 x5  M r M' h; cases h
  | succ k hr6 =>
    intro x1 x2 x3 x4 x5  M r M' h
    rw [L183_6] at h
    refine pe_blk mm_183 2 (s' := (9, [some (.ref 17), some (.int x1), some (.int x2), some (.int x3), some (.int x4), some (.int x5)], [.ref 17, .int x5], _, _, _)) rfl ?_
    refine pe_get mm_183 rfl rfl rfl (by decide) rfl ?_
    by_cases q1 : (M.1 17 5) ≤ x5
    · rw [if_pos q1] at h
      refine pe_blk mm_183 1 (s' := (if (M.1 17 5) ≤ x5 then 55 else 15, [some (.ref 17), some (.int x1), some (.int x2), some (.int x3), some (.int x4), some (.int x5)], [], _, _, _)) rfl ?_
      rw [if_pos q1]
      refine pe_blk mm_183 1 (s' := (56, [some (.ref 17), some (.int x1), some (.int x2), some (.int x3), some (.int x4), some (.int x5)], [.int (-1)], _, _, _)) rfl ?_
      cases h
      exact pe_ret mm_183 rfl rfl
    · rw [if_neg q1] at h
      refine pe_blk mm_183 1 (s' := (if (M.1 17 5) ≤ x5 then 55 else 15, [some (.ref 17), some (.int x1), some (.int x2), some (.int x3), some (.int x4), some (.int x5)], [], _, _, _)) rfl ?_
      rw [if_neg q1]
      refine pe_blk mm_183 1 (s' := (16, [some (.ref 17), some (.int x1), some (.int x2), some (.int x3), some (.int x4), some (.int x5)], [.ref 17], _, _, _)) rfl ?_
      refine pe_get mm_183 rfl rfl rfl (by decide) rfl ?_
      refine pe_blk mm_183 1 (s' := (21, [some (.ref 17), some (.int x1), some (.int x2), some (.int x3), some (.int x4), some (.int x5)], [.int x5, .ref 18], _, _, _)) rfl ?_
      by_cases q2 : x5 < 0 ∨ 150 ≤ (x5 : Int32).toNatClampNeg
      · rw [if_pos q2] at h
        cases h
      · rw [if_neg q2] at h
        refine pe_iald (f := M.1 18) mm_183 rfl rfl (by decide) q2 ?_
        refine pe_blk mm_183 1 (s' := (23, [some (.ref 17), some (.int x1), some (.int x2), some (.int x3), some (.int x4), some (.int x5)], [.int x1, .int (M.1 18 (x5 : Int32).toNatClampNeg)], _, _, _)) rfl ?_
        by_cases q3 : (M.1 18 (x5 : Int32).toNatClampNeg) = x1
        · rw [if_pos q3] at h
          refine pe_blk mm_183 1 (s' := (if (M.1 18 (x5 : Int32).toNatClampNeg) = x1 then 26 else 49, [some (.ref 17), some (.int x1), some (.int x2), some (.int x3), some (.int x4), some (.int x5)], [], _, _, _)) rfl ?_
          rw [if_pos q3]
          refine pe_blk mm_183 1 (s' := (27, [some (.ref 17), some (.int x1), some (.int x2), some (.int x3), some (.int x4), some (.int x5)], [.ref 17], _, _, _)) rfl ?_
          refine pe_get mm_183 rfl rfl rfl (by decide) rfl ?_
          refine pe_blk mm_183 1 (s' := (32, [some (.ref 17), some (.int x1), some (.int x2), some (.int x3), some (.int x4), some (.int x5)], [.int x5, .ref 19], _, _, _)) rfl ?_
          by_cases q4 : x5 < 0 ∨ 150 ≤ (x5 : Int32).toNatClampNeg
          · rw [if_pos q4] at h
            cases h
          · rw [if_neg q4] at h
            refine pe_iald (f := M.1 19) mm_183 rfl rfl (by decide) q4 ?_
            refine pe_blk mm_183 1 (s' := (34, [some (.ref 17), some (.int x1), some (.int x2), some (.int x3), some (.int x4), some (.int x5)], [.int x2, .int (M.1 19 (x5 : Int32).toNatClampNeg)], _, _, _)) rfl ?_
            by_cases q5 : (M.1 19 (x5 : Int32).toNatClampNeg) = x2
            · rw [if_pos q5] at h
              refine pe_blk mm_183 1 (s' := (if (M.1 19 (x5 : Int32).toNatClampNeg) = x2 then 37 else 49, [some (.ref 17), some (.int x1), some (.int x2), some (.int x3), some (.int x4), some (.int x5)], [], _, _, _)) rfl ?_
              rw [if_pos q5]
              exact J183_37_ev sc n e he (L183_6 n k) hr6 x1 x2 x3 x4 x5 _ _ _ h
            · rw [if_neg q5] at h
              refine pe_blk mm_183 1 (s' := (if (M.1 19 (x5 : Int32).toNatClampNeg) = x2 then 37 else 49, [some (.ref 17), some (.int x1), some (.int x2), some (.int x3), some (.int x4), some (.int x5)], [], _, _, _)) rfl ?_
              rw [if_neg q5]
              exact J183_49_ev sc n e he (L183_6 n k) hr6 x1 x2 x3 x4 x5 _ _ _ h
        · rw [if_neg q3] at h
          refine pe_blk mm_183 1 (s' := (if (M.1 18 (x5 : Int32).toNatClampNeg) = x1 then 26 else 49, [some (.ref 17), some (.int x1), some (.int x2), some (.int x3), some (.int x4), some (.int x5)], [], _, _, _)) rfl ?_
          rw [if_neg q3]
          exact J183_49_ev sc n e he (L183_6 n k) hr6 x1 x2 x3 x4 x5 _ _ _ h
/-- ArmExpander$Takings.find -/
def F183 (n : Nat) (a0 : Int32) (a1 : Int32) (a2 : Int32) (M : Mem) : Option (Int32 × Mem) :=
  L183_6 n n a0 a1 a2 0 0 M
set_option maxRecDepth 100000 in
set_option maxHeartbeats 4000000 in
theorem F183_ev (sc : Option (Nat × (Nat → Int32))) (n : Nat) (a0 : Int32) (a1 : Int32) (a2 : Int32)  (M : Mem) (e : Nat) (he : 1 ≤ e) (r : Int32) (M' : Mem) (h : F183 n a0 a1 a2 M = some (r, M')) : pm_ev pmT sc e 183 false (0, [some (.ref 17), some (.int a0), some (.int a1), some (.int a2), none, none], [], 129, 17845, hp M) (some (.int r), 129, 17845, hp M') := by
  unfold F183 at h
  refine pe_blk mm_183 4 (s' := (6, [some (.ref 17), some (.int a0), some (.int a1), some (.int a2), some (.int 0), some (.int 0)], [], _, _, _)) rfl ?_
  exact L183_6_ev sc n e he n a0 a1 a2 0 0 _ _ _ h
def J184_22 (n : Nat) (s0 : Int32) (M : Mem) : Option (Int32 × Mem) :=
  some (s0, M)
set_option maxRecDepth 100000 in
set_option maxHeartbeats 4000000 in
theorem J184_22_ev (sc : Option (Nat × (Nat → Int32))) (n : Nat)  (e : Nat) (he : 1 ≤ e) : ∀ (s0 : Int32) (u0 : Option Value) (u1 : Option Value) (M : Mem) (r : Int32) (M' : Mem), J184_22 n s0 M = some (r, M') → pm_ev pmT sc e 184 false (22, [u0, u1], [.int s0], 129, 17845, hp M) (some (.int r), 129, 17845, hp M') := by
  intro s0 u0 u1 M r M' h
  unfold J184_22 at h
  cases h
  exact pe_ret mm_184 rfl rfl
def J184_21 (n : Nat) (M : Mem) : Option (Int32 × Mem) :=
  J184_22 n 0 M
set_option maxRecDepth 100000 in
set_option maxHeartbeats 4000000 in
theorem J184_21_ev (sc : Option (Nat × (Nat → Int32))) (n : Nat)  (e : Nat) (he : 1 ≤ e) : ∀ (u0 : Option Value) (u1 : Option Value) (M : Mem) (r : Int32) (M' : Mem), J184_21 n  M = some (r, M') → pm_ev pmT sc e 184 false (21, [u0, u1], [], 129, 17845, hp M) (some (.int r), 129, 17845, hp M') := by
  intro u0 u1 M r M' h
  unfold J184_21 at h
  refine pe_blk mm_184 1 (s' := (22, [u0, u1], [.int 0], _, _, _)) rfl ?_
  exact J184_22_ev sc n e he 0 _ _ _ _ _ h
/-- ArmExpander$Takings.fromOf -/
def F184 (n : Nat) (a0 : Int32) (M : Mem) : Option (Int32 × Mem) :=
  if a0 < 0 then (J184_21 n M) else (if (M.1 17 5) ≤ a0 then (J184_21 n M) else (if a0 < 0 ∨ 150 ≤ (a0 : Int32).toNatClampNeg then none else (J184_22 n (M.1 20 (a0 : Int32).toNatClampNeg) M)))
set_option maxRecDepth 100000 in
set_option maxHeartbeats 4000000 in
theorem F184_ev (sc : Option (Nat × (Nat → Int32))) (n : Nat) (a0 : Int32)  (M : Mem) (e : Nat) (he : 1 ≤ e) (r : Int32) (M' : Mem) (h : F184 n a0 M = some (r, M')) : pm_ev pmT sc e 184 false (0, [some (.ref 17), some (.int a0)], [], 129, 17845, hp M) (some (.int r), 129, 17845, hp M') := by
  unfold F184 at h
  refine pe_blk mm_184 1 (s' := (1, [some (.ref 17), some (.int a0)], [.int a0], _, _, _)) rfl ?_
  by_cases q1 : a0 < 0
  · rw [if_pos q1] at h
    refine pe_blk mm_184 1 (s' := (if a0 < 0 then 21 else 4, [some (.ref 17), some (.int a0)], [], _, _, _)) rfl ?_
    rw [if_pos q1]
    exact J184_21_ev sc n e he _ _ _ _ _ h
  · rw [if_neg q1] at h
    refine pe_blk mm_184 1 (s' := (if a0 < 0 then 21 else 4, [some (.ref 17), some (.int a0)], [], _, _, _)) rfl ?_
    rw [if_neg q1]
    refine pe_blk mm_184 2 (s' := (6, [some (.ref 17), some (.int a0)], [.ref 17, .int a0], _, _, _)) rfl ?_
    refine pe_get mm_184 rfl rfl rfl (by decide) rfl ?_
    by_cases q2 : (M.1 17 5) ≤ a0
    · rw [if_pos q2] at h
      refine pe_blk mm_184 1 (s' := (if (M.1 17 5) ≤ a0 then 21 else 12, [some (.ref 17), some (.int a0)], [], _, _, _)) rfl ?_
      rw [if_pos q2]
      exact J184_21_ev sc n e he _ _ _ _ _ h
    · rw [if_neg q2] at h
      refine pe_blk mm_184 1 (s' := (if (M.1 17 5) ≤ a0 then 21 else 12, [some (.ref 17), some (.int a0)], [], _, _, _)) rfl ?_
      rw [if_neg q2]
      refine pe_blk mm_184 1 (s' := (13, [some (.ref 17), some (.int a0)], [.ref 17], _, _, _)) rfl ?_
      refine pe_get mm_184 rfl rfl rfl (by decide) rfl ?_
      refine pe_blk mm_184 1 (s' := (17, [some (.ref 17), some (.int a0)], [.int a0, .ref 20], _, _, _)) rfl ?_
      by_cases q3 : a0 < 0 ∨ 150 ≤ (a0 : Int32).toNatClampNeg
      · rw [if_pos q3] at h
        cases h
      · rw [if_neg q3] at h
        refine pe_iald (f := M.1 20) mm_184 rfl rfl (by decide) q3 ?_
        refine pe_blk mm_184 1 (s' := (22, [some (.ref 17), some (.int a0)], [.int (M.1 20 (a0 : Int32).toNatClampNeg)], _, _, _)) rfl ?_
        exact J184_22_ev sc n e he (M.1 20 (a0 : Int32).toNatClampNeg) _ _ _ _ _ h
def J185_22 (n : Nat) (s0 : Int32) (M : Mem) : Option (Int32 × Mem) :=
  some (s0, M)
set_option maxRecDepth 100000 in
set_option maxHeartbeats 4000000 in
theorem J185_22_ev (sc : Option (Nat × (Nat → Int32))) (n : Nat)  (e : Nat) (he : 1 ≤ e) : ∀ (s0 : Int32) (u0 : Option Value) (u1 : Option Value) (M : Mem) (r : Int32) (M' : Mem), J185_22 n s0 M = some (r, M') → pm_ev pmT sc e 185 false (22, [u0, u1], [.int s0], 129, 17845, hp M) (some (.int r), 129, 17845, hp M') := by
  intro s0 u0 u1 M r M' h
  unfold J185_22 at h
  cases h
  exact pe_ret mm_185 rfl rfl
def J185_21 (n : Nat) (M : Mem) : Option (Int32 × Mem) :=
  J185_22 n 0 M
set_option maxRecDepth 100000 in
set_option maxHeartbeats 4000000 in
theorem J185_21_ev (sc : Option (Nat × (Nat → Int32))) (n : Nat)  (e : Nat) (he : 1 ≤ e) : ∀ (u0 : Option Value) (u1 : Option Value) (M : Mem) (r : Int32) (M' : Mem), J185_21 n  M = some (r, M') → pm_ev pmT sc e 185 false (21, [u0, u1], [], 129, 17845, hp M) (some (.int r), 129, 17845, hp M') := by
  intro u0 u1 M r M' h
  unfold J185_21 at h
  refine pe_blk mm_185 1 (s' := (22, [u0, u1], [.int 0], _, _, _)) rfl ?_
  exact J185_22_ev sc n e he 0 _ _ _ _ _ h
/-- ArmExpander$Takings.toOf -/
def F185 (n : Nat) (a0 : Int32) (M : Mem) : Option (Int32 × Mem) :=
  if a0 < 0 then (J185_21 n M) else (if (M.1 17 5) ≤ a0 then (J185_21 n M) else (if a0 < 0 ∨ 150 ≤ (a0 : Int32).toNatClampNeg then none else (J185_22 n (M.1 21 (a0 : Int32).toNatClampNeg) M)))
set_option maxRecDepth 100000 in
set_option maxHeartbeats 4000000 in
theorem F185_ev (sc : Option (Nat × (Nat → Int32))) (n : Nat) (a0 : Int32)  (M : Mem) (e : Nat) (he : 1 ≤ e) (r : Int32) (M' : Mem) (h : F185 n a0 M = some (r, M')) : pm_ev pmT sc e 185 false (0, [some (.ref 17), some (.int a0)], [], 129, 17845, hp M) (some (.int r), 129, 17845, hp M') := by
  unfold F185 at h
  refine pe_blk mm_185 1 (s' := (1, [some (.ref 17), some (.int a0)], [.int a0], _, _, _)) rfl ?_
  by_cases q1 : a0 < 0
  · rw [if_pos q1] at h
    refine pe_blk mm_185 1 (s' := (if a0 < 0 then 21 else 4, [some (.ref 17), some (.int a0)], [], _, _, _)) rfl ?_
    rw [if_pos q1]
    exact J185_21_ev sc n e he _ _ _ _ _ h
  · rw [if_neg q1] at h
    refine pe_blk mm_185 1 (s' := (if a0 < 0 then 21 else 4, [some (.ref 17), some (.int a0)], [], _, _, _)) rfl ?_
    rw [if_neg q1]
    refine pe_blk mm_185 2 (s' := (6, [some (.ref 17), some (.int a0)], [.ref 17, .int a0], _, _, _)) rfl ?_
    refine pe_get mm_185 rfl rfl rfl (by decide) rfl ?_
    by_cases q2 : (M.1 17 5) ≤ a0
    · rw [if_pos q2] at h
      refine pe_blk mm_185 1 (s' := (if (M.1 17 5) ≤ a0 then 21 else 12, [some (.ref 17), some (.int a0)], [], _, _, _)) rfl ?_
      rw [if_pos q2]
      exact J185_21_ev sc n e he _ _ _ _ _ h
    · rw [if_neg q2] at h
      refine pe_blk mm_185 1 (s' := (if (M.1 17 5) ≤ a0 then 21 else 12, [some (.ref 17), some (.int a0)], [], _, _, _)) rfl ?_
      rw [if_neg q2]
      refine pe_blk mm_185 1 (s' := (13, [some (.ref 17), some (.int a0)], [.ref 17], _, _, _)) rfl ?_
      refine pe_get mm_185 rfl rfl rfl (by decide) rfl ?_
      refine pe_blk mm_185 1 (s' := (17, [some (.ref 17), some (.int a0)], [.int a0, .ref 21], _, _, _)) rfl ?_
      by_cases q3 : a0 < 0 ∨ 150 ≤ (a0 : Int32).toNatClampNeg
      · rw [if_pos q3] at h
        cases h
      · rw [if_neg q3] at h
        refine pe_iald (f := M.1 21) mm_185 rfl rfl (by decide) q3 ?_
        refine pe_blk mm_185 1 (s' := (22, [some (.ref 17), some (.int a0)], [.int (M.1 21 (a0 : Int32).toNatClampNeg)], _, _, _)) rfl ?_
        exact J185_22_ev sc n e he (M.1 21 (a0 : Int32).toNatClampNeg) _ _ _ _ _ h
def J188_20 (n : Nat) (b : Nat) (s0 : Int32) (M : Mem) : Option (Int32 × Mem) :=
  some (s0, M)
set_option maxRecDepth 100000 in
set_option maxHeartbeats 4000000 in
theorem J188_20_ev (sc : Option (Nat × (Nat → Int32))) (n : Nat) (b : Nat) (hb : isT b) (e : Nat) (he : 1 ≤ e) : ∀ (s0 : Int32) (u0 : Option Value) (u1 : Option Value) (M : Mem) (r : Int32) (M' : Mem), J188_20 n b s0 M = some (r, M') → pm_ev pmT sc e 188 false (20, [u0, u1], [.int s0], 129, 17845, hp M) (some (.int r), 129, 17845, hp M') := by
  intro s0 u0 u1 M r M' h
  unfold J188_20 at h
  cases h
  exact pe_ret mm_188 rfl rfl
def J188_19 (n : Nat) (b : Nat) (M : Mem) : Option (Int32 × Mem) :=
  J188_20 n b 0 M
set_option maxRecDepth 100000 in
set_option maxHeartbeats 4000000 in
theorem J188_19_ev (sc : Option (Nat × (Nat → Int32))) (n : Nat) (b : Nat) (hb : isT b) (e : Nat) (he : 1 ≤ e) : ∀ (u0 : Option Value) (u1 : Option Value) (M : Mem) (r : Int32) (M' : Mem), J188_19 n b  M = some (r, M') → pm_ev pmT sc e 188 false (19, [u0, u1], [], 129, 17845, hp M) (some (.int r), 129, 17845, hp M') := by
  intro u0 u1 M r M' h
  unfold J188_19 at h
  refine pe_blk mm_188 1 (s' := (20, [u0, u1], [.int 0], _, _, _)) rfl ?_
  exact J188_20_ev sc n b hb e he 0 _ _ _ _ _ h
/-- ArmExpander$Threads.manyAt -/
def F188 (n : Nat) (b : Nat) (a0 : Int32) (M : Mem) : Option (Int32 × Mem) :=
  if a0 < 0 then (J188_19 n b M) else (if 120 ≤ a0 then (J188_19 n b M) else (if a0 < 0 ∨ 120 ≤ (a0 : Int32).toNatClampNeg then none else (J188_20 n b (M.1 (b + 1) (a0 : Int32).toNatClampNeg) M)))
set_option maxRecDepth 100000 in
set_option maxHeartbeats 4000000 in
theorem F188_ev (sc : Option (Nat × (Nat → Int32))) (n : Nat) (b : Nat) (a0 : Int32) (hb : isT b) (M : Mem) (e : Nat) (he : 1 ≤ e) (r : Int32) (M' : Mem) (h : F188 n b a0 M = some (r, M')) : pm_ev pmT sc e 188 false (0, [some (.ref b), some (.int a0)], [], 129, 17845, hp M) (some (.int r), 129, 17845, hp M') := by
  unfold F188 at h
  refine pe_blk mm_188 1 (s' := (1, [some (.ref b), some (.int a0)], [.int a0], _, _, _)) rfl ?_
  by_cases q1 : a0 < 0
  · rw [if_pos q1] at h
    refine pe_blk mm_188 1 (s' := (if a0 < 0 then 19 else 4, [some (.ref b), some (.int a0)], [], _, _, _)) rfl ?_
    rw [if_pos q1]
    exact J188_19_ev sc n b hb e he _ _ _ _ _ h
  · rw [if_neg q1] at h
    refine pe_blk mm_188 1 (s' := (if a0 < 0 then 19 else 4, [some (.ref b), some (.int a0)], [], _, _, _)) rfl ?_
    rw [if_neg q1]
    refine pe_blk mm_188 2 (s' := (7, [some (.ref b), some (.int a0)], [.int 120, .int a0], _, _, _)) rfl ?_
    by_cases q2 : 120 ≤ a0
    · rw [if_pos q2] at h
      refine pe_blk mm_188 1 (s' := (if 120 ≤ a0 then 19 else 10, [some (.ref b), some (.int a0)], [], _, _, _)) rfl ?_
      rw [if_pos q2]
      exact J188_19_ev sc n b hb e he _ _ _ _ _ h
    · rw [if_neg q2] at h
      refine pe_blk mm_188 1 (s' := (if 120 ≤ a0 then 19 else 10, [some (.ref b), some (.int a0)], [], _, _, _)) rfl ?_
      rw [if_neg q2]
      refine pe_blk mm_188 1 (s' := (11, [some (.ref b), some (.int a0)], [.ref b], _, _, _)) rfl ?_
      refine pe_get mm_188 rfl rfl (isT_0 hb _) (by have := isT_lt hb; omega) rfl ?_
      refine pe_blk mm_188 1 (s' := (15, [some (.ref b), some (.int a0)], [.int a0, .ref (b + 1)], _, _, _)) rfl ?_
      by_cases q3 : a0 < 0 ∨ 120 ≤ (a0 : Int32).toNatClampNeg
      · rw [if_pos q3] at h
        cases h
      · rw [if_neg q3] at h
        refine pe_iald (f := M.1 (b + 1)) mm_188 rfl (isT_1 hb _) (by have := isT_lt hb; omega) q3 ?_
        refine pe_blk mm_188 1 (s' := (20, [some (.ref b), some (.int a0)], [.int (M.1 (b + 1) (a0 : Int32).toNatClampNeg)], _, _, _)) rfl ?_
        exact J188_20_ev sc n b hb e he (M.1 (b + 1) (a0 : Int32).toNatClampNeg) _ _ _ _ _ h
def J189_19 (n : Nat) (b : Nat) (M : Mem) : Option (Int32 × Mem) :=
  some (0, M)
set_option maxRecDepth 100000 in
set_option maxHeartbeats 4000000 in
theorem J189_19_ev (sc : Option (Nat × (Nat → Int32))) (n : Nat) (b : Nat) (hb : isT b) (e : Nat) (he : 1 ≤ e) : ∀ (u0 : Option Value) (u1 : Option Value) (u2 : Option Value) (M : Mem) (r : Int32) (M' : Mem), J189_19 n b  M = some (r, M') → pm_ev pmT sc e 189 false (19, [u0, u1, u2], [], 129, 17845, hp M) (some (.int r), 129, 17845, hp M') := by
  intro u0 u1 u2 M r M' h
  unfold J189_19 at h
  refine pe_blk mm_189 1 (s' := (20, [u0, u1, u2], [.int 0], _, _, _)) rfl ?_
  cases h
  exact pe_ret mm_189 rfl rfl
/-- ArmExpander$Threads.roundsAt -/
def F189 (n : Nat) (b : Nat) (a0 : Int32) (a1 : Int32) (M : Mem) : Option (Int32 × Mem) :=
  if a0 < 0 then (J189_19 n b M) else (if 120 ≤ a0 then (J189_19 n b M) else (if a1 < 0 then (J189_19 n b M) else (if a1 < 4 then (if ((a0 * 4) + a1) < 0 ∨ 480 ≤ ((a0 * 4) + a1 : Int32).toNatClampNeg then none else (some (M.1 (b + 2) ((a0 * 4) + a1 : Int32).toNatClampNeg, M))) else (J189_19 n b M))))
set_option maxRecDepth 100000 in
set_option maxHeartbeats 4000000 in
theorem F189_ev (sc : Option (Nat × (Nat → Int32))) (n : Nat) (b : Nat) (a0 : Int32) (a1 : Int32) (hb : isT b) (M : Mem) (e : Nat) (he : 1 ≤ e) (r : Int32) (M' : Mem) (h : F189 n b a0 a1 M = some (r, M')) : pm_ev pmT sc e 189 false (0, [some (.ref b), some (.int a0), some (.int a1)], [], 129, 17845, hp M) (some (.int r), 129, 17845, hp M') := by
  unfold F189 at h
  refine pe_blk mm_189 1 (s' := (1, [some (.ref b), some (.int a0), some (.int a1)], [.int a0], _, _, _)) rfl ?_
  by_cases q1 : a0 < 0
  · rw [if_pos q1] at h
    refine pe_blk mm_189 1 (s' := (if a0 < 0 then 19 else 4, [some (.ref b), some (.int a0), some (.int a1)], [], _, _, _)) rfl ?_
    rw [if_pos q1]
    exact J189_19_ev sc n b hb e he _ _ _ _ _ _ h
  · rw [if_neg q1] at h
    refine pe_blk mm_189 1 (s' := (if a0 < 0 then 19 else 4, [some (.ref b), some (.int a0), some (.int a1)], [], _, _, _)) rfl ?_
    rw [if_neg q1]
    refine pe_blk mm_189 2 (s' := (7, [some (.ref b), some (.int a0), some (.int a1)], [.int 120, .int a0], _, _, _)) rfl ?_
    by_cases q2 : 120 ≤ a0
    · rw [if_pos q2] at h
      refine pe_blk mm_189 1 (s' := (if 120 ≤ a0 then 19 else 10, [some (.ref b), some (.int a0), some (.int a1)], [], _, _, _)) rfl ?_
      rw [if_pos q2]
      exact J189_19_ev sc n b hb e he _ _ _ _ _ _ h
    · rw [if_neg q2] at h
      refine pe_blk mm_189 1 (s' := (if 120 ≤ a0 then 19 else 10, [some (.ref b), some (.int a0), some (.int a1)], [], _, _, _)) rfl ?_
      rw [if_neg q2]
      refine pe_blk mm_189 1 (s' := (11, [some (.ref b), some (.int a0), some (.int a1)], [.int a1], _, _, _)) rfl ?_
      by_cases q3 : a1 < 0
      · rw [if_pos q3] at h
        refine pe_blk mm_189 1 (s' := (if a1 < 0 then 19 else 14, [some (.ref b), some (.int a0), some (.int a1)], [], _, _, _)) rfl ?_
        rw [if_pos q3]
        exact J189_19_ev sc n b hb e he _ _ _ _ _ _ h
      · rw [if_neg q3] at h
        refine pe_blk mm_189 1 (s' := (if a1 < 0 then 19 else 14, [some (.ref b), some (.int a0), some (.int a1)], [], _, _, _)) rfl ?_
        rw [if_neg q3]
        refine pe_blk mm_189 2 (s' := (16, [some (.ref b), some (.int a0), some (.int a1)], [.int 4, .int a1], _, _, _)) rfl ?_
        by_cases q4 : a1 < 4
        · rw [if_pos q4] at h
          refine pe_blk mm_189 1 (s' := (if a1 < 4 then 21 else 19, [some (.ref b), some (.int a0), some (.int a1)], [], _, _, _)) rfl ?_
          rw [if_pos q4]
          refine pe_blk mm_189 1 (s' := (22, [some (.ref b), some (.int a0), some (.int a1)], [.ref b], _, _, _)) rfl ?_
          refine pe_get mm_189 rfl rfl (isT_0 hb _) (by have := isT_lt hb; omega) rfl ?_
          refine pe_blk mm_189 5 (s' := (30, [some (.ref b), some (.int a0), some (.int a1)], [.int ((a0 * 4) + a1), .ref (b + 2)], _, _, _)) rfl ?_
          by_cases q5 : ((a0 * 4) + a1) < 0 ∨ 480 ≤ ((a0 * 4) + a1 : Int32).toNatClampNeg
          · rw [if_pos q5] at h
            cases h
          · rw [if_neg q5] at h
            refine pe_iald (f := M.1 (b + 2)) mm_189 rfl (isT_2 hb _) (by have := isT_lt hb; omega) q5 ?_
            cases h
            exact pe_ret mm_189 rfl rfl
        · rw [if_neg q4] at h
          refine pe_blk mm_189 1 (s' := (if a1 < 4 then 21 else 19, [some (.ref b), some (.int a0), some (.int a1)], [], _, _, _)) rfl ?_
          rw [if_neg q4]
          exact J189_19_ev sc n b hb e he _ _ _ _ _ _ h
def J191_19 (n : Nat) (b : Nat) (g0 : Nat) (rec2 : Int32 → Int32 → Mem → Option (Unit × Mem)) (x2 : Int32) (x3 : Int32) (M : Mem) : Option (Unit × Mem) :=
  rec2 x2 (x3 + 1) M
set_option maxRecDepth 100000 in
set_option maxHeartbeats 4000000 in
theorem J191_19_ev (sc : Option (Nat × (Nat → Int32))) (n : Nat) (b : Nat) (g0 : Nat) (hb : isT b) (hg0 : isT g0) (e : Nat) (he : 2 ≤ e) (rec2 : Int32 → Int32 → Mem → Option (Unit × Mem)) (hr2 : ∀ (x2 : Int32) (x3 : Int32) (M : Mem) (r : Unit) (M' : Mem), rec2 x2 x3 M = some (r, M') → pm_ev pmT sc e 191 false (2, [some (.ref b), some (.ref g0), some (.int x2), some (.int x3)], [], 129, 17845, hp M) (none, 129, 17845, hp M')) : ∀ (x2 : Int32) (x3 : Int32) (M : Mem) (r : Unit) (M' : Mem), J191_19 n b g0 rec2 x2 x3 M = some (r, M') → pm_ev pmT sc e 191 false (19, [some (.ref b), some (.ref g0), some (.int x2), some (.int x3)], [], 129, 17845, hp M) (none, 129, 17845, hp M') := by
  intro x2 x3  M r M' h
  unfold J191_19 at h
  refine pe_blk mm_191 2 (s' := (2, [some (.ref b), some (.ref g0), some (.int x2), some (.int (x3 + 1))], [], _, _, _)) rfl ?_
  exact hr2 x2 (x3 + 1) _ _ _ h
def L191_2 (n : Nat) (b : Nat) (g0 : Nat) : Nat → Int32 → Int32 → Mem → Option (Unit × Mem)
  | 0, _, _, _ => none
  | k + 1, x2, x3, M => if 4 ≤ x3 then (match F188 n g0 x2 M with | some (v2, M3) => (mlet (m_i M3 b 3 v2) (fun M5 => some ((), M5))) | none => none) else (match F189 n g0 x2 x3 M with | some (v6, M7) => (if x3 < 0 ∨ 4 ≤ (x3 : Int32).toNatClampNeg then none else (mlet (m_i M7 (b + 3) (x3 : Int32).toNatClampNeg v6) (fun M10 => J191_19 n b g0 (L191_2 n b g0 k) x2 x3 M10))) | none => none)
set_option maxRecDepth 100000 in
set_option maxHeartbeats 4000000 in
theorem L191_2_ev (sc : Option (Nat × (Nat → Int32))) (n : Nat) (b : Nat) (g0 : Nat) (hb : isT b) (hg0 : isT g0) (e : Nat) (he : 2 ≤ e) : ∀ k : Nat, ∀ (x2 : Int32) (x3 : Int32) (M : Mem) (r : Unit) (M' : Mem), L191_2 n b g0 k x2 x3 M = some (r, M') → pm_ev pmT sc e 191 false (2, [some (.ref b), some (.ref g0), some (.int x2), some (.int x3)], [], 129, 17845, hp M) (none, 129, 17845, hp M') := by
  intro k
  induction k with
  | zero => intro x2 x3  M r M' h; cases h
  | succ k hr2 =>
    intro x2 x3  M r M' h
    rw [L191_2] at h
    refine pe_blk mm_191 2 (s' := (4, [some (.ref b), some (.ref g0), some (.int x2), some (.int x3)], [.int 4, .int x3], _, _, _)) rfl ?_
    by_cases q1 : 4 ≤ x3
    · rw [if_pos q1] at h
      refine pe_blk mm_191 1 (s' := (if 4 ≤ x3 then 25 else 7, [some (.ref b), some (.ref g0), some (.int x2), some (.int x3)], [], _, _, _)) rfl ?_
      rw [if_pos q1]
      refine pe_blk mm_191 3 (s' := (28, [some (.ref b), some (.ref g0), some (.int x2), some (.int x3)], [.int x2, .ref g0, .ref b], _, _, _)) rfl ?_
      obtain ⟨e1, rfl⟩ : ∃ e1, e = e1 + 1 := ⟨e - 1, by omega⟩
      cases hc4 : F188 n g0 x2 M with
      | none => rw [hc4] at h; cases h
      | some w =>
        obtain ⟨v2, M3⟩ := w
        rw [hc4] at h
        dsimp only at h
        refine pe_virt (al := [.int x2]) (a := g0) (L0 := [some (.ref g0), some (.int x2)]) (r1 := (some (.int v2), 129, 17845, hp M3)) mm_191 rfl rfl rfl mm_188 (isT_0 hg0 _) (by have := isT_lt hg0; omega) (by decide) rfl (Nat.le_of_ble_eq_true rfl) (Nat.le_of_ble_eq_true rfl) rfl rfl (F188_ev sc n g0 x2 hg0 _ e1 (by omega) _ _ hc4) ?_
        show pm_ev _ _ _ _ _ (31, [some (.ref b), some (.ref g0), some (.int x2), some (.int x3)], [.int v2, .ref b], _, _, _) _
        refine pe_puti mm_191 rfl rfl (isT_0 hb _) (by have := isT_lt hb; omega) (Nat.le_of_ble_eq_true rfl) rfl ((isT_0 hb _).trans (by simp [m_i, upd])) ?_
        show pm_ev _ _ _ _ _ (34, [some (.ref b), some (.ref g0), some (.int x2), some (.int x3)], [], _, _, hp (m_i M3 b 3 v2)) _
        generalize m_i M3 b 3 v2 = M5 at h ⊢
        rw [mlet] at h
        cases h
        exact pe_ret mm_191 rfl rfl
    · rw [if_neg q1] at h
      refine pe_blk mm_191 1 (s' := (if 4 ≤ x3 then 25 else 7, [some (.ref b), some (.ref g0), some (.int x2), some (.int x3)], [], _, _, _)) rfl ?_
      rw [if_neg q1]
      refine pe_blk mm_191 1 (s' := (8, [some (.ref b), some (.ref g0), some (.int x2), some (.int x3)], [.ref b], _, _, _)) rfl ?_
      refine pe_get mm_191 rfl rfl (isT_0 hb _) (by have := isT_lt hb; omega) rfl ?_
      refine pe_blk mm_191 4 (s' := (15, [some (.ref b), some (.ref g0), some (.int x2), some (.int x3)], [.int x3, .int x2, .ref g0, .int x3, .ref (b + 3)], _, _, _)) rfl ?_
      obtain ⟨e1, rfl⟩ : ∃ e1, e = e1 + 1 := ⟨e - 1, by omega⟩
      cases hc8 : F189 n g0 x2 x3 M with
      | none => rw [hc8] at h; cases h
      | some w =>
        obtain ⟨v6, M7⟩ := w
        rw [hc8] at h
        dsimp only at h
        refine pe_virt (al := [.int x3, .int x2]) (a := g0) (L0 := [some (.ref g0), some (.int x2), some (.int x3)]) (r1 := (some (.int v6), 129, 17845, hp M7)) mm_191 rfl rfl rfl mm_189 (isT_0 hg0 _) (by have := isT_lt hg0; omega) (by decide) rfl (Nat.le_of_ble_eq_true rfl) (Nat.le_of_ble_eq_true rfl) rfl rfl (F189_ev sc n g0 x2 x3 hg0 _ e1 (by omega) _ _ hc8) ?_
        show pm_ev _ _ _ _ _ (18, [some (.ref b), some (.ref g0), some (.int x2), some (.int x3)], [.int v6, .int x3, .ref (b + 3)], _, _, _) _
        by_cases q9 : x3 < 0 ∨ 4 ≤ (x3 : Int32).toNatClampNeg
        · rw [if_pos q9] at h
          cases h
        · rw [if_neg q9] at h
          refine pe_iasti mm_191 rfl (isT_3 hb _) (by have := isT_lt hb; omega) q9 ((isT_3 hb _).trans (by simp [m_i])) ?_
          show pm_ev _ _ _ _ _ (19, [some (.ref b), some (.ref g0), some (.int x2), some (.int x3)], [], _, _, hp (m_i M7 (b + 3) (x3 : Int32).toNatClampNeg v6)) _
          generalize m_i M7 (b + 3) (x3 : Int32).toNatClampNeg v6 = M10 at h ⊢
          rw [mlet] at h
          exact J191_19_ev sc n b g0 hb hg0 (e1 + 1) he (L191_2 n b g0 k) hr2 x2 x3 _ _ _ h
/-- ArmExpander$Threads.setOutFrom -/
def F191 (n : Nat) (b : Nat) (g0 : Nat) (a1 : Int32) (M : Mem) : Option (Unit × Mem) :=
  L191_2 n b g0 n a1 0 M
set_option maxRecDepth 100000 in
set_option maxHeartbeats 4000000 in
theorem F191_ev (sc : Option (Nat × (Nat → Int32))) (n : Nat) (b : Nat) (g0 : Nat) (a1 : Int32) (hb : isT b) (hg0 : isT g0) (M : Mem) (e : Nat) (he : 2 ≤ e) (r : Unit) (M' : Mem) (h : F191 n b g0 a1 M = some (r, M')) : pm_ev pmT sc e 191 false (0, [some (.ref b), some (.ref g0), some (.int a1), none], [], 129, 17845, hp M) (none, 129, 17845, hp M') := by
  unfold F191 at h
  refine pe_blk mm_191 2 (s' := (2, [some (.ref b), some (.ref g0), some (.int a1), some (.int 0)], [], _, _, _)) rfl ?_
  exact L191_2_ev sc n b g0 hb hg0 e he n a1 0 _ _ _ h
def J195_10 (n : Nat) (b : Nat) (M : Mem) : Option (Unit × Mem) :=
  some ((), M)
set_option maxRecDepth 100000 in
set_option maxHeartbeats 4000000 in
theorem J195_10_ev (sc : Option (Nat × (Nat → Int32))) (n : Nat) (b : Nat) (hb : isT b) (e : Nat) (he : 1 ≤ e) : ∀ (u0 : Option Value) (u1 : Option Value) (u2 : Option Value) (u3 : Option Value) (M : Mem) (r : Unit) (M' : Mem), J195_10 n b  M = some (r, M') → pm_ev pmT sc e 195 false (10, [u0, u1, u2, u3], [], 129, 17845, hp M) (none, 129, 17845, hp M') := by
  intro u0 u1 u2 u3 M r M' h
  unfold J195_10 at h
  cases h
  exact pe_ret mm_195 rfl rfl
def J195_62 (n : Nat) (b : Nat) (rec41 : Int32 → Int32 → Mem → Option (Unit × Mem)) (x1 : Int32) (x3 : Int32) (M : Mem) : Option (Unit × Mem) :=
  rec41 x1 (x3 + 1) M
set_option maxRecDepth 100000 in
set_option maxHeartbeats 4000000 in
theorem J195_62_ev (sc : Option (Nat × (Nat → Int32))) (n : Nat) (b : Nat) (hb : isT b) (e : Nat) (he : 1 ≤ e) (rec41 : Int32 → Int32 → Mem → Option (Unit × Mem)) (hr41 : ∀ (x1 : Int32) (x3 : Int32) (u2 : Option Value) (M : Mem) (r : Unit) (M' : Mem), rec41 x1 x3 M = some (r, M') → pm_ev pmT sc e 195 false (41, [some (.ref b), some (.int x1), u2, some (.int x3)], [], 129, 17845, hp M) (none, 129, 17845, hp M')) : ∀ (x1 : Int32) (x3 : Int32) (u2 : Option Value) (M : Mem) (r : Unit) (M' : Mem), J195_62 n b rec41 x1 x3 M = some (r, M') → pm_ev pmT sc e 195 false (62, [some (.ref b), some (.int x1), u2, some (.int x3)], [], 129, 17845, hp M) (none, 129, 17845, hp M') := by
  intro x1 x3 u2 M r M' h
  unfold J195_62 at h
  refine pe_blk mm_195 2 (s' := (41, [some (.ref b), some (.int x1), u2, some (.int (x3 + 1))], [], _, _, _)) rfl ?_
  exact hr41 x1 (x3 + 1) _ _ _ _ h
def L195_41 (n : Nat) (b : Nat) : Nat → Int32 → Int32 → Mem → Option (Unit × Mem)
  | 0, _, _, _ => none
  | k + 1, x1, x3, M => if 4 ≤ x3 then (some ((), M)) else (if x3 < 0 ∨ 4 ≤ (x3 : Int32).toNatClampNeg then none else (if ((x1 * 4) + x3) < 0 ∨ 480 ≤ ((x1 * 4) + x3 : Int32).toNatClampNeg then none else (mlet (m_i M (b + 2) ((x1 * 4) + x3 : Int32).toNatClampNeg (M.1 (b + 3) (x3 : Int32).toNatClampNeg)) (fun M10 => J195_62 n b (L195_41 n b k) x1 x3 M10))))
set_option maxRecDepth 100000 in
set_option maxHeartbeats 4000000 in
theorem L195_41_ev (sc : Option (Nat × (Nat → Int32))) (n : Nat) (b : Nat) (hb : isT b) (e : Nat) (he : 1 ≤ e) : ∀ k : Nat, ∀ (x1 : Int32) (x3 : Int32) (u2 : Option Value) (M : Mem) (r : Unit) (M' : Mem), L195_41 n b k x1 x3 M = some (r, M') → pm_ev pmT sc e 195 false (41, [some (.ref b), some (.int x1), u2, some (.int x3)], [], 129, 17845, hp M) (none, 129, 17845, hp M') := by
  intro k
  induction k with
  | zero => intro x1 x3 u2 M r M' h; cases h
  | succ k hr41 =>
    intro x1 x3 u2 M r M' h
    rw [L195_41] at h
    refine pe_blk mm_195 2 (s' := (43, [some (.ref b), some (.int x1), u2, some (.int x3)], [.int 4, .int x3], _, _, _)) rfl ?_
    by_cases q7 : 4 ≤ x3
    · rw [if_pos q7] at h
      refine pe_blk mm_195 1 (s' := (if 4 ≤ x3 then 68 else 46, [some (.ref b), some (.int x1), u2, some (.int x3)], [], _, _, _)) rfl ?_
      rw [if_pos q7]
      cases h
      exact pe_ret mm_195 rfl rfl
    · rw [if_neg q7] at h
      refine pe_blk mm_195 1 (s' := (if 4 ≤ x3 then 68 else 46, [some (.ref b), some (.int x1), u2, some (.int x3)], [], _, _, _)) rfl ?_
      rw [if_neg q7]
      refine pe_blk mm_195 1 (s' := (47, [some (.ref b), some (.int x1), u2, some (.int x3)], [.ref b], _, _, _)) rfl ?_
      refine pe_get mm_195 rfl rfl (isT_0 hb _) (by have := isT_lt hb; omega) rfl ?_
      refine pe_blk mm_195 6 (s' := (56, [some (.ref b), some (.int x1), u2, some (.int x3)], [.ref b, .int ((x1 * 4) + x3), .ref (b + 2)], _, _, _)) rfl ?_
      refine pe_get mm_195 rfl rfl (isT_0 hb _) (by have := isT_lt hb; omega) rfl ?_
      refine pe_blk mm_195 1 (s' := (60, [some (.ref b), some (.int x1), u2, some (.int x3)], [.int x3, .ref (b + 3), .int ((x1 * 4) + x3), .ref (b + 2)], _, _, _)) rfl ?_
      by_cases q8 : x3 < 0 ∨ 4 ≤ (x3 : Int32).toNatClampNeg
      · rw [if_pos q8] at h
        cases h
      · rw [if_neg q8] at h
        refine pe_iald (f := M.1 (b + 3)) mm_195 rfl (isT_3 hb _) (by have := isT_lt hb; omega) q8 ?_
        by_cases q9 : ((x1 * 4) + x3) < 0 ∨ 480 ≤ ((x1 * 4) + x3 : Int32).toNatClampNeg
        · rw [if_pos q9] at h
          cases h
        · rw [if_neg q9] at h
          refine pe_iasti mm_195 rfl (isT_2 hb _) (by have := isT_lt hb; omega) q9 ((isT_2 hb _).trans (by simp [m_i])) ?_
          show pm_ev _ _ _ _ _ (62, [some (.ref b), some (.int x1), u2, some (.int x3)], [], _, _, hp (m_i M (b + 2) ((x1 * 4) + x3 : Int32).toNatClampNeg (M.1 (b + 3) (x3 : Int32).toNatClampNeg))) _
          generalize m_i M (b + 2) ((x1 * 4) + x3 : Int32).toNatClampNeg (M.1 (b + 3) (x3 : Int32).toNatClampNeg) = M10 at h ⊢
          rw [mlet] at h
          exact J195_62_ev sc n b hb e he (L195_41 n b k) hr41 x1 x3 _ _ _ _ h
def J195_38 (n : Nat) (b : Nat) (x1 : Int32) (s0 : Int32) (s1 : Int32) (M : Mem) : Option (Unit × Mem) :=
  if s1 < 0 ∨ 120 ≤ (s1 : Int32).toNatClampNeg then none else (mlet (m_i M (b + 1) (s1 : Int32).toNatClampNeg s0) (fun M6 => L195_41 n b n x1 0 M6))
set_option maxRecDepth 100000 in
set_option maxHeartbeats 4000000 in
theorem J195_38_ev (sc : Option (Nat × (Nat → Int32))) (n : Nat) (b : Nat) (hb : isT b) (e : Nat) (he : 1 ≤ e) : ∀ (x1 : Int32) (s0 : Int32) (s1 : Int32) (u2 : Option Value) (u3 : Option Value) (M : Mem) (r : Unit) (M' : Mem), J195_38 n b x1 s0 s1 M = some (r, M') → pm_ev pmT sc e 195 false (38, [some (.ref b), some (.int x1), u2, u3], [.int s0, .int s1, .ref (b + 1)], 129, 17845, hp M) (none, 129, 17845, hp M') := by
  intro x1 s0 s1 u2 u3 M r M' h
  unfold J195_38 at h
  by_cases q5 : s1 < 0 ∨ 120 ≤ (s1 : Int32).toNatClampNeg
  · rw [if_pos q5] at h
    cases h
  · rw [if_neg q5] at h
    refine pe_iasti mm_195 rfl (isT_1 hb _) (by have := isT_lt hb; omega) q5 ((isT_1 hb _).trans (by simp [m_i])) ?_
    show pm_ev _ _ _ _ _ (39, [some (.ref b), some (.int x1), u2, u3], [], _, _, hp (m_i M (b + 1) (s1 : Int32).toNatClampNeg s0)) _
    generalize m_i M (b + 1) (s1 : Int32).toNatClampNeg s0 = M6 at h ⊢
    rw [mlet] at h
    refine pe_blk mm_195 2 (s' := (41, [some (.ref b), some (.int x1), u2, some (.int 0)], [], _, _, _)) rfl ?_
    exact L195_41_ev sc n b hb e he n x1 0 _ _ _ _ h
/-- ArmExpander$Threads.stand -/
def F195 (n : Nat) (b : Nat) (a0 : Int32) (M : Mem) : Option (Unit × Mem) :=
  if a0 < 0 then (J195_10 n b M) else (if a0 < 120 then (if a0 < 0 ∨ 120 ≤ (a0 : Int32).toNatClampNeg then none else (if 2 ≤ ((M.1 (b + 1) (a0 : Int32).toNatClampNeg) + (M.1 b 3)) then (J195_38 n b a0 2 a0 M) else (J195_38 n b a0 ((M.1 (b + 1) (a0 : Int32).toNatClampNeg) + (M.1 b 3)) a0 M))) else (J195_10 n b M))
set_option maxRecDepth 100000 in
set_option maxHeartbeats 4000000 in
theorem F195_ev (sc : Option (Nat × (Nat → Int32))) (n : Nat) (b : Nat) (a0 : Int32) (hb : isT b) (M : Mem) (e : Nat) (he : 1 ≤ e) (r : Unit) (M' : Mem) (h : F195 n b a0 M = some (r, M')) : pm_ev pmT sc e 195 false (0, [some (.ref b), some (.int a0), none, none], [], 129, 17845, hp M) (none, 129, 17845, hp M') := by
  unfold F195 at h
  refine pe_blk mm_195 1 (s' := (1, [some (.ref b), some (.int a0), none, none], [.int a0], _, _, _)) rfl ?_
  by_cases q1 : a0 < 0
  · rw [if_pos q1] at h
    refine pe_blk mm_195 1 (s' := (if a0 < 0 then 10 else 4, [some (.ref b), some (.int a0), none, none], [], _, _, _)) rfl ?_
    rw [if_pos q1]
    exact J195_10_ev sc n b hb e he _ _ _ _ _ _ _ h
  · rw [if_neg q1] at h
    refine pe_blk mm_195 1 (s' := (if a0 < 0 then 10 else 4, [some (.ref b), some (.int a0), none, none], [], _, _, _)) rfl ?_
    rw [if_neg q1]
    refine pe_blk mm_195 2 (s' := (7, [some (.ref b), some (.int a0), none, none], [.int 120, .int a0], _, _, _)) rfl ?_
    by_cases q2 : a0 < 120
    · rw [if_pos q2] at h
      refine pe_blk mm_195 1 (s' := (if a0 < 120 then 11 else 10, [some (.ref b), some (.int a0), none, none], [], _, _, _)) rfl ?_
      rw [if_pos q2]
      refine pe_blk mm_195 1 (s' := (12, [some (.ref b), some (.int a0), none, none], [.ref b], _, _, _)) rfl ?_
      refine pe_get mm_195 rfl rfl (isT_0 hb _) (by have := isT_lt hb; omega) rfl ?_
      refine pe_blk mm_195 1 (s' := (16, [some (.ref b), some (.int a0), none, none], [.int a0, .ref (b + 1)], _, _, _)) rfl ?_
      by_cases q3 : a0 < 0 ∨ 120 ≤ (a0 : Int32).toNatClampNeg
      · rw [if_pos q3] at h
        cases h
      · rw [if_neg q3] at h
        refine pe_iald (f := M.1 (b + 1)) mm_195 rfl (isT_1 hb _) (by have := isT_lt hb; omega) q3 ?_
        refine pe_blk mm_195 1 (s' := (18, [some (.ref b), some (.int a0), none, none], [.ref b, .int (M.1 (b + 1) (a0 : Int32).toNatClampNeg)], _, _, _)) rfl ?_
        refine pe_get mm_195 rfl rfl (isT_0 hb _) (by have := isT_lt hb; omega) rfl ?_
        refine pe_blk mm_195 3 (s' := (24, [some (.ref b), some (.int a0), some (.int ((M.1 (b + 1) (a0 : Int32).toNatClampNeg) + (M.1 b 3))), none], [.ref b], _, _, _)) rfl ?_
        refine pe_get mm_195 rfl rfl (isT_0 hb _) (by have := isT_lt hb; omega) rfl ?_
        refine pe_blk mm_195 3 (s' := (30, [some (.ref b), some (.int a0), some (.int ((M.1 (b + 1) (a0 : Int32).toNatClampNeg) + (M.1 b 3))), none], [.int 2, .int ((M.1 (b + 1) (a0 : Int32).toNatClampNeg) + (M.1 b 3)), .int a0, .ref (b + 1)], _, _, _)) rfl ?_
        by_cases q4 : 2 ≤ ((M.1 (b + 1) (a0 : Int32).toNatClampNeg) + (M.1 b 3))
        · rw [if_pos q4] at h
          refine pe_blk mm_195 1 (s' := (if 2 ≤ ((M.1 (b + 1) (a0 : Int32).toNatClampNeg) + (M.1 b 3)) then 37 else 33, [some (.ref b), some (.int a0), some (.int ((M.1 (b + 1) (a0 : Int32).toNatClampNeg) + (M.1 b 3))), none], [.int a0, .ref (b + 1)], _, _, _)) rfl ?_
          rw [if_pos q4]
          refine pe_blk mm_195 1 (s' := (38, [some (.ref b), some (.int a0), some (.int ((M.1 (b + 1) (a0 : Int32).toNatClampNeg) + (M.1 b 3))), none], [.int 2, .int a0, .ref (b + 1)], _, _, _)) rfl ?_
          exact J195_38_ev sc n b hb e he a0 2 a0 _ _ _ _ _ h
        · rw [if_neg q4] at h
          refine pe_blk mm_195 1 (s' := (if 2 ≤ ((M.1 (b + 1) (a0 : Int32).toNatClampNeg) + (M.1 b 3)) then 37 else 33, [some (.ref b), some (.int a0), some (.int ((M.1 (b + 1) (a0 : Int32).toNatClampNeg) + (M.1 b 3))), none], [.int a0, .ref (b + 1)], _, _, _)) rfl ?_
          rw [if_neg q4]
          refine pe_blk mm_195 2 (s' := (38, [some (.ref b), some (.int a0), some (.int ((M.1 (b + 1) (a0 : Int32).toNatClampNeg) + (M.1 b 3))), none], [.int ((M.1 (b + 1) (a0 : Int32).toNatClampNeg) + (M.1 b 3)), .int a0, .ref (b + 1)], _, _, _)) rfl ?_
          exact J195_38_ev sc n b hb e he a0 ((M.1 (b + 1) (a0 : Int32).toNatClampNeg) + (M.1 b 3)) a0 _ _ _ _ _ h
    · rw [if_neg q2] at h
      refine pe_blk mm_195 1 (s' := (if a0 < 120 then 11 else 10, [some (.ref b), some (.int a0), none, none], [], _, _, _)) rfl ?_
      rw [if_neg q2]
      exact J195_10_ev sc n b hb e he _ _ _ _ _ _ _ h
/-- ArmExpander$TypedText.clear -/
def F198 (n : Nat) (M : Mem) : Option (Unit × Mem) :=
  mlet (m_i M 1 1 0) (fun M1 => mlet (m_i M1 1 2 0) (fun M2 => mlet (m_i M2 1 3 0) (fun M3 => some ((), M3))))
set_option maxRecDepth 100000 in
set_option maxHeartbeats 4000000 in
theorem F198_ev (sc : Option (Nat × (Nat → Int32))) (n : Nat)  (M : Mem) (e : Nat) (he : 1 ≤ e) (r : Unit) (M' : Mem) (h : F198 n M = some (r, M')) : pm_ev pmT sc e 198 false (0, [some (.ref 1)], [], 129, 17845, hp M) (none, 129, 17845, hp M') := by
  unfold F198 at h
  refine pe_blk mm_198 2 (s' := (2, [some (.ref 1)], [.int 0, .ref 1], _, _, _)) rfl ?_
  refine pe_puti mm_198 rfl rfl rfl (by decide) (Nat.le_of_ble_eq_true rfl) rfl rfl ?_
  show pm_ev _ _ _ _ _ (5, [some (.ref 1)], [], _, _, hp (m_i M 1 1 0)) _
  generalize m_i M 1 1 0 = M1 at h ⊢
  rw [mlet] at h
  refine pe_blk mm_198 2 (s' := (7, [some (.ref 1)], [.int 0, .ref 1], _, _, _)) rfl ?_
  refine pe_puti mm_198 rfl rfl rfl (by decide) (Nat.le_of_ble_eq_true rfl) rfl rfl ?_
  show pm_ev _ _ _ _ _ (10, [some (.ref 1)], [], _, _, hp (m_i M1 1 2 0)) _
  generalize m_i M1 1 2 0 = M2 at h ⊢
  rw [mlet] at h
  refine pe_blk mm_198 2 (s' := (12, [some (.ref 1)], [.int 0, .ref 1], _, _, _)) rfl ?_
  refine pe_puti mm_198 rfl rfl rfl (by decide) (Nat.le_of_ble_eq_true rfl) rfl rfl ?_
  show pm_ev _ _ _ _ _ (15, [some (.ref 1)], [], _, _, hp (m_i M2 1 3 0)) _
  generalize m_i M2 1 3 0 = M3 at h ⊢
  rw [mlet] at h
  cases h
  exact pe_ret mm_198 rfl rfl
/-- ArmExpander$TypedText.length -/
def F199 (n : Nat) (M : Mem) : Option (Int32 × Mem) :=
  some (M.1 1 1, M)
set_option maxRecDepth 100000 in
set_option maxHeartbeats 4000000 in
theorem F199_ev (sc : Option (Nat × (Nat → Int32))) (n : Nat)  (M : Mem) (e : Nat) (he : 1 ≤ e) (r : Int32) (M' : Mem) (h : F199 n M = some (r, M')) : pm_ev pmT sc e 199 false (0, [some (.ref 1)], [], 129, 17845, hp M) (some (.int r), 129, 17845, hp M') := by
  unfold F199 at h
  refine pe_blk mm_199 1 (s' := (1, [some (.ref 1)], [.ref 1], _, _, _)) rfl ?_
  refine pe_get mm_199 rfl rfl rfl (by decide) rfl ?_
  cases h
  exact pe_ret mm_199 rfl rfl
/-- ArmExpander$TypedText.start -/
def F200 (n : Nat) (M : Mem) : Option (Int32 × Mem) :=
  some (M.1 1 3, M)
set_option maxRecDepth 100000 in
set_option maxHeartbeats 4000000 in
theorem F200_ev (sc : Option (Nat × (Nat → Int32))) (n : Nat)  (M : Mem) (e : Nat) (he : 1 ≤ e) (r : Int32) (M' : Mem) (h : F200 n M = some (r, M')) : pm_ev pmT sc e 200 false (0, [some (.ref 1)], [], 129, 17845, hp M) (some (.int r), 129, 17845, hp M') := by
  unfold F200 at h
  refine pe_blk mm_200 1 (s' := (1, [some (.ref 1)], [.ref 1], _, _, _)) rfl ?_
  refine pe_get mm_200 rfl rfl rfl (by decide) rfl ?_
  cases h
  exact pe_ret mm_200 rfl rfl
