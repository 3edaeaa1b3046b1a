/-! The methods as functions over Mem; written by program. -/
def J31_29 (n : Nat) (s0 : Int32) (M : Mem) : Option (Int32 × Mem) :=
  if s0 = 0 ∨ s0 = 1 then some (s0, M) else none
set_option maxRecDepth 100000 in
set_option maxHeartbeats 4000000 in
theorem J31_29_ev (sc : Option (Nat × (Nat → Int32))) (n : Nat)  (e : Nat) (he : 1 ≤ e) : ∀ (s0 : Int32) (u0 : Option Value) (u1 : Option Value) (M : Mem) (r : Int32) (M' : Mem), J31_29 n s0 M = some (r, M') → pm_ev pmT sc e 31 false (29, [u0, u1], [.int s0], 129, 17845, hp M) (some (.int r), 129, 17845, hp M') := by
  intro s0 u0 u1 M r M' h
  unfold J31_29 at h
  by_cases q2 : s0 = 0 ∨ s0 = 1
  · rw [if_pos q2] at h
    cases h
    exact pe_ret mm_31 rfl (if_pos q2)
  · rw [if_neg q2] at h
    cases h
def J31_28 (n : Nat) (M : Mem) : Option (Int32 × Mem) :=
  J31_29 n 0 M
set_option maxRecDepth 100000 in
set_option maxHeartbeats 4000000 in
theorem J31_28_ev (sc : Option (Nat × (Nat → Int32))) (n : Nat)  (e : Nat) (he : 1 ≤ e) : ∀ (u0 : Option Value) (u1 : Option Value) (M : Mem) (r : Int32) (M' : Mem), J31_28 n  M = some (r, M') → pm_ev pmT sc e 31 false (28, [u0, u1], [], 129, 17845, hp M) (some (.int r), 129, 17845, hp M') := by
  intro u0 u1 M r M' h
  unfold J31_28 at h
  refine pe_blk mm_31 1 (s' := (29, [u0, u1], [.int 0], _, _, _)) rfl ?_
  exact J31_29_ev sc n e he 0 _ _ _ _ _ h
def J31_24 (n : Nat) (M : Mem) : Option (Int32 × Mem) :=
  J31_29 n 1 M
set_option maxRecDepth 100000 in
set_option maxHeartbeats 4000000 in
theorem J31_24_ev (sc : Option (Nat × (Nat → Int32))) (n : Nat)  (e : Nat) (he : 1 ≤ e) : ∀ (u0 : Option Value) (u1 : Option Value) (M : Mem) (r : Int32) (M' : Mem), J31_24 n  M = some (r, M') → pm_ev pmT sc e 31 false (24, [u0, u1], [], 129, 17845, hp M) (some (.int r), 129, 17845, hp M') := by
  intro u0 u1 M r M' h
  unfold J31_24 at h
  refine pe_blk mm_31 2 (s' := (29, [u0, u1], [.int 1], _, _, _)) rfl ?_
  exact J31_29_ev sc n e he 1 _ _ _ _ _ h
/-- ArmExpanderModel.isCode -/
def F31 (n : Nat) (a0 : Int32) (M : Mem) : Option (Int32 × Mem) :=
  if (M.1 83 4) < 3 then (J31_28 n M) else (if 5 < (M.1 83 4) then (J31_28 n M) else (if (M.1 83 5) = a0 then (J31_24 n M) else (J31_28 n M)))
set_option maxRecDepth 100000 in
set_option maxHeartbeats 4000000 in
theorem F31_ev (sc : Option (Nat × (Nat → Int32))) (n : Nat) (a0 : Int32)  (M : Mem) (e : Nat) (he : 1 ≤ e) (r : Int32) (M' : Mem) (h : F31 n a0 M = some (r, M')) : pm_ev pmT sc e 31 false (0, [some (.ref 83), some (.int a0)], [], 129, 17845, hp M) (some (.int r), 129, 17845, hp M') := by
  unfold F31 at h
  refine pe_blk mm_31 1 (s' := (1, [some (.ref 83), some (.int a0)], [.ref 83], _, _, _)) rfl ?_
  refine pe_get mm_31 rfl rfl rfl (by decide) rfl ?_
  refine pe_blk mm_31 1 (s' := (5, [some (.ref 83), some (.int a0)], [.int 3, .int (M.1 83 4)], _, _, _)) rfl ?_
  by_cases q1 : (M.1 83 4) < 3
  · rw [if_pos q1] at h
    refine pe_blk mm_31 1 (s' := (if (M.1 83 4) < 3 then 28 else 8, [some (.ref 83), some (.int a0)], [], _, _, _)) rfl ?_
    rw [if_pos q1]
    exact J31_28_ev sc n e he _ _ _ _ _ h
  · rw [if_neg q1] at h
    refine pe_blk mm_31 1 (s' := (if (M.1 83 4) < 3 then 28 else 8, [some (.ref 83), some (.int a0)], [], _, _, _)) rfl ?_
    rw [if_neg q1]
    refine pe_blk mm_31 1 (s' := (9, [some (.ref 83), some (.int a0)], [.ref 83], _, _, _)) rfl ?_
    refine pe_get mm_31 rfl rfl rfl (by decide) rfl ?_
    refine pe_blk mm_31 1 (s' := (13, [some (.ref 83), some (.int a0)], [.int 5, .int (M.1 83 4)], _, _, _)) rfl ?_
    by_cases q3 : 5 < (M.1 83 4)
    · rw [if_pos q3] at h
      refine pe_blk mm_31 1 (s' := (if 5 < (M.1 83 4) then 28 else 16, [some (.ref 83), some (.int a0)], [], _, _, _)) rfl ?_
      rw [if_pos q3]
      exact J31_28_ev sc n e he _ _ _ _ _ h
    · rw [if_neg q3] at h
      refine pe_blk mm_31 1 (s' := (if 5 < (M.1 83 4) then 28 else 16, [some (.ref 83), some (.int a0)], [], _, _, _)) rfl ?_
      rw [if_neg q3]
      refine pe_blk mm_31 1 (s' := (17, [some (.ref 83), some (.int a0)], [.ref 83], _, _, _)) rfl ?_
      refine pe_get mm_31 rfl rfl rfl (by decide) rfl ?_
      refine pe_blk mm_31 1 (s' := (21, [some (.ref 83), some (.int a0)], [.int a0, .int (M.1 83 5)], _, _, _)) rfl ?_
      by_cases q4 : (M.1 83 5) = a0
      · rw [if_pos q4] at h
        refine pe_blk mm_31 1 (s' := (if (M.1 83 5) = a0 then 24 else 28, [some (.ref 83), some (.int a0)], [], _, _, _)) rfl ?_
        rw [if_pos q4]
        exact J31_24_ev sc n e he _ _ _ _ _ h
      · rw [if_neg q4] at h
        refine pe_blk mm_31 1 (s' := (if (M.1 83 5) = a0 then 24 else 28, [some (.ref 83), some (.int a0)], [], _, _, _)) rfl ?_
        rw [if_neg q4]
        exact J31_28_ev sc n e he _ _ _ _ _ h
def J32_46 (n : Nat) (M : Mem) : Option (Unit × Mem) :=
  mlet (m_i M 83 7 0) (fun M5 => match F28 n M5 with | some (v6, M7) => (some ((), M7)) | none => none)
set_option maxRecDepth 100000 in
set_option maxHeartbeats 4000000 in
theorem J32_46_ev (sc : Option (Nat × (Nat → Int32))) (n : Nat)  (e : Nat) (he : 4 ≤ e) : ∀ (u1 : Option Value) (M : Mem) (r : Unit) (M' : Mem), J32_46 n  M = some (r, M') → pm_ev pmT sc e 32 false (46, [some (.ref 83), u1], [], 129, 17845, hp M) (none, 129, 17845, hp M') := by
  intro u1 M r M' h
  unfold J32_46 at h
  refine pe_blk mm_32 2 (s' := (48, [some (.ref 83), u1], [.int 0, .ref 83], _, _, _)) rfl ?_
  refine pe_puti mm_32 rfl rfl rfl (by decide) (Nat.le_of_ble_eq_true rfl) rfl rfl ?_
  show pm_ev _ _ _ _ _ (51, [some (.ref 83), u1], [], _, _, hp (m_i M 83 7 0)) _
  generalize m_i M 83 7 0 = M5 at h ⊢
  rw [mlet] at h
  refine pe_blk mm_32 1 (s' := (52, [some (.ref 83), u1], [.ref 83], _, _, _)) rfl ?_
  obtain ⟨e1, rfl⟩ : ∃ e1, e = e1 + 1 := ⟨e - 1, by omega⟩
  cases hc8 : F28 n M5 with
  | none => rw [hc8] at h; cases h
  | some w =>
    obtain ⟨v6, M7⟩ := w
    rw [hc8] at h
    dsimp only at h
    refine pe_virt (al := []) (a := 83) (L0 := [some (.ref 83), none, none, none, none, none]) (r1 := (none, 129, 17845, hp M7)) mm_32 rfl rfl rfl mm_28 rfl (by decide) (by decide) rfl (Nat.le_of_ble_eq_true rfl) (Nat.le_of_ble_eq_true rfl) rfl rfl (F28_ev sc n _ e1 (by omega) _ _ hc8) ?_
    show pm_ev _ _ _ _ _ (55, [some (.ref 83), u1], [], _, _, _) _
    cases h
    exact pe_ret mm_32 rfl rfl
def J32_30 (n : Nat) (rec10 : Int32 → Mem → Option (Unit × Mem)) (x1 : Int32) (M : Mem) : Option (Unit × Mem) :=
  rec10 (x1 + 1) M
set_option maxRecDepth 100000 in
set_option maxHeartbeats 4000000 in
theorem J32_30_ev (sc : Option (Nat × (Nat → Int32))) (n : Nat)  (e : Nat) (he : 4 ≤ e) (rec10 : Int32 → Mem → Option (Unit × Mem)) (hr10 : ∀ (x1 : Int32) (M : Mem) (r : Unit) (M' : Mem), rec10 x1 M = some (r, M') → pm_ev pmT sc e 32 false (10, [some (.ref 83), some (.int x1)], [], 129, 17845, hp M) (none, 129, 17845, hp M')) : ∀ (x1 : Int32) (M : Mem) (r : Unit) (M' : Mem), J32_30 n rec10 x1 M = some (r, M') → pm_ev pmT sc e 32 false (30, [some (.ref 83), some (.int x1)], [], 129, 17845, hp M) (none, 129, 17845, hp M') := by
  intro x1  M r M' h
  unfold J32_30 at h
  refine pe_blk mm_32 2 (s' := (10, [some (.ref 83), some (.int (x1 + 1))], [], _, _, _)) rfl ?_
  exact hr10 (x1 + 1) _ _ _ h
def L32_10 (n : Nat) : Nat → Int32 → Mem → Option (Unit × Mem)
  | 0, _, _ => none
  | k + 1, x1, M => if (M.1 83 1) ≤ x1 then (mlet (m_i M 83 1 0) (fun M3 => mlet (m_i M3 83 8 (-1)) (fun M4 => J32_46 n M4))) else (if x1 < 0 ∨ 120 ≤ (x1 : Int32).toNatClampNeg then none else (if x1 < 0 ∨ 120 ≤ (x1 : Int32).toNatClampNeg then none else (mlet (m_i M 85 (x1 : Int32).toNatClampNeg (M.1 84 (x1 : Int32).toNatClampNeg)) (fun M11 => J32_30 n (L32_10 n k) x1 M11))))
set_option maxRecDepth 100000 in
set_option maxHeartbeats 4000000 in
theorem L32_10_ev (sc : Option (Nat × (Nat → Int32))) (n : Nat)  (e : Nat) (he : 4 ≤ e) : ∀ k : Nat, ∀ (x1 : Int32) (M : Mem) (r : Unit) (M' : Mem), L32_10 n k x1 M = some (r, M') → pm_ev pmT sc e 32 false (10, [some (.ref 83), some (.int x1)], [], 129, 17845, hp M) (none, 129, 17845, hp M') := by
  intro k
  induction k with
  | zero => intro x1  M r M' h; cases h
  | succ k hr10 =>
    intro x1  M r M' h
    rw [L32_10] at h
    refine pe_blk mm_32 2 (s' := (12, [some (.ref 83), some (.int x1)], [.ref 83, .int x1], _, _, _)) rfl ?_
    refine pe_get mm_32 rfl rfl rfl (by decide) rfl ?_
    by_cases q2 : (M.1 83 1) ≤ x1
    · rw [if_pos q2] at h
      refine pe_blk mm_32 1 (s' := (if (M.1 83 1) ≤ x1 then 36 else 18, [some (.ref 83), some (.int x1)], [], _, _, _)) rfl ?_
      rw [if_pos q2]
      refine pe_blk mm_32 2 (s' := (38, [some (.ref 83), some (.int x1)], [.int 0, .ref 83], _, _, _)) rfl ?_
      refine pe_puti mm_32 rfl rfl rfl (by decide) (Nat.le_of_ble_eq_true rfl) rfl rfl ?_
      show pm_ev _ _ _ _ _ (41, [some (.ref 83), some (.int x1)], [], _, _, hp (m_i M 83 1 0)) _
      generalize m_i M 83 1 0 = M3 at h ⊢
      rw [mlet] at h
      refine pe_blk mm_32 2 (s' := (43, [some (.ref 83), some (.int x1)], [.int (-1), .ref 83], _, _, _)) rfl ?_
      refine pe_puti mm_32 rfl rfl rfl (by decide) (Nat.le_of_ble_eq_true rfl) rfl rfl ?_
      show pm_ev _ _ _ _ _ (46, [some (.ref 83), some (.int x1)], [], _, _, hp (m_i M3 83 8 (-1))) _
      generalize m_i M3 83 8 (-1) = M4 at h ⊢
      rw [mlet] at h
      exact J32_46_ev sc n e he _ _ _ _ h
    · rw [if_neg q2] at h
      refine pe_blk mm_32 1 (s' := (if (M.1 83 1) ≤ x1 then 36 else 18, [some (.ref 83), some (.int x1)], [], _, _, _)) rfl ?_
      rw [if_neg q2]
      refine pe_blk mm_32 1 (s' := (19, [some (.ref 83), some (.int x1)], [.ref 83], _, _, _)) rfl ?_
      refine pe_get mm_32 rfl rfl rfl (by decide) rfl ?_
      refine pe_blk mm_32 2 (s' := (24, [some (.ref 83), some (.int x1)], [.ref 83, .int x1, .ref 85], _, _, _)) rfl ?_
      refine pe_get mm_32 rfl rfl rfl (by decide) rfl ?_
      refine pe_blk mm_32 1 (s' := (28, [some (.ref 83), some (.int x1)], [.int x1, .ref 84, .int x1, .ref 85], _, _, _)) rfl ?_
      by_cases q9 : x1 < 0 ∨ 120 ≤ (x1 : Int32).toNatClampNeg
      · rw [if_pos q9] at h
        cases h
      · rw [if_neg q9] at h
        refine pe_iald (f := M.1 84) mm_32 rfl rfl (by decide) q9 ?_
        by_cases q10 : x1 < 0 ∨ 120 ≤ (x1 : Int32).toNatClampNeg
        · rw [if_pos q10] at h
          cases h
        · rw [if_neg q10] at h
          refine pe_iasti mm_32 rfl rfl (by decide) q10 rfl ?_
          show pm_ev _ _ _ _ _ (30, [some (.ref 83), some (.int x1)], [], _, _, hp (m_i M 85 (x1 : Int32).toNatClampNeg (M.1 84 (x1 : Int32).toNatClampNeg))) _
          generalize m_i M 85 (x1 : Int32).toNatClampNeg (M.1 84 (x1 : Int32).toNatClampNeg) = M11 at h ⊢
          rw [mlet] at h
          exact J32_30_ev sc n e he (L32_10 n k) hr10 x1 _ _ _ h
/-- ArmExpanderModel.readTyped -/
def F32 (n : Nat) (M : Mem) : Option (Unit × Mem) :=
  mlet (m_i M 83 3 (M.1 83 1)) (fun M1 => L32_10 n n 0 M1)
set_option maxRecDepth 100000 in
set_option maxHeartbeats 4000000 in
theorem F32_ev (sc : Option (Nat × (Nat → Int32))) (n : Nat)  (M : Mem) (e : Nat) (he : 4 ≤ e) (r : Unit) (M' : Mem) (h : F32 n M = some (r, M')) : pm_ev pmT sc e 32 false (0, [some (.ref 83), none], [], 129, 17845, hp M) (none, 129, 17845, hp M') := by
  unfold F32 at h
  refine pe_blk mm_32 2 (s' := (2, [some (.ref 83), none], [.ref 83, .ref 83], _, _, _)) rfl ?_
  refine pe_get mm_32 rfl rfl rfl (by decide) rfl ?_
  refine pe_puti mm_32 rfl rfl rfl (by decide) (Nat.le_of_ble_eq_true rfl) rfl rfl ?_
  show pm_ev _ _ _ _ _ (8, [some (.ref 83), none], [], _, _, hp (m_i M 83 3 (M.1 83 1))) _
  generalize m_i M 83 3 (M.1 83 1) = M1 at h ⊢
  rw [mlet] at h
  refine pe_blk mm_32 2 (s' := (10, [some (.ref 83), some (.int 0)], [], _, _, _)) rfl ?_
  exact L32_10_ev sc n e he n 0 _ _ _ h
def J35_63 (n : Nat) (M : Mem) : Option (Unit × Mem) :=
  if (M.1 83 32) < 0 ∨ 128 ≤ (M.1 83 32 : Int32).toNatClampNeg then none else (mlet (m_i M 96 (M.1 83 32 : Int32).toNatClampNeg (M.1 83 31)) (fun M14 => mlet (m_i M14 83 32 ((M14.1 83 32) + 1)) (fun M15 => some ((), M15))))
set_option maxRecDepth 100000 in
set_option maxHeartbeats 4000000 in
theorem J35_63_ev (sc : Option (Nat × (Nat → Int32))) (n : Nat)  (e : Nat) (he : 1 ≤ e) : ∀ (u1 : Option Value) (u2 : Option Value) (u3 : Option Value) (M : Mem) (r : Unit) (M' : Mem), J35_63 n  M = some (r, M') → pm_ev pmT sc e 35 false (63, [some (.ref 83), u1, u2, u3], [], 129, 17845, hp M) (none, 129, 17845, hp M') := by
  intro u1 u2 u3 M r M' h
  unfold J35_63 at h
  refine pe_blk mm_35 1 (s' := (64, [some (.ref 83), u1, u2, u3], [.ref 83], _, _, _)) rfl ?_
  refine pe_get mm_35 rfl rfl rfl (by decide) rfl ?_
  refine pe_blk mm_35 1 (s' := (68, [some (.ref 83), u1, u2, u3], [.ref 83, .ref 96], _, _, _)) rfl ?_
  refine pe_get mm_35 rfl rfl rfl (by decide) rfl ?_
  refine pe_blk mm_35 1 (s' := (72, [some (.ref 83), u1, u2, u3], [.ref 83, .int (M.1 83 32), .ref 96], _, _, _)) rfl ?_
  refine pe_get mm_35 rfl rfl rfl (by decide) rfl ?_
  by_cases q13 : (M.1 83 32) < 0 ∨ 128 ≤ (M.1 83 32 : Int32).toNatClampNeg
  · rw [if_pos q13] at h
    cases h
  · rw [if_neg q13] at h
    refine pe_iasti mm_35 rfl rfl (by decide) q13 rfl ?_
    show pm_ev _ _ _ _ _ (76, [some (.ref 83), u1, u2, u3], [], _, _, hp (m_i M 96 (M.1 83 32 : Int32).toNatClampNeg (M.1 83 31))) _
    generalize m_i M 96 (M.1 83 32 : Int32).toNatClampNeg (M.1 83 31) = M14 at h ⊢
    rw [mlet] at h
    refine pe_blk mm_35 2 (s' := (78, [some (.ref 83), u1, u2, u3], [.ref 83, .ref 83], _, _, _)) rfl ?_
    refine pe_get mm_35 rfl rfl rfl (by decide) rfl ?_
    refine pe_blk mm_35 2 (s' := (83, [some (.ref 83), u1, u2, u3], [.int ((M14.1 83 32) + 1), .ref 83], _, _, _)) rfl ?_
    refine pe_puti mm_35 rfl rfl rfl (by decide) (Nat.le_of_ble_eq_true rfl) rfl rfl ?_
    show pm_ev _ _ _ _ _ (86, [some (.ref 83), u1, u2, u3], [], _, _, hp (m_i M14 83 32 ((M14.1 83 32) + 1))) _
    generalize m_i M14 83 32 ((M14.1 83 32) + 1) = M15 at h ⊢
    rw [mlet] at h
    cases h
    exact pe_ret mm_35 rfl rfl
def J35_40 (n : Nat) (x3 : Int32) (M : Mem) : Option (Unit × Mem) :=
  if (M.1 83 32) < 0 ∨ 128 ≤ (M.1 83 32 : Int32).toNatClampNeg then none else (mlet (m_i M 94 (M.1 83 32 : Int32).toNatClampNeg x3) (fun M10 => if (M10.1 83 32) < 0 ∨ 128 ≤ (M10.1 83 32 : Int32).toNatClampNeg then none else (mlet (m_i M10 95 (M10.1 83 32 : Int32).toNatClampNeg (M10.1 83 30)) (fun M12 => J35_63 n M12))))
set_option maxRecDepth 100000 in
set_option maxHeartbeats 4000000 in
theorem J35_40_ev (sc : Option (Nat × (Nat → Int32))) (n : Nat)  (e : Nat) (he : 1 ≤ e) : ∀ (x3 : Int32) (u1 : Option Value) (u2 : Option Value) (M : Mem) (r : Unit) (M' : Mem), J35_40 n x3 M = some (r, M') → pm_ev pmT sc e 35 false (40, [some (.ref 83), u1, u2, some (.int x3)], [], 129, 17845, hp M) (none, 129, 17845, hp M') := by
  intro x3 u1 u2 M r M' h
  unfold J35_40 at h
  refine pe_blk mm_35 1 (s' := (41, [some (.ref 83), u1, u2, some (.int x3)], [.ref 83], _, _, _)) rfl ?_
  refine pe_get mm_35 rfl rfl rfl (by decide) rfl ?_
  refine pe_blk mm_35 1 (s' := (45, [some (.ref 83), u1, u2, some (.int x3)], [.ref 83, .ref 94], _, _, _)) rfl ?_
  refine pe_get mm_35 rfl rfl rfl (by decide) rfl ?_
  refine pe_blk mm_35 1 (s' := (49, [some (.ref 83), u1, u2, some (.int x3)], [.int x3, .int (M.1 83 32), .ref 94], _, _, _)) rfl ?_
  by_cases q9 : (M.1 83 32) < 0 ∨ 128 ≤ (M.1 83 32 : Int32).toNatClampNeg
  · rw [if_pos q9] at h
    cases h
  · rw [if_neg q9] at h
    refine pe_iasti mm_35 rfl rfl (by decide) q9 rfl ?_
    show pm_ev _ _ _ _ _ (50, [some (.ref 83), u1, u2, some (.int x3)], [], _, _, hp (m_i M 94 (M.1 83 32 : Int32).toNatClampNeg x3)) _
    generalize m_i M 94 (M.1 83 32 : Int32).toNatClampNeg x3 = M10 at h ⊢
    rw [mlet] at h
    refine pe_blk mm_35 1 (s' := (51, [some (.ref 83), u1, u2, some (.int x3)], [.ref 83], _, _, _)) rfl ?_
    refine pe_get mm_35 rfl rfl rfl (by decide) rfl ?_
    refine pe_blk mm_35 1 (s' := (55, [some (.ref 83), u1, u2, some (.int x3)], [.ref 83, .ref 95], _, _, _)) rfl ?_
    refine pe_get mm_35 rfl rfl rfl (by decide) rfl ?_
    refine pe_blk mm_35 1 (s' := (59, [some (.ref 83), u1, u2, some (.int x3)], [.ref 83, .int (M10.1 83 32), .ref 95], _, _, _)) rfl ?_
    refine pe_get mm_35 rfl rfl rfl (by decide) rfl ?_
    by_cases q11 : (M10.1 83 32) < 0 ∨ 128 ≤ (M10.1 83 32 : Int32).toNatClampNeg
    · rw [if_pos q11] at h
      cases h
    · rw [if_neg q11] at h
      refine pe_iasti mm_35 rfl rfl (by decide) q11 rfl ?_
      show pm_ev _ _ _ _ _ (63, [some (.ref 83), u1, u2, some (.int x3)], [], _, _, hp (m_i M10 95 (M10.1 83 32 : Int32).toNatClampNeg (M10.1 83 30))) _
      generalize m_i M10 95 (M10.1 83 32 : Int32).toNatClampNeg (M10.1 83 30) = M12 at h ⊢
      rw [mlet] at h
      exact J35_63_ev sc n e he _ _ _ _ _ _ h
def J35_20 (n : Nat) (x3 : Int32) (M : Mem) : Option (Unit × Mem) :=
  if (M.1 83 32) < 0 ∨ 128 ≤ (M.1 83 32 : Int32).toNatClampNeg then none else (mlet (m_i M 92 (M.1 83 32 : Int32).toNatClampNeg (-1)) (fun M6 => if (M6.1 83 32) < 0 ∨ 128 ≤ (M6.1 83 32 : Int32).toNatClampNeg then none else (mlet (m_i M6 93 (M6.1 83 32 : Int32).toNatClampNeg 0) (fun M8 => J35_40 n x3 M8))))
set_option maxRecDepth 100000 in
set_option maxHeartbeats 4000000 in
theorem J35_20_ev (sc : Option (Nat × (Nat → Int32))) (n : Nat)  (e : Nat) (he : 1 ≤ e) : ∀ (x3 : Int32) (u1 : Option Value) (u2 : Option Value) (M : Mem) (r : Unit) (M' : Mem), J35_20 n x3 M = some (r, M') → pm_ev pmT sc e 35 false (20, [some (.ref 83), u1, u2, some (.int x3)], [], 129, 17845, hp M) (none, 129, 17845, hp M') := by
  intro x3 u1 u2 M r M' h
  unfold J35_20 at h
  refine pe_blk mm_35 1 (s' := (21, [some (.ref 83), u1, u2, some (.int x3)], [.ref 83], _, _, _)) rfl ?_
  refine pe_get mm_35 rfl rfl rfl (by decide) rfl ?_
  refine pe_blk mm_35 1 (s' := (25, [some (.ref 83), u1, u2, some (.int x3)], [.ref 83, .ref 92], _, _, _)) rfl ?_
  refine pe_get mm_35 rfl rfl rfl (by decide) rfl ?_
  refine pe_blk mm_35 1 (s' := (29, [some (.ref 83), u1, u2, some (.int x3)], [.int (-1), .int (M.1 83 32), .ref 92], _, _, _)) rfl ?_
  by_cases q5 : (M.1 83 32) < 0 ∨ 128 ≤ (M.1 83 32 : Int32).toNatClampNeg
  · rw [if_pos q5] at h
    cases h
  · rw [if_neg q5] at h
    refine pe_iasti mm_35 rfl rfl (by decide) q5 rfl ?_
    show pm_ev _ _ _ _ _ (30, [some (.ref 83), u1, u2, some (.int x3)], [], _, _, hp (m_i M 92 (M.1 83 32 : Int32).toNatClampNeg (-1))) _
    generalize m_i M 92 (M.1 83 32 : Int32).toNatClampNeg (-1) = M6 at h ⊢
    rw [mlet] at h
    refine pe_blk mm_35 1 (s' := (31, [some (.ref 83), u1, u2, some (.int x3)], [.ref 83], _, _, _)) rfl ?_
    refine pe_get mm_35 rfl rfl rfl (by decide) rfl ?_
    refine pe_blk mm_35 1 (s' := (35, [some (.ref 83), u1, u2, some (.int x3)], [.ref 83, .ref 93], _, _, _)) rfl ?_
    refine pe_get mm_35 rfl rfl rfl (by decide) rfl ?_
    refine pe_blk mm_35 1 (s' := (39, [some (.ref 83), u1, u2, some (.int x3)], [.int 0, .int (M6.1 83 32), .ref 93], _, _, _)) rfl ?_
    by_cases q7 : (M6.1 83 32) < 0 ∨ 128 ≤ (M6.1 83 32 : Int32).toNatClampNeg
    · rw [if_pos q7] at h
      cases h
    · rw [if_neg q7] at h
      refine pe_iasti mm_35 rfl rfl (by decide) q7 rfl ?_
      show pm_ev _ _ _ _ _ (40, [some (.ref 83), u1, u2, some (.int x3)], [], _, _, hp (m_i M6 93 (M6.1 83 32 : Int32).toNatClampNeg 0)) _
      generalize m_i M6 93 (M6.1 83 32 : Int32).toNatClampNeg 0 = M8 at h ⊢
      rw [mlet] at h
      exact J35_40_ev sc n e he x3 _ _ _ _ _ h
/-- ArmExpanderModel.addPattern -/
def F35 (n : Nat) (a0 : Int32) (a1 : Int32) (a2 : Int32) (M : Mem) : Option (Unit × Mem) :=
  if (M.1 83 32) < 0 ∨ 128 ≤ (M.1 83 32 : Int32).toNatClampNeg then none else (mlet (m_i M 90 (M.1 83 32 : Int32).toNatClampNeg a0) (fun M2 => if (M2.1 83 32) < 0 ∨ 128 ≤ (M2.1 83 32 : Int32).toNatClampNeg then none else (mlet (m_i M2 91 (M2.1 83 32 : Int32).toNatClampNeg a1) (fun M4 => J35_20 n a2 M4))))
set_option maxRecDepth 100000 in
set_option maxHeartbeats 4000000 in
theorem F35_ev (sc : Option (Nat × (Nat → Int32))) (n : Nat) (a0 : Int32) (a1 : Int32) (a2 : Int32)  (M : Mem) (e : Nat) (he : 1 ≤ e) (r : Unit) (M' : Mem) (h : F35 n a0 a1 a2 M = some (r, M')) : pm_ev pmT sc e 35 false (0, [some (.ref 83), some (.int a0), some (.int a1), some (.int a2)], [], 129, 17845, hp M) (none, 129, 17845, hp M') := by
  unfold F35 at h
  refine pe_blk mm_35 1 (s' := (1, [some (.ref 83), some (.int a0), some (.int a1), some (.int a2)], [.ref 83], _, _, _)) rfl ?_
  refine pe_get mm_35 rfl rfl rfl (by decide) rfl ?_
  refine pe_blk mm_35 1 (s' := (5, [some (.ref 83), some (.int a0), some (.int a1), some (.int a2)], [.ref 83, .ref 90], _, _, _)) rfl ?_
  refine pe_get mm_35 rfl rfl rfl (by decide) rfl ?_
  refine pe_blk mm_35 1 (s' := (9, [some (.ref 83), some (.int a0), some (.int a1), some (.int a2)], [.int a0, .int (M.1 83 32), .ref 90], _, _, _)) rfl ?_
  by_cases q1 : (M.1 83 32) < 0 ∨ 128 ≤ (M.1 83 32 : Int32).toNatClampNeg
  · rw [if_pos q1] at h
    cases h
  · rw [if_neg q1] at h
    refine pe_iasti mm_35 rfl rfl (by decide) q1 rfl ?_
    show pm_ev _ _ _ _ _ (10, [some (.ref 83), some (.int a0), some (.int a1), some (.int a2)], [], _, _, hp (m_i M 90 (M.1 83 32 : Int32).toNatClampNeg a0)) _
    generalize m_i M 90 (M.1 83 32 : Int32).toNatClampNeg a0 = M2 at h ⊢
    rw [mlet] at h
    refine pe_blk mm_35 1 (s' := (11, [some (.ref 83), some (.int a0), some (.int a1), some (.int a2)], [.ref 83], _, _, _)) rfl ?_
    refine pe_get mm_35 rfl rfl rfl (by decide) rfl ?_
    refine pe_blk mm_35 1 (s' := (15, [some (.ref 83), some (.int a0), some (.int a1), some (.int a2)], [.ref 83, .ref 91], _, _, _)) rfl ?_
    refine pe_get mm_35 rfl rfl rfl (by decide) rfl ?_
    refine pe_blk mm_35 1 (s' := (19, [some (.ref 83), some (.int a0), some (.int a1), some (.int a2)], [.int a1, .int (M2.1 83 32), .ref 91], _, _, _)) rfl ?_
    by_cases q3 : (M2.1 83 32) < 0 ∨ 128 ≤ (M2.1 83 32 : Int32).toNatClampNeg
    · rw [if_pos q3] at h
      cases h
    · rw [if_neg q3] at h
      refine pe_iasti mm_35 rfl rfl (by decide) q3 rfl ?_
      show pm_ev _ _ _ _ _ (20, [some (.ref 83), some (.int a0), some (.int a1), some (.int a2)], [], _, _, hp (m_i M2 91 (M2.1 83 32 : Int32).toNatClampNeg a1)) _
      generalize m_i M2 91 (M2.1 83 32 : Int32).toNatClampNeg a1 = M4 at h ⊢
      rw [mlet] at h
      exact J35_20_ev sc n e he a2 _ _ _ _ _ h
def J36_66 (n : Nat) (M : Mem) : Option (Unit × Mem) :=
  mlet (m_i M 83 32 ((M.1 83 32) + 1)) (fun M13 => some ((), M13))
set_option maxRecDepth 100000 in
set_option maxHeartbeats 4000000 in
theorem J36_66_ev (sc : Option (Nat × (Nat → Int32))) (n : Nat)  (e : Nat) (he : 1 ≤ e) : ∀ (u1 : Option Value) (u2 : Option Value) (M : Mem) (r : Unit) (M' : Mem), J36_66 n  M = some (r, M') → pm_ev pmT sc e 36 false (66, [some (.ref 83), u1, u2], [], 129, 17845, hp M) (none, 129, 17845, hp M') := by
  intro u1 u2 M r M' h
  unfold J36_66 at h
  refine pe_blk mm_36 2 (s' := (68, [some (.ref 83), u1, u2], [.ref 83, .ref 83], _, _, _)) rfl ?_
  refine pe_get mm_36 rfl rfl rfl (by decide) rfl ?_
  refine pe_blk mm_36 2 (s' := (73, [some (.ref 83), u1, u2], [.int ((M.1 83 32) + 1), .ref 83], _, _, _)) rfl ?_
  refine pe_puti mm_36 rfl rfl rfl (by decide) (Nat.le_of_ble_eq_true rfl) rfl rfl ?_
  show pm_ev _ _ _ _ _ (76, [some (.ref 83), u1, u2], [], _, _, hp (m_i M 83 32 ((M.1 83 32) + 1))) _
  generalize m_i M 83 32 ((M.1 83 32) + 1) = M13 at h ⊢
  rw [mlet] at h
  cases h
  exact pe_ret mm_36 rfl rfl
def J36_40 (n : Nat) (M : Mem) : Option (Unit × Mem) :=
  if (M.1 83 32) < 0 ∨ 128 ≤ (M.1 83 32 : Int32).toNatClampNeg then none else (mlet (m_i M 101 (M.1 83 32 : Int32).toNatClampNeg (M.1 83 30)) (fun M10 => if (M10.1 83 32) < 0 ∨ 128 ≤ (M10.1 83 32 : Int32).toNatClampNeg then none else (mlet (m_i M10 102 (M10.1 83 32 : Int32).toNatClampNeg (M10.1 83 31)) (fun M12 => J36_66 n M12))))
set_option maxRecDepth 100000 in
set_option maxHeartbeats 4000000 in
theorem J36_40_ev (sc : Option (Nat × (Nat → Int32))) (n : Nat)  (e : Nat) (he : 1 ≤ e) : ∀ (u1 : Option Value) (u2 : Option Value) (M : Mem) (r : Unit) (M' : Mem), J36_40 n  M = some (r, M') → pm_ev pmT sc e 36 false (40, [some (.ref 83), u1, u2], [], 129, 17845, hp M) (none, 129, 17845, hp M') := by
  intro u1 u2 M r M' h
  unfold J36_40 at h
  refine pe_blk mm_36 1 (s' := (41, [some (.ref 83), u1, u2], [.ref 83], _, _, _)) rfl ?_
  refine pe_get mm_36 rfl rfl rfl (by decide) rfl ?_
  refine pe_blk mm_36 1 (s' := (45, [some (.ref 83), u1, u2], [.ref 83, .ref 101], _, _, _)) rfl ?_
  refine pe_get mm_36 rfl rfl rfl (by decide) rfl ?_
  refine pe_blk mm_36 1 (s' := (49, [some (.ref 83), u1, u2], [.ref 83, .int (M.1 83 32), .ref 101], _, _, _)) rfl ?_
  refine pe_get mm_36 rfl rfl rfl (by decide) rfl ?_
  by_cases q9 : (M.1 83 32) < 0 ∨ 128 ≤ (M.1 83 32 : Int32).toNatClampNeg
  · rw [if_pos q9] at h
    cases h
  · rw [if_neg q9] at h
    refine pe_iasti mm_36 rfl rfl (by decide) q9 rfl ?_
    show pm_ev _ _ _ _ _ (53, [some (.ref 83), u1, u2], [], _, _, hp (m_i M 101 (M.1 83 32 : Int32).toNatClampNeg (M.1 83 30))) _
    generalize m_i M 101 (M.1 83 32 : Int32).toNatClampNeg (M.1 83 30) = M10 at h ⊢
    rw [mlet] at h
    refine pe_blk mm_36 1 (s' := (54, [some (.ref 83), u1, u2], [.ref 83], _, _, _)) rfl ?_
    refine pe_get mm_36 rfl rfl rfl (by decide) rfl ?_
    refine pe_blk mm_36 1 (s' := (58, [some (.ref 83), u1, u2], [.ref 83, .ref 102], _, _, _)) rfl ?_
    refine pe_get mm_36 rfl rfl rfl (by decide) rfl ?_
    refine pe_blk mm_36 1 (s' := (62, [some (.ref 83), u1, u2], [.ref 83, .int (M10.1 83 32), .ref 102], _, _, _)) rfl ?_
    refine pe_get mm_36 rfl rfl rfl (by decide) rfl ?_
    by_cases q11 : (M10.1 83 32) < 0 ∨ 128 ≤ (M10.1 83 32 : Int32).toNatClampNeg
    · rw [if_pos q11] at h
      cases h
    · rw [if_neg q11] at h
      refine pe_iasti mm_36 rfl rfl (by decide) q11 rfl ?_
      show pm_ev _ _ _ _ _ (66, [some (.ref 83), u1, u2], [], _, _, hp (m_i M10 102 (M10.1 83 32 : Int32).toNatClampNeg (M10.1 83 31))) _
      generalize m_i M10 102 (M10.1 83 32 : Int32).toNatClampNeg (M10.1 83 31) = M12 at h ⊢
      rw [mlet] at h
      exact J36_66_ev sc n e he _ _ _ _ _ h
def J36_20 (n : Nat) (M : Mem) : Option (Unit × Mem) :=
  if (M.1 83 32) < 0 ∨ 128 ≤ (M.1 83 32 : Int32).toNatClampNeg then none else (mlet (m_i M 99 (M.1 83 32 : Int32).toNatClampNeg (-1)) (fun M6 => if (M6.1 83 32) < 0 ∨ 128 ≤ (M6.1 83 32 : Int32).toNatClampNeg then none else (mlet (m_i M6 100 (M6.1 83 32 : Int32).toNatClampNeg 0) (fun M8 => J36_40 n M8))))
set_option maxRecDepth 100000 in
set_option maxHeartbeats 4000000 in
theorem J36_20_ev (sc : Option (Nat × (Nat → Int32))) (n : Nat)  (e : Nat) (he : 1 ≤ e) : ∀ (u1 : Option Value) (u2 : Option Value) (M : Mem) (r : Unit) (M' : Mem), J36_20 n  M = some (r, M') → pm_ev pmT sc e 36 false (20, [some (.ref 83), u1, u2], [], 129, 17845, hp M) (none, 129, 17845, hp M') := by
  intro u1 u2 M r M' h
  unfold J36_20 at h
  refine pe_blk mm_36 1 (s' := (21, [some (.ref 83), u1, u2], [.ref 83], _, _, _)) rfl ?_
  refine pe_get mm_36 rfl rfl rfl (by decide) rfl ?_
  refine pe_blk mm_36 1 (s' := (25, [some (.ref 83), u1, u2], [.ref 83, .ref 99], _, _, _)) rfl ?_
  refine pe_get mm_36 rfl rfl rfl (by decide) rfl ?_
  refine pe_blk mm_36 1 (s' := (29, [some (.ref 83), u1, u2], [.int (-1), .int (M.1 83 32), .ref 99], _, _, _)) rfl ?_
  by_cases q5 : (M.1 83 32) < 0 ∨ 128 ≤ (M.1 83 32 : Int32).toNatClampNeg
  · rw [if_pos q5] at h
    cases h
  · rw [if_neg q5] at h
    refine pe_iasti mm_36 rfl rfl (by decide) q5 rfl ?_
    show pm_ev _ _ _ _ _ (30, [some (.ref 83), u1, u2], [], _, _, hp (m_i M 99 (M.1 83 32 : Int32).toNatClampNeg (-1))) _
    generalize m_i M 99 (M.1 83 32 : Int32).toNatClampNeg (-1) = M6 at h ⊢
    rw [mlet] at h
    refine pe_blk mm_36 1 (s' := (31, [some (.ref 83), u1, u2], [.ref 83], _, _, _)) rfl ?_
    refine pe_get mm_36 rfl rfl rfl (by decide) rfl ?_
    refine pe_blk mm_36 1 (s' := (35, [some (.ref 83), u1, u2], [.ref 83, .ref 100], _, _, _)) rfl ?_
    refine pe_get mm_36 rfl rfl rfl (by decide) rfl ?_
    refine pe_blk mm_36 1 (s' := (39, [some (.ref 83), u1, u2], [.int 0, .int (M6.1 83 32), .ref 100], _, _, _)) rfl ?_
    by_cases q7 : (M6.1 83 32) < 0 ∨ 128 ≤ (M6.1 83 32 : Int32).toNatClampNeg
    · rw [if_pos q7] at h
      cases h
    · rw [if_neg q7] at h
      refine pe_iasti mm_36 rfl rfl (by decide) q7 rfl ?_
      show pm_ev _ _ _ _ _ (40, [some (.ref 83), u1, u2], [], _, _, hp (m_i M6 100 (M6.1 83 32 : Int32).toNatClampNeg 0)) _
      generalize m_i M6 100 (M6.1 83 32 : Int32).toNatClampNeg 0 = M8 at h ⊢
      rw [mlet] at h
      exact J36_40_ev sc n e he _ _ _ _ _ h
/-- ArmExpanderModel.addBody -/
def F36 (n : Nat) (a0 : Int32) (a1 : Int32) (M : Mem) : Option (Unit × Mem) :=
  if (M.1 83 32) < 0 ∨ 128 ≤ (M.1 83 32 : Int32).toNatClampNeg then none else (mlet (m_i M 97 (M.1 83 32 : Int32).toNatClampNeg a0) (fun M2 => if (M2.1 83 32) < 0 ∨ 128 ≤ (M2.1 83 32 : Int32).toNatClampNeg then none else (mlet (m_i M2 98 (M2.1 83 32 : Int32).toNatClampNeg a1) (fun M4 => J36_20 n M4))))
set_option maxRecDepth 100000 in
set_option maxHeartbeats 4000000 in
theorem F36_ev (sc : Option (Nat × (Nat → Int32))) (n : Nat) (a0 : Int32) (a1 : Int32)  (M : Mem) (e : Nat) (he : 1 ≤ e) (r : Unit) (M' : Mem) (h : F36 n a0 a1 M = some (r, M')) : pm_ev pmT sc e 36 false (0, [some (.ref 83), some (.int a0), some (.int a1)], [], 129, 17845, hp M) (none, 129, 17845, hp M') := by
  unfold F36 at h
  refine pe_blk mm_36 1 (s' := (1, [some (.ref 83), some (.int a0), some (.int a1)], [.ref 83], _, _, _)) rfl ?_
  refine pe_get mm_36 rfl rfl rfl (by decide) rfl ?_
  refine pe_blk mm_36 1 (s' := (5, [some (.ref 83), some (.int a0), some (.int a1)], [.ref 83, .ref 97], _, _, _)) rfl ?_
  refine pe_get mm_36 rfl rfl rfl (by decide) rfl ?_
  refine pe_blk mm_36 1 (s' := (9, [some (.ref 83), some (.int a0), some (.int a1)], [.int a0, .int (M.1 83 32), .ref 97], _, _, _)) rfl ?_
  by_cases q1 : (M.1 83 32) < 0 ∨ 128 ≤ (M.1 83 32 : Int32).toNatClampNeg
  · rw [if_pos q1] at h
    cases h
  · rw [if_neg q1] at h
    refine pe_iasti mm_36 rfl rfl (by decide) q1 rfl ?_
    show pm_ev _ _ _ _ _ (10, [some (.ref 83), some (.int a0), some (.int a1)], [], _, _, hp (m_i M 97 (M.1 83 32 : Int32).toNatClampNeg a0)) _
    generalize m_i M 97 (M.1 83 32 : Int32).toNatClampNeg a0 = M2 at h ⊢
    rw [mlet] at h
    refine pe_blk mm_36 1 (s' := (11, [some (.ref 83), some (.int a0), some (.int a1)], [.ref 83], _, _, _)) rfl ?_
    refine pe_get mm_36 rfl rfl rfl (by decide) rfl ?_
    refine pe_blk mm_36 1 (s' := (15, [some (.ref 83), some (.int a0), some (.int a1)], [.ref 83, .ref 98], _, _, _)) rfl ?_
    refine pe_get mm_36 rfl rfl rfl (by decide) rfl ?_
    refine pe_blk mm_36 1 (s' := (19, [some (.ref 83), some (.int a0), some (.int a1)], [.int a1, .int (M2.1 83 32), .ref 98], _, _, _)) rfl ?_
    by_cases q3 : (M2.1 83 32) < 0 ∨ 128 ≤ (M2.1 83 32 : Int32).toNatClampNeg
    · rw [if_pos q3] at h
      cases h
    · rw [if_neg q3] at h
      refine pe_iasti mm_36 rfl rfl (by decide) q3 rfl ?_
      show pm_ev _ _ _ _ _ (20, [some (.ref 83), some (.int a0), some (.int a1)], [], _, _, hp (m_i M2 98 (M2.1 83 32 : Int32).toNatClampNeg a1)) _
      generalize m_i M2 98 (M2.1 83 32 : Int32).toNatClampNeg a1 = M4 at h ⊢
      rw [mlet] at h
      exact J36_20_ev sc n e he _ _ _ _ _ h
def J37_49 (n : Nat) (M : Mem) : Option (Int32 × Mem) :=
  match F28 n M with | some (v7, M8) => (some (1, M8)) | none => none
set_option maxRecDepth 100000 in
set_option maxHeartbeats 4000000 in
theorem J37_49_ev (sc : Option (Nat × (Nat → Int32))) (n : Nat)  (e : Nat) (he : 4 ≤ e) : ∀ (u1 : Option Value) (M : Mem) (r : Int32) (M' : Mem), J37_49 n  M = some (r, M') → pm_ev pmT sc e 37 false (49, [some (.ref 83), u1], [], 129, 17845, hp M) (some (.int r), 129, 17845, hp M') := by
  intro u1 M r M' h
  unfold J37_49 at h
  refine pe_blk mm_37 1 (s' := (50, [some (.ref 83), u1], [.ref 83], _, _, _)) rfl ?_
  obtain ⟨e1, rfl⟩ : ∃ e1, e = e1 + 1 := ⟨e - 1, by omega⟩
  cases hc9 : F28 n M with
  | none => rw [hc9] at h; cases h
  | some w =>
    obtain ⟨v7, M8⟩ := w
    rw [hc9] at h
    dsimp only at h
    refine pe_virt (al := []) (a := 83) (L0 := [some (.ref 83), none, none, none, none, none]) (r1 := (none, 129, 17845, hp M8)) mm_37 rfl rfl rfl mm_28 rfl (by decide) (by decide) rfl (Nat.le_of_ble_eq_true rfl) (Nat.le_of_ble_eq_true rfl) rfl rfl (F28_ev sc n _ e1 (by omega) _ _ hc9) ?_
    show pm_ev _ _ _ _ _ (53, [some (.ref 83), u1], [], _, _, _) _
    refine pe_blk mm_37 1 (s' := (54, [some (.ref 83), u1], [.int 1], _, _, _)) rfl ?_
    cases h
    exact pe_ret mm_37 rfl rfl
def J37_29 (n : Nat) (x1 : Int32) (M : Mem) : Option (Int32 × Mem) :=
  if (M.1 83 27) < 0 ∨ 16 ≤ (M.1 83 27 : Int32).toNatClampNeg then none else (mlet (m_i M 104 (M.1 83 27 : Int32).toNatClampNeg x1) (fun M5 => mlet (m_i M5 83 27 ((M5.1 83 27) + 1)) (fun M6 => J37_49 n M6)))
set_option maxRecDepth 100000 in
set_option maxHeartbeats 4000000 in
theorem J37_29_ev (sc : Option (Nat × (Nat → Int32))) (n : Nat)  (e : Nat) (he : 4 ≤ e) : ∀ (x1 : Int32) (M : Mem) (r : Int32) (M' : Mem), J37_29 n x1 M = some (r, M') → pm_ev pmT sc e 37 false (29, [some (.ref 83), some (.int x1)], [], 129, 17845, hp M) (some (.int r), 129, 17845, hp M') := by
  intro x1  M r M' h
  unfold J37_29 at h
  refine pe_blk mm_37 1 (s' := (30, [some (.ref 83), some (.int x1)], [.ref 83], _, _, _)) rfl ?_
  refine pe_get mm_37 rfl rfl rfl (by decide) rfl ?_
  refine pe_blk mm_37 1 (s' := (34, [some (.ref 83), some (.int x1)], [.ref 83, .ref 104], _, _, _)) rfl ?_
  refine pe_get mm_37 rfl rfl rfl (by decide) rfl ?_
  refine pe_blk mm_37 1 (s' := (38, [some (.ref 83), some (.int x1)], [.int x1, .int (M.1 83 27), .ref 104], _, _, _)) rfl ?_
  by_cases q4 : (M.1 83 27) < 0 ∨ 16 ≤ (M.1 83 27 : Int32).toNatClampNeg
  · rw [if_pos q4] at h
    cases h
  · rw [if_neg q4] at h
    refine pe_iasti mm_37 rfl rfl (by decide) q4 rfl ?_
    show pm_ev _ _ _ _ _ (39, [some (.ref 83), some (.int x1)], [], _, _, hp (m_i M 104 (M.1 83 27 : Int32).toNatClampNeg x1)) _
    generalize m_i M 104 (M.1 83 27 : Int32).toNatClampNeg x1 = M5 at h ⊢
    rw [mlet] at h
    refine pe_blk mm_37 2 (s' := (41, [some (.ref 83), some (.int x1)], [.ref 83, .ref 83], _, _, _)) rfl ?_
    refine pe_get mm_37 rfl rfl rfl (by decide) rfl ?_
    refine pe_blk mm_37 2 (s' := (46, [some (.ref 83), some (.int x1)], [.int ((M5.1 83 27) + 1), .ref 83], _, _, _)) rfl ?_
    refine pe_puti mm_37 rfl rfl rfl (by decide) (Nat.le_of_ble_eq_true rfl) rfl rfl ?_
    show pm_ev _ _ _ _ _ (49, [some (.ref 83), some (.int x1)], [], _, _, hp (m_i M5 83 27 ((M5.1 83 27) + 1))) _
    generalize m_i M5 83 27 ((M5.1 83 27) + 1) = M6 at h ⊢
    rw [mlet] at h
    exact J37_49_ev sc n e he _ _ _ _ h
/-- ArmExpanderModel.openIt -/
def F37 (n : Nat) (a0 : Int32) (M : Mem) : Option (Int32 × Mem) :=
  if ((M.1 83 27) + 1) ≤ 9 then (if (M.1 83 27) < 0 ∨ 16 ≤ (M.1 83 27 : Int32).toNatClampNeg then none else (mlet (m_i M 103 (M.1 83 27 : Int32).toNatClampNeg (M.1 83 5)) (fun M3 => J37_29 n a0 M3))) else (match F29 n M with | some (v10, M11) => (if v10 = 0 ∨ v10 = 1 then some (v10, M11) else none) | none => none)
set_option maxRecDepth 100000 in
set_option maxHeartbeats 4000000 in
theorem F37_ev (sc : Option (Nat × (Nat → Int32))) (n : Nat) (a0 : Int32)  (M : Mem) (e : Nat) (he : 4 ≤ e) (r : Int32) (M' : Mem) (h : F37 n a0 M = some (r, M')) : pm_ev pmT sc e 37 false (0, [some (.ref 83), some (.int a0)], [], 129, 17845, hp M) (some (.int r), 129, 17845, hp M') := by
  unfold F37 at h
  refine pe_blk mm_37 1 (s' := (1, [some (.ref 83), some (.int a0)], [.ref 83], _, _, _)) rfl ?_
  refine pe_get mm_37 rfl rfl rfl (by decide) rfl ?_
  refine pe_blk mm_37 3 (s' := (8, [some (.ref 83), some (.int a0)], [.int 9, .int ((M.1 83 27) + 1)], _, _, _)) rfl ?_
  by_cases q1 : ((M.1 83 27) + 1) ≤ 9
  · rw [if_pos q1] at h
    refine pe_blk mm_37 1 (s' := (if ((M.1 83 27) + 1) ≤ 9 then 16 else 11, [some (.ref 83), some (.int a0)], [], _, _, _)) rfl ?_
    rw [if_pos q1]
    refine pe_blk mm_37 1 (s' := (17, [some (.ref 83), some (.int a0)], [.ref 83], _, _, _)) rfl ?_
    refine pe_get mm_37 rfl rfl rfl (by decide) rfl ?_
    refine pe_blk mm_37 1 (s' := (21, [some (.ref 83), some (.int a0)], [.ref 83, .ref 103], _, _, _)) rfl ?_
    refine pe_get mm_37 rfl rfl rfl (by decide) rfl ?_
    refine pe_blk mm_37 1 (s' := (25, [some (.ref 83), some (.int a0)], [.ref 83, .int (M.1 83 27), .ref 103], _, _, _)) rfl ?_
    refine pe_get mm_37 rfl rfl rfl (by decide) rfl ?_
    by_cases q2 : (M.1 83 27) < 0 ∨ 16 ≤ (M.1 83 27 : Int32).toNatClampNeg
    · rw [if_pos q2] at h
      cases h
    · rw [if_neg q2] at h
      refine pe_iasti mm_37 rfl rfl (by decide) q2 rfl ?_
      show pm_ev _ _ _ _ _ (29, [some (.ref 83), some (.int a0)], [], _, _, hp (m_i M 103 (M.1 83 27 : Int32).toNatClampNeg (M.1 83 5))) _
      generalize m_i M 103 (M.1 83 27 : Int32).toNatClampNeg (M.1 83 5) = M3 at h ⊢
      rw [mlet] at h
      exact J37_29_ev sc n e he a0 _ _ _ h
  · rw [if_neg q1] at h
    refine pe_blk mm_37 1 (s' := (if ((M.1 83 27) + 1) ≤ 9 then 16 else 11, [some (.ref 83), some (.int a0)], [], _, _, _)) rfl ?_
    rw [if_neg q1]
    refine pe_blk mm_37 1 (s' := (12, [some (.ref 83), some (.int a0)], [.ref 83], _, _, _)) rfl ?_
    obtain ⟨e1, rfl⟩ : ∃ e1, e = e1 + 1 := ⟨e - 1, by omega⟩
    cases hc12 : F29 n M with
    | none => rw [hc12] at h; cases h
    | some w =>
      obtain ⟨v10, M11⟩ := w
      rw [hc12] at h
      dsimp only at h
      refine pe_virt (al := []) (a := 83) (L0 := [some (.ref 83)]) (r1 := (some (.int v10), 129, 17845, hp M11)) mm_37 rfl rfl rfl mm_29 rfl (by decide) (by decide) rfl (Nat.le_of_ble_eq_true rfl) (Nat.le_of_ble_eq_true rfl) rfl rfl (F29_ev sc n _ e1 (by omega) _ _ hc12) ?_
      show pm_ev _ _ _ _ _ (15, [some (.ref 83), some (.int a0)], [.int v10], _, _, _) _
      by_cases q13 : v10 = 0 ∨ v10 = 1
      · rw [if_pos q13] at h
        cases h
        exact pe_ret mm_37 rfl (if_pos q13)
      · rw [if_neg q13] at h
        cases h
def J38_32 (n : Nat) (s0 : Int32) (M : Mem) : Option (Unit × Mem) :=
  mlet (m_i M 83 30 s0) (fun M4 => some ((), M4))
set_option maxRecDepth 100000 in
set_option maxHeartbeats 4000000 in
theorem J38_32_ev (sc : Option (Nat × (Nat → Int32))) (n : Nat)  (e : Nat) (he : 1 ≤ e) : ∀ (s0 : Int32) (u0 : Option Value) (u1 : Option Value) (M : Mem) (r : Unit) (M' : Mem), J38_32 n s0 M = some (r, M') → pm_ev pmT sc e 38 false (32, [u0, u1], [.int s0, .ref 83], 129, 17845, hp M) (none, 129, 17845, hp M') := by
  intro s0 u0 u1 M r M' h
  unfold J38_32 at h
  refine pe_puti mm_38 rfl rfl rfl (by decide) (Nat.le_of_ble_eq_true rfl) rfl rfl ?_
  show pm_ev _ _ _ _ _ (35, [u0, u1], [], _, _, hp (m_i M 83 30 s0)) _
  generalize m_i M 83 30 s0 = M4 at h ⊢
  rw [mlet] at h
  cases h
  exact pe_ret mm_38 rfl rfl
def J38_13 (n : Nat) (x1 : Int32) (s0 : Int32) (M : Mem) : Option (Unit × Mem) :=
  mlet (m_i M 83 31 s0) (fun M2 => if (M2.1 83 30) < 0 then (J38_32 n x1 M2) else (J38_32 n (M2.1 83 30) M2))
set_option maxRecDepth 100000 in
set_option maxHeartbeats 4000000 in
theorem J38_13_ev (sc : Option (Nat × (Nat → Int32))) (n : Nat)  (e : Nat) (he : 1 ≤ e) : ∀ (x1 : Int32) (s0 : Int32) (M : Mem) (r : Unit) (M' : Mem), J38_13 n x1 s0 M = some (r, M') → pm_ev pmT sc e 38 false (13, [some (.ref 83), some (.int x1)], [.int s0, .ref 83], 129, 17845, hp M) (none, 129, 17845, hp M') := by
  intro x1 s0  M r M' h
  unfold J38_13 at h
  refine pe_puti mm_38 rfl rfl rfl (by decide) (Nat.le_of_ble_eq_true rfl) rfl rfl ?_
  show pm_ev _ _ _ _ _ (16, [some (.ref 83), some (.int x1)], [], _, _, hp (m_i M 83 31 s0)) _
  generalize m_i M 83 31 s0 = M2 at h ⊢
  rw [mlet] at h
  refine pe_blk mm_38 2 (s' := (18, [some (.ref 83), some (.int x1)], [.ref 83, .ref 83], _, _, _)) rfl ?_
  refine pe_get mm_38 rfl rfl rfl (by decide) rfl ?_
  by_cases q3 : (M2.1 83 30) < 0
  · rw [if_pos q3] at h
    refine pe_blk mm_38 1 (s' := (if (M2.1 83 30) < 0 then 31 else 24, [some (.ref 83), some (.int x1)], [.ref 83], _, _, _)) rfl ?_
    rw [if_pos q3]
    refine pe_blk mm_38 1 (s' := (32, [some (.ref 83), some (.int x1)], [.int x1, .ref 83], _, _, _)) rfl ?_
    exact J38_32_ev sc n e he x1 _ _ _ _ _ h
  · rw [if_neg q3] at h
    refine pe_blk mm_38 1 (s' := (if (M2.1 83 30) < 0 then 31 else 24, [some (.ref 83), some (.int x1)], [.ref 83], _, _, _)) rfl ?_
    rw [if_neg q3]
    refine pe_blk mm_38 1 (s' := (25, [some (.ref 83), some (.int x1)], [.ref 83, .ref 83], _, _, _)) rfl ?_
    refine pe_get mm_38 rfl rfl rfl (by decide) rfl ?_
    refine pe_blk mm_38 1 (s' := (32, [some (.ref 83), some (.int x1)], [.int (M2.1 83 30), .ref 83], _, _, _)) rfl ?_
    exact J38_32_ev sc n e he (M2.1 83 30) _ _ _ _ _ h
/-- ArmExpanderModel.enter -/
def F38 (n : Nat) (a0 : Int32) (M : Mem) : Option (Unit × Mem) :=
  if (M.1 83 30) < 0 then (J38_13 n a0 (-1) M) else (J38_13 n a0 a0 M)
set_option maxRecDepth 100000 in
set_option maxHeartbeats 4000000 in
theorem F38_ev (sc : Option (Nat × (Nat → Int32))) (n : Nat) (a0 : Int32)  (M : Mem) (e : Nat) (he : 1 ≤ e) (r : Unit) (M' : Mem) (h : F38 n a0 M = some (r, M')) : pm_ev pmT sc e 38 false (0, [some (.ref 83), some (.int a0)], [], 129, 17845, hp M) (none, 129, 17845, hp M') := by
  unfold F38 at h
  refine pe_blk mm_38 2 (s' := (2, [some (.ref 83), some (.int a0)], [.ref 83, .ref 83], _, _, _)) rfl ?_
  refine pe_get mm_38 rfl rfl rfl (by decide) rfl ?_
  by_cases q1 : (M.1 83 30) < 0
  · rw [if_pos q1] at h
    refine pe_blk mm_38 1 (s' := (if (M.1 83 30) < 0 then 12 else 8, [some (.ref 83), some (.int a0)], [.ref 83], _, _, _)) rfl ?_
    rw [if_pos q1]
    refine pe_blk mm_38 1 (s' := (13, [some (.ref 83), some (.int a0)], [.int (-1), .ref 83], _, _, _)) rfl ?_
    exact J38_13_ev sc n e he a0 (-1) _ _ _ h
  · rw [if_neg q1] at h
    refine pe_blk mm_38 1 (s' := (if (M.1 83 30) < 0 then 12 else 8, [some (.ref 83), some (.int a0)], [.ref 83], _, _, _)) rfl ?_
    rw [if_neg q1]
    refine pe_blk mm_38 2 (s' := (13, [some (.ref 83), some (.int a0)], [.int a0, .ref 83], _, _, _)) rfl ?_
    exact J38_13_ev sc n e he a0 a0 _ _ _ h
def J39_16 (n : Nat) (s0 : Int32) (M : Mem) : Option (Unit × Mem) :=
  mlet (m_i M 83 30 s0) (fun M2 => mlet (m_i M2 83 31 (-1)) (fun M3 => some ((), M3)))
set_option maxRecDepth 100000 in
set_option maxHeartbeats 4000000 in
theorem J39_16_ev (sc : Option (Nat × (Nat → Int32))) (n : Nat)  (e : Nat) (he : 1 ≤ e) : ∀ (s0 : Int32) (M : Mem) (r : Unit) (M' : Mem), J39_16 n s0 M = some (r, M') → pm_ev pmT sc e 39 false (16, [some (.ref 83)], [.int s0, .ref 83], 129, 17845, hp M) (none, 129, 17845, hp M') := by
  intro s0  M r M' h
  unfold J39_16 at h
  refine pe_puti mm_39 rfl rfl rfl (by decide) (Nat.le_of_ble_eq_true rfl) rfl rfl ?_
  show pm_ev _ _ _ _ _ (19, [some (.ref 83)], [], _, _, hp (m_i M 83 30 s0)) _
  generalize m_i M 83 30 s0 = M2 at h ⊢
  rw [mlet] at h
  refine pe_blk mm_39 2 (s' := (21, [some (.ref 83)], [.int (-1), .ref 83], _, _, _)) rfl ?_
  refine pe_puti mm_39 rfl rfl rfl (by decide) (Nat.le_of_ble_eq_true rfl) rfl rfl ?_
  show pm_ev _ _ _ _ _ (24, [some (.ref 83)], [], _, _, hp (m_i M2 83 31 (-1))) _
  generalize m_i M2 83 31 (-1) = M3 at h ⊢
  rw [mlet] at h
  cases h
  exact pe_ret mm_39 rfl rfl
/-- ArmExpanderModel.leave -/
def F39 (n : Nat) (M : Mem) : Option (Unit × Mem) :=
  if (M.1 83 31) < 0 then (J39_16 n (-1) M) else (J39_16 n (M.1 83 30) M)
set_option maxRecDepth 100000 in
set_option maxHeartbeats 4000000 in
theorem F39_ev (sc : Option (Nat × (Nat → Int32))) (n : Nat)  (M : Mem) (e : Nat) (he : 1 ≤ e) (r : Unit) (M' : Mem) (h : F39 n M = some (r, M')) : pm_ev pmT sc e 39 false (0, [some (.ref 83)], [], 129, 17845, hp M) (none, 129, 17845, hp M') := by
  unfold F39 at h
  refine pe_blk mm_39 2 (s' := (2, [some (.ref 83)], [.ref 83, .ref 83], _, _, _)) rfl ?_
  refine pe_get mm_39 rfl rfl rfl (by decide) rfl ?_
  by_cases q1 : (M.1 83 31) < 0
  · rw [if_pos q1] at h
    refine pe_blk mm_39 1 (s' := (if (M.1 83 31) < 0 then 15 else 8, [some (.ref 83)], [.ref 83], _, _, _)) rfl ?_
    rw [if_pos q1]
    refine pe_blk mm_39 1 (s' := (16, [some (.ref 83)], [.int (-1), .ref 83], _, _, _)) rfl ?_
    exact J39_16_ev sc n e he (-1) _ _ _ h
  · rw [if_neg q1] at h
    refine pe_blk mm_39 1 (s' := (if (M.1 83 31) < 0 then 15 else 8, [some (.ref 83)], [.ref 83], _, _, _)) rfl ?_
    rw [if_neg q1]
    refine pe_blk mm_39 1 (s' := (9, [some (.ref 83)], [.ref 83, .ref 83], _, _, _)) rfl ?_
    refine pe_get mm_39 rfl rfl rfl (by decide) rfl ?_
    refine pe_blk mm_39 1 (s' := (16, [some (.ref 83)], [.int (M.1 83 30), .ref 83], _, _, _)) rfl ?_
    exact J39_16_ev sc n e he (M.1 83 30) _ _ _ h
def J40_146 (n : Nat) (s0 : Int32) (M : Mem) : Option (Int32 × Mem) :=
  some (s0, M)
set_option maxRecDepth 100000 in
set_option maxHeartbeats 4000000 in
theorem J40_146_ev (sc : Option (Nat × (Nat → Int32))) (n : Nat)  (e : Nat) (he : 5 ≤ e) : ∀ (s0 : Int32) (u0 : Option Value) (u1 : Option Value) (u2 : Option Value) (M : Mem) (r : Int32) (M' : Mem), J40_146 n s0 M = some (r, M') → pm_ev pmT sc e 40 false (146, [u0, u1, u2], [.int s0], 129, 17845, hp M) (some (.int r), 129, 17845, hp M') := by
  intro s0 u0 u1 u2 M r M' h
  unfold J40_146 at h
  cases h
  exact pe_ret mm_40 rfl rfl
def J40_129 (n : Nat) (x1 : Int32) (x2 : Int32) (s0 : Int32) (M : Mem) : Option (Int32 × Mem) :=
  match F30 n s0 M with | some (v31, M32) => (if v31 = 0 then (J40_146 n (-1) M32) else (J40_146 n ((256 * x2) + x1) M32)) | none => none
set_option maxRecDepth 100000 in
set_option maxHeartbeats 4000000 in
theorem J40_129_ev (sc : Option (Nat × (Nat → Int32))) (n : Nat)  (e : Nat) (he : 5 ≤ e) : ∀ (x1 : Int32) (x2 : Int32) (s0 : Int32) (u0 : Option Value) (M : Mem) (r : Int32) (M' : Mem), J40_129 n x1 x2 s0 M = some (r, M') → pm_ev pmT sc e 40 false (129, [u0, some (.int x1), some (.int x2)], [.int s0, .ref 83], 129, 17845, hp M) (some (.int r), 129, 17845, hp M') := by
  intro x1 x2 s0 u0 M r M' h
  unfold J40_129 at h
  obtain ⟨e1, rfl⟩ : ∃ e1, e = e1 + 1 := ⟨e - 1, by omega⟩
  cases hc33 : F30 n s0 M with
  | none => rw [hc33] at h; cases h
  | some w =>
    obtain ⟨v31, M32⟩ := w
    rw [hc33] at h
    dsimp only at h
    refine pe_virt (al := [.int s0]) (a := 83) (L0 := [some (.ref 83), some (.int s0)]) (r1 := (some (.int v31), 129, 17845, hp M32)) mm_40 rfl rfl rfl mm_30 rfl (by decide) (by decide) rfl (Nat.le_of_ble_eq_true rfl) (Nat.le_of_ble_eq_true rfl) rfl rfl (F30_ev sc n s0 _ e1 (by omega) _ _ hc33) ?_
    show pm_ev _ _ _ _ _ (132, [u0, some (.int x1), some (.int x2)], [.int v31], _, _, _) _
    by_cases q34 : v31 = 0
    · rw [if_pos q34] at h
      refine pe_blk mm_40 1 (s' := (if v31 = 0 then 145 else 135, [u0, some (.int x1), some (.int x2)], [], _, _, _)) rfl ?_
      rw [if_pos q34]
      refine pe_blk mm_40 1 (s' := (146, [u0, some (.int x1), some (.int x2)], [.int (-1)], _, _, _)) rfl ?_
      exact J40_146_ev sc n (e1 + 1) he (-1) _ _ _ _ _ _ h
    · rw [if_neg q34] at h
      refine pe_blk mm_40 1 (s' := (if v31 = 0 then 145 else 135, [u0, some (.int x1), some (.int x2)], [], _, _, _)) rfl ?_
      rw [if_neg q34]
      refine pe_blk mm_40 6 (s' := (146, [u0, some (.int x1), some (.int x2)], [.int ((256 * x2) + x1)], _, _, _)) rfl ?_
      exact J40_146_ev sc n (e1 + 1) he ((256 * x2) + x1) _ _ _ _ _ _ h
def J40_118 (n : Nat) (x2 : Int32) (s0 : Int32) (M : Mem) : Option (Int32 × Mem) :=
  if s0 ≤ 0 then (J40_129 n s0 x2 0 M) else (J40_129 n s0 x2 1 M)
set_option maxRecDepth 100000 in
set_option maxHeartbeats 4000000 in
theorem J40_118_ev (sc : Option (Nat × (Nat → Int32))) (n : Nat)  (e : Nat) (he : 5 ≤ e) : ∀ (x2 : Int32) (s0 : Int32) (u1 : Option Value) (M : Mem) (r : Int32) (M' : Mem), J40_118 n x2 s0 M = some (r, M') → pm_ev pmT sc e 40 false (118, [some (.ref 83), u1, some (.int x2)], [.int s0], 129, 17845, hp M) (some (.int r), 129, 17845, hp M') := by
  intro x2 s0 u1 M r M' h
  unfold J40_118 at h
  refine pe_blk mm_40 3 (s' := (121, [some (.ref 83), some (.int s0), some (.int x2)], [.int s0, .ref 83], _, _, _)) rfl ?_
  by_cases q30 : s0 ≤ 0
  · rw [if_pos q30] at h
    refine pe_blk mm_40 1 (s' := (if s0 ≤ 0 then 128 else 124, [some (.ref 83), some (.int s0), some (.int x2)], [.ref 83], _, _, _)) rfl ?_
    rw [if_pos q30]
    refine pe_blk mm_40 1 (s' := (129, [some (.ref 83), some (.int s0), some (.int x2)], [.int 0, .ref 83], _, _, _)) rfl ?_
    exact J40_129_ev sc n e he s0 x2 0 _ _ _ _ h
  · rw [if_neg q30] at h
    refine pe_blk mm_40 1 (s' := (if s0 ≤ 0 then 128 else 124, [some (.ref 83), some (.int s0), some (.int x2)], [.ref 83], _, _, _)) rfl ?_
    rw [if_neg q30]
    refine pe_blk mm_40 2 (s' := (129, [some (.ref 83), some (.int s0), some (.int x2)], [.int 1, .ref 83], _, _, _)) rfl ?_
    exact J40_129_ev sc n e he s0 x2 1 _ _ _ _ h
def J40_104 (n : Nat) (x2 : Int32) (M : Mem) : Option (Int32 × Mem) :=
  match F31 n 43 M with | some (v26, M27) => (if v26 = 0 then (J40_118 n x2 0 M27) else (J40_118 n x2 2 M27)) | none => none
set_option maxRecDepth 100000 in
set_option maxHeartbeats 4000000 in
theorem J40_104_ev (sc : Option (Nat × (Nat → Int32))) (n : Nat)  (e : Nat) (he : 5 ≤ e) : ∀ (x2 : Int32) (u1 : Option Value) (M : Mem) (r : Int32) (M' : Mem), J40_104 n x2 M = some (r, M') → pm_ev pmT sc e 40 false (104, [some (.ref 83), u1, some (.int x2)], [], 129, 17845, hp M) (some (.int r), 129, 17845, hp M') := by
  intro x2 u1 M r M' h
  unfold J40_104 at h
  refine pe_blk mm_40 2 (s' := (107, [some (.ref 83), u1, some (.int x2)], [.int 43, .ref 83], _, _, _)) rfl ?_
  obtain ⟨e1, rfl⟩ : ∃ e1, e = e1 + 1 := ⟨e - 1, by omega⟩
  cases hc28 : F31 n 43 M with
  | none => rw [hc28] at h; cases h
  | some w =>
    obtain ⟨v26, M27⟩ := w
    rw [hc28] at h
    dsimp only at h
    refine pe_virt (al := [.int 43]) (a := 83) (L0 := [some (.ref 83), some (.int 43)]) (r1 := (some (.int v26), 129, 17845, hp M27)) mm_40 rfl rfl rfl mm_31 rfl (by decide) (by decide) rfl (Nat.le_of_ble_eq_true rfl) (Nat.le_of_ble_eq_true rfl) rfl rfl (F31_ev sc n 43 _ e1 (by omega) _ _ hc28) ?_
    show pm_ev _ _ _ _ _ (110, [some (.ref 83), u1, some (.int x2)], [.int v26], _, _, _) _
    by_cases q29 : v26 = 0
    · rw [if_pos q29] at h
      refine pe_blk mm_40 1 (s' := (if v26 = 0 then 117 else 113, [some (.ref 83), u1, some (.int x2)], [], _, _, _)) rfl ?_
      rw [if_pos q29]
      refine pe_blk mm_40 1 (s' := (118, [some (.ref 83), u1, some (.int x2)], [.int 0], _, _, _)) rfl ?_
      exact J40_118_ev sc n (e1 + 1) he x2 0 _ _ _ _ h
    · rw [if_neg q29] at h
      refine pe_blk mm_40 1 (s' := (if v26 = 0 then 117 else 113, [some (.ref 83), u1, some (.int x2)], [], _, _, _)) rfl ?_
      rw [if_neg q29]
      refine pe_blk mm_40 2 (s' := (118, [some (.ref 83), u1, some (.int x2)], [.int 2], _, _, _)) rfl ?_
      exact J40_118_ev sc n (e1 + 1) he x2 2 _ _ _ _ h
def J40_100 (n : Nat) (x2 : Int32) (M : Mem) : Option (Int32 × Mem) :=
  J40_118 n x2 1 M
set_option maxRecDepth 100000 in
set_option maxHeartbeats 4000000 in
theorem J40_100_ev (sc : Option (Nat × (Nat → Int32))) (n : Nat)  (e : Nat) (he : 5 ≤ e) : ∀ (x2 : Int32) (u1 : Option Value) (M : Mem) (r : Int32) (M' : Mem), J40_100 n x2 M = some (r, M') → pm_ev pmT sc e 40 false (100, [some (.ref 83), u1, some (.int x2)], [], 129, 17845, hp M) (some (.int r), 129, 17845, hp M') := by
  intro x2 u1 M r M' h
  unfold J40_100 at h
  refine pe_blk mm_40 2 (s' := (118, [some (.ref 83), u1, some (.int x2)], [.int 1], _, _, _)) rfl ?_
  exact J40_118_ev sc n e he x2 1 _ _ _ _ h
def J40_83 (n : Nat) (x2 : Int32) (s0 : Int32) (M : Mem) : Option (Int32 × Mem) :=
  match F30 n s0 M with | some (v18, M19) => (if v18 = 0 then (some ((-1), M19)) else (match F31 n 42 M19 with | some (v22, M23) => (if v22 = 0 then (J40_104 n x2 M23) else (J40_100 n x2 M23)) | none => none)) | none => none
set_option maxRecDepth 100000 in
set_option maxHeartbeats 4000000 in
theorem J40_83_ev (sc : Option (Nat × (Nat → Int32))) (n : Nat)  (e : Nat) (he : 5 ≤ e) : ∀ (x2 : Int32) (s0 : Int32) (u1 : Option Value) (M : Mem) (r : Int32) (M' : Mem), J40_83 n x2 s0 M = some (r, M') → pm_ev pmT sc e 40 false (83, [some (.ref 83), u1, some (.int x2)], [.int s0, .ref 83], 129, 17845, hp M) (some (.int r), 129, 17845, hp M') := by
  intro x2 s0 u1 M r M' h
  unfold J40_83 at h
  obtain ⟨e1, rfl⟩ : ∃ e1, e = e1 + 1 := ⟨e - 1, by omega⟩
  cases hc20 : F30 n s0 M with
  | none => rw [hc20] at h; cases h
  | some w =>
    obtain ⟨v18, M19⟩ := w
    rw [hc20] at h
    dsimp only at h
    refine pe_virt (al := [.int s0]) (a := 83) (L0 := [some (.ref 83), some (.int s0)]) (r1 := (some (.int v18), 129, 17845, hp M19)) mm_40 rfl rfl rfl mm_30 rfl (by decide) (by decide) rfl (Nat.le_of_ble_eq_true rfl) (Nat.le_of_ble_eq_true rfl) rfl rfl (F30_ev sc n s0 _ e1 (by omega) _ _ hc20) ?_
    show pm_ev _ _ _ _ _ (86, [some (.ref 83), u1, some (.int x2)], [.int v18], _, _, _) _
    by_cases q21 : v18 = 0
    · rw [if_pos q21] at h
      refine pe_blk mm_40 1 (s' := (if v18 = 0 then 89 else 91, [some (.ref 83), u1, some (.int x2)], [], _, _, _)) rfl ?_
      rw [if_pos q21]
      refine pe_blk mm_40 1 (s' := (90, [some (.ref 83), u1, some (.int x2)], [.int (-1)], _, _, _)) rfl ?_
      cases h
      exact pe_ret mm_40 rfl rfl
    · rw [if_neg q21] at h
      refine pe_blk mm_40 1 (s' := (if v18 = 0 then 89 else 91, [some (.ref 83), u1, some (.int x2)], [], _, _, _)) rfl ?_
      rw [if_neg q21]
      refine pe_blk mm_40 2 (s' := (94, [some (.ref 83), u1, some (.int x2)], [.int 42, .ref 83], _, _, _)) rfl ?_
      skip
      cases hc24 : F31 n 42 M19 with
      | none => rw [hc24] at h; cases h
      | some w =>
        obtain ⟨v22, M23⟩ := w
        rw [hc24] at h
        dsimp only at h
        refine pe_virt (al := [.int 42]) (a := 83) (L0 := [some (.ref 83), some (.int 42)]) (r1 := (some (.int v22), 129, 17845, hp M23)) mm_40 rfl rfl rfl mm_31 rfl (by decide) (by decide) rfl (Nat.le_of_ble_eq_true rfl) (Nat.le_of_ble_eq_true rfl) rfl rfl (F31_ev sc n 42 _ e1 (by omega) _ _ hc24) ?_
        show pm_ev _ _ _ _ _ (97, [some (.ref 83), u1, some (.int x2)], [.int v22], _, _, _) _
        by_cases q25 : v22 = 0
        · rw [if_pos q25] at h
          refine pe_blk mm_40 1 (s' := (if v22 = 0 then 104 else 100, [some (.ref 83), u1, some (.int x2)], [], _, _, _)) rfl ?_
          rw [if_pos q25]
          exact J40_104_ev sc n (e1 + 1) he x2 _ _ _ _ h
        · rw [if_neg q25] at h
          refine pe_blk mm_40 1 (s' := (if v22 = 0 then 104 else 100, [some (.ref 83), u1, some (.int x2)], [], _, _, _)) rfl ?_
          rw [if_neg q25]
          exact J40_100_ev sc n (e1 + 1) he x2 _ _ _ _ h
def J40_82 (n : Nat) (x2 : Int32) (M : Mem) : Option (Int32 × Mem) :=
  J40_83 n x2 0 M
set_option maxRecDepth 100000 in
set_option maxHeartbeats 4000000 in
theorem J40_82_ev (sc : Option (Nat × (Nat → Int32))) (n : Nat)  (e : Nat) (he : 5 ≤ e) : ∀ (x2 : Int32) (u1 : Option Value) (M : Mem) (r : Int32) (M' : Mem), J40_82 n x2 M = some (r, M') → pm_ev pmT sc e 40 false (82, [some (.ref 83), u1, some (.int x2)], [.ref 83], 129, 17845, hp M) (some (.int r), 129, 17845, hp M') := by
  intro x2 u1 M r M' h
  unfold J40_82 at h
  refine pe_blk mm_40 1 (s' := (83, [some (.ref 83), u1, some (.int x2)], [.int 0, .ref 83], _, _, _)) rfl ?_
  exact J40_83_ev sc n e he x2 0 _ _ _ _ h
def J40_40 (n : Nat) (s0 : Int32) (M : Mem) : Option (Int32 × Mem) :=
  if s0 ≤ 0 then (match F19 n (M.1 83 4) 1 3 M with | some (v14, M15) => (if v14 = 0 then (J40_82 n (M.1 83 5) M15) else (match F31 n 36 M15 with | some (v35, M36) => (if v35 = 0 then (J40_83 n (M.1 83 5) 1 M36) else (J40_82 n (M.1 83 5) M36)) | none => none)) | none => none) else (match F28 n M with | some (v39, M40) => (some (s0, M40)) | none => none)
set_option maxRecDepth 100000 in
set_option maxHeartbeats 4000000 in
theorem J40_40_ev (sc : Option (Nat × (Nat → Int32))) (n : Nat)  (e : Nat) (he : 5 ≤ e) : ∀ (s0 : Int32) (u1 : Option Value) (u2 : Option Value) (M : Mem) (r : Int32) (M' : Mem), J40_40 n s0 M = some (r, M') → pm_ev pmT sc e 40 false (40, [some (.ref 83), u1, u2], [.int s0], 129, 17845, hp M) (some (.int r), 129, 17845, hp M') := by
  intro s0 u1 u2 M r M' h
  unfold J40_40 at h
  refine pe_blk mm_40 2 (s' := (42, [some (.ref 83), some (.int s0), u2], [.int s0], _, _, _)) rfl ?_
  by_cases q13 : s0 ≤ 0
  · rw [if_pos q13] at h
    refine pe_blk mm_40 1 (s' := (if s0 ≤ 0 then 51 else 45, [some (.ref 83), some (.int s0), u2], [], _, _, _)) rfl ?_
    rw [if_pos q13]
    refine pe_blk mm_40 1 (s' := (52, [some (.ref 83), some (.int s0), u2], [.ref 83], _, _, _)) rfl ?_
    refine pe_get mm_40 rfl rfl rfl (by decide) rfl ?_
    refine pe_blk mm_40 3 (s' := (58, [some (.ref 83), some (.int s0), some (.int (M.1 83 5))], [.ref 83, .ref 83], _, _, _)) rfl ?_
    refine pe_get mm_40 rfl rfl rfl (by decide) rfl ?_
    refine pe_blk mm_40 2 (s' := (63, [some (.ref 83), some (.int s0), some (.int (M.1 83 5))], [.int 3, .int 1, .int (M.1 83 4), .ref 83], _, _, _)) rfl ?_
    obtain ⟨e1, rfl⟩ : ∃ e1, e = e1 + 1 := ⟨e - 1, by omega⟩
    cases hc16 : F19 n (M.1 83 4) 1 3 M with
    | none => rw [hc16] at h; cases h
    | some w =>
      obtain ⟨v14, M15⟩ := w
      rw [hc16] at h
      dsimp only at h
      refine pe_stat (al := [.int 3, .int 1, .int (M.1 83 4)]) (L0 := [some (.int (M.1 83 4)), some (.int 1), some (.int 3)]) (r1 := (some (.int v14), 129, 17845, hp M15)) mm_40 rfl rfl rfl mm_19 rfl (Nat.le_of_ble_eq_true rfl) (Nat.le_of_ble_eq_true rfl) rfl rfl (F19_ev sc n (M.1 83 4) 1 3 _ e1 (by omega) _ _ hc16) ?_
      show pm_ev _ _ _ _ _ (66, [some (.ref 83), some (.int s0), some (.int (M.1 83 5))], [.int v14, .ref 83], _, _, _) _
      by_cases q17 : v14 = 0
      · rw [if_pos q17] at h
        refine pe_blk mm_40 1 (s' := (if v14 = 0 then 82 else 69, [some (.ref 83), some (.int s0), some (.int (M.1 83 5))], [.ref 83], _, _, _)) rfl ?_
        rw [if_pos q17]
        exact J40_82_ev sc n (e1 + 1) he (M.1 83 5) _ _ _ _ h
      · rw [if_neg q17] at h
        refine pe_blk mm_40 1 (s' := (if v14 = 0 then 82 else 69, [some (.ref 83), some (.int s0), some (.int (M.1 83 5))], [.ref 83], _, _, _)) rfl ?_
        rw [if_neg q17]
        refine pe_blk mm_40 2 (s' := (72, [some (.ref 83), some (.int s0), some (.int (M.1 83 5))], [.int 36, .ref 83, .ref 83], _, _, _)) rfl ?_
        skip
        cases hc37 : F31 n 36 M15 with
        | none => rw [hc37] at h; cases h
        | some w =>
          obtain ⟨v35, M36⟩ := w
          rw [hc37] at h
          dsimp only at h
          refine pe_virt (al := [.int 36]) (a := 83) (L0 := [some (.ref 83), some (.int 36)]) (r1 := (some (.int v35), 129, 17845, hp M36)) mm_40 rfl rfl rfl mm_31 rfl (by decide) (by decide) rfl (Nat.le_of_ble_eq_true rfl) (Nat.le_of_ble_eq_true rfl) rfl rfl (F31_ev sc n 36 _ e1 (by omega) _ _ hc37) ?_
          show pm_ev _ _ _ _ _ (75, [some (.ref 83), some (.int s0), some (.int (M.1 83 5))], [.int v35, .ref 83], _, _, _) _
          by_cases q38 : v35 = 0
          · rw [if_pos q38] at h
            refine pe_blk mm_40 1 (s' := (if v35 = 0 then 78 else 82, [some (.ref 83), some (.int s0), some (.int (M.1 83 5))], [.ref 83], _, _, _)) rfl ?_
            rw [if_pos q38]
            refine pe_blk mm_40 2 (s' := (83, [some (.ref 83), some (.int s0), some (.int (M.1 83 5))], [.int 1, .ref 83], _, _, _)) rfl ?_
            exact J40_83_ev sc n (e1 + 1) he (M.1 83 5) 1 _ _ _ _ h
          · rw [if_neg q38] at h
            refine pe_blk mm_40 1 (s' := (if v35 = 0 then 78 else 82, [some (.ref 83), some (.int s0), some (.int (M.1 83 5))], [.ref 83], _, _, _)) rfl ?_
            rw [if_neg q38]
            exact J40_82_ev sc n (e1 + 1) he (M.1 83 5) _ _ _ _ h
  · rw [if_neg q13] at h
    refine pe_blk mm_40 1 (s' := (if s0 ≤ 0 then 51 else 45, [some (.ref 83), some (.int s0), u2], [], _, _, _)) rfl ?_
    rw [if_neg q13]
    refine pe_blk mm_40 1 (s' := (46, [some (.ref 83), some (.int s0), u2], [.ref 83], _, _, _)) rfl ?_
    obtain ⟨e1, rfl⟩ : ∃ e1, e = e1 + 1 := ⟨e - 1, by omega⟩
    cases hc41 : F28 n M with
    | none => rw [hc41] at h; cases h
    | some w =>
      obtain ⟨v39, M40⟩ := w
      rw [hc41] at h
      dsimp only at h
      refine pe_virt (al := []) (a := 83) (L0 := [some (.ref 83), none, none, none, none, none]) (r1 := (none, 129, 17845, hp M40)) mm_40 rfl rfl rfl mm_28 rfl (by decide) (by decide) rfl (Nat.le_of_ble_eq_true rfl) (Nat.le_of_ble_eq_true rfl) rfl rfl (F28_ev sc n _ e1 (by omega) _ _ hc41) ?_
      show pm_ev _ _ _ _ _ (49, [some (.ref 83), some (.int s0), u2], [], _, _, _) _
      refine pe_blk mm_40 1 (s' := (50, [some (.ref 83), some (.int s0), u2], [.int s0], _, _, _)) rfl ?_
      cases h
      exact pe_ret mm_40 rfl rfl
def J40_26 (n : Nat) (M : Mem) : Option (Int32 × Mem) :=
  match F31 n 63 M with | some (v9, M10) => (if v9 = 0 then (J40_40 n 0 M10) else (J40_40 n 3 M10)) | none => none
set_option maxRecDepth 100000 in
set_option maxHeartbeats 4000000 in
theorem J40_26_ev (sc : Option (Nat × (Nat → Int32))) (n : Nat)  (e : Nat) (he : 5 ≤ e) : ∀ (u1 : Option Value) (u2 : Option Value) (M : Mem) (r : Int32) (M' : Mem), J40_26 n  M = some (r, M') → pm_ev pmT sc e 40 false (26, [some (.ref 83), u1, u2], [], 129, 17845, hp M) (some (.int r), 129, 17845, hp M') := by
  intro u1 u2 M r M' h
  unfold J40_26 at h
  refine pe_blk mm_40 2 (s' := (29, [some (.ref 83), u1, u2], [.int 63, .ref 83], _, _, _)) rfl ?_
  obtain ⟨e1, rfl⟩ : ∃ e1, e = e1 + 1 := ⟨e - 1, by omega⟩
  cases hc11 : F31 n 63 M with
  | none => rw [hc11] at h; cases h
  | some w =>
    obtain ⟨v9, M10⟩ := w
    rw [hc11] at h
    dsimp only at h
    refine pe_virt (al := [.int 63]) (a := 83) (L0 := [some (.ref 83), some (.int 63)]) (r1 := (some (.int v9), 129, 17845, hp M10)) mm_40 rfl rfl rfl mm_31 rfl (by decide) (by decide) rfl (Nat.le_of_ble_eq_true rfl) (Nat.le_of_ble_eq_true rfl) rfl rfl (F31_ev sc n 63 _ e1 (by omega) _ _ hc11) ?_
    show pm_ev _ _ _ _ _ (32, [some (.ref 83), u1, u2], [.int v9], _, _, _) _
    by_cases q12 : v9 = 0
    · rw [if_pos q12] at h
      refine pe_blk mm_40 1 (s' := (if v9 = 0 then 39 else 35, [some (.ref 83), u1, u2], [], _, _, _)) rfl ?_
      rw [if_pos q12]
      refine pe_blk mm_40 1 (s' := (40, [some (.ref 83), u1, u2], [.int 0], _, _, _)) rfl ?_
      exact J40_40_ev sc n (e1 + 1) he 0 _ _ _ _ _ h
    · rw [if_neg q12] at h
      refine pe_blk mm_40 1 (s' := (if v9 = 0 then 39 else 35, [some (.ref 83), u1, u2], [], _, _, _)) rfl ?_
      rw [if_neg q12]
      refine pe_blk mm_40 2 (s' := (40, [some (.ref 83), u1, u2], [.int 3], _, _, _)) rfl ?_
      exact J40_40_ev sc n (e1 + 1) he 3 _ _ _ _ _ h
def J40_22 (n : Nat) (M : Mem) : Option (Int32 × Mem) :=
  J40_40 n 2 M
set_option maxRecDepth 100000 in
set_option maxHeartbeats 4000000 in
theorem J40_22_ev (sc : Option (Nat × (Nat → Int32))) (n : Nat)  (e : Nat) (he : 5 ≤ e) : ∀ (u1 : Option Value) (u2 : Option Value) (M : Mem) (r : Int32) (M' : Mem), J40_22 n  M = some (r, M') → pm_ev pmT sc e 40 false (22, [some (.ref 83), u1, u2], [], 129, 17845, hp M) (some (.int r), 129, 17845, hp M') := by
  intro u1 u2 M r M' h
  unfold J40_22 at h
  refine pe_blk mm_40 2 (s' := (40, [some (.ref 83), u1, u2], [.int 2], _, _, _)) rfl ?_
  exact J40_40_ev sc n e he 2 _ _ _ _ _ h
/-- ArmExpanderModel.readMark -/
def F40 (n : Nat) (M : Mem) : Option (Int32 × Mem) :=
  match F31 n 42 M with | some (v1, M2) => (if v1 = 0 then (match F31 n 43 M2 with | some (v5, M6) => (if v5 = 0 then (J40_26 n M6) else (J40_22 n M6)) | none => none) else (J40_40 n 1 M2)) | none => none
set_option maxRecDepth 100000 in
set_option maxHeartbeats 4000000 in
theorem F40_ev (sc : Option (Nat × (Nat → Int32))) (n : Nat)  (M : Mem) (e : Nat) (he : 5 ≤ e) (r : Int32) (M' : Mem) (h : F40 n M = some (r, M')) : pm_ev pmT sc e 40 false (0, [some (.ref 83), none, none], [], 129, 17845, hp M) (some (.int r), 129, 17845, hp M') := by
  unfold F40 at h
  refine pe_blk mm_40 2 (s' := (3, [some (.ref 83), none, none], [.int 42, .ref 83], _, _, _)) rfl ?_
  obtain ⟨e1, rfl⟩ : ∃ e1, e = e1 + 1 := ⟨e - 1, by omega⟩
  cases hc3 : F31 n 42 M with
  | none => rw [hc3] at h; cases h
  | some w =>
    obtain ⟨v1, M2⟩ := w
    rw [hc3] at h
    dsimp only at h
    refine pe_virt (al := [.int 42]) (a := 83) (L0 := [some (.ref 83), some (.int 42)]) (r1 := (some (.int v1), 129, 17845, hp M2)) mm_40 rfl rfl rfl mm_31 rfl (by decide) (by decide) rfl (Nat.le_of_ble_eq_true rfl) (Nat.le_of_ble_eq_true rfl) rfl rfl (F31_ev sc n 42 _ e1 (by omega) _ _ hc3) ?_
    show pm_ev _ _ _ _ _ (6, [some (.ref 83), none, none], [.int v1], _, _, _) _
    by_cases q4 : v1 = 0
    · rw [if_pos q4] at h
      refine pe_blk mm_40 1 (s' := (if v1 = 0 then 13 else 9, [some (.ref 83), none, none], [], _, _, _)) rfl ?_
      rw [if_pos q4]
      refine pe_blk mm_40 2 (s' := (16, [some (.ref 83), none, none], [.int 43, .ref 83], _, _, _)) rfl ?_
      skip
      cases hc7 : F31 n 43 M2 with
      | none => rw [hc7] at h; cases h
      | some w =>
        obtain ⟨v5, M6⟩ := w
        rw [hc7] at h
        dsimp only at h
        refine pe_virt (al := [.int 43]) (a := 83) (L0 := [some (.ref 83), some (.int 43)]) (r1 := (some (.int v5), 129, 17845, hp M6)) mm_40 rfl rfl rfl mm_31 rfl (by decide) (by decide) rfl (Nat.le_of_ble_eq_true rfl) (Nat.le_of_ble_eq_true rfl) rfl rfl (F31_ev sc n 43 _ e1 (by omega) _ _ hc7) ?_
        show pm_ev _ _ _ _ _ (19, [some (.ref 83), none, none], [.int v5], _, _, _) _
        by_cases q8 : v5 = 0
        · rw [if_pos q8] at h
          refine pe_blk mm_40 1 (s' := (if v5 = 0 then 26 else 22, [some (.ref 83), none, none], [], _, _, _)) rfl ?_
          rw [if_pos q8]
          exact J40_26_ev sc n (e1 + 1) he _ _ _ _ _ h
        · rw [if_neg q8] at h
          refine pe_blk mm_40 1 (s' := (if v5 = 0 then 26 else 22, [some (.ref 83), none, none], [], _, _, _)) rfl ?_
          rw [if_neg q8]
          exact J40_22_ev sc n (e1 + 1) he _ _ _ _ _ h
    · rw [if_neg q4] at h
      refine pe_blk mm_40 1 (s' := (if v1 = 0 then 13 else 9, [some (.ref 83), none, none], [], _, _, _)) rfl ?_
      rw [if_neg q4]
      refine pe_blk mm_40 2 (s' := (40, [some (.ref 83), none, none], [.int 1], _, _, _)) rfl ?_
      exact J40_40_ev sc n (e1 + 1) he 1 _ _ _ _ _ h
def J41_64 (n : Nat) (s0 : Int32) (M : Mem) : Option (Int32 × Mem) :=
  some (s0, M)
set_option maxRecDepth 100000 in
set_option maxHeartbeats 4000000 in
theorem J41_64_ev (sc : Option (Nat × (Nat → Int32))) (n : Nat)  (e : Nat) (he : 2 ≤ e) : ∀ (s0 : Int32) (u0 : Option Value) (M : Mem) (r : Int32) (M' : Mem), J41_64 n s0 M = some (r, M') → pm_ev pmT sc e 41 false (64, [u0], [.int s0], 129, 17845, hp M) (some (.int r), 129, 17845, hp M') := by
  intro s0 u0 M r M' h
  unfold J41_64 at h
  cases h
  exact pe_ret mm_41 rfl rfl
def J41_28 (n : Nat) (M : Mem) : Option (Int32 × Mem) :=
  J41_64 n 2 M
set_option maxRecDepth 100000 in
set_option maxHeartbeats 4000000 in
theorem J41_28_ev (sc : Option (Nat × (Nat → Int32))) (n : Nat)  (e : Nat) (he : 2 ≤ e) : ∀ (u0 : Option Value) (M : Mem) (r : Int32) (M' : Mem), J41_28 n  M = some (r, M') → pm_ev pmT sc e 41 false (28, [u0], [], 129, 17845, hp M) (some (.int r), 129, 17845, hp M') := by
  intro u0 M r M' h
  unfold J41_28 at h
  refine pe_blk mm_41 2 (s' := (64, [u0], [.int 2], _, _, _)) rfl ?_
  exact J41_64_ev sc n e he 2 _ _ _ _ h
def J41_59 (n : Nat) (M : Mem) : Option (Int32 × Mem) :=
  J41_64 n 4 M
set_option maxRecDepth 100000 in
set_option maxHeartbeats 4000000 in
theorem J41_59_ev (sc : Option (Nat × (Nat → Int32))) (n : Nat)  (e : Nat) (he : 2 ≤ e) : ∀ (u0 : Option Value) (M : Mem) (r : Int32) (M' : Mem), J41_59 n  M = some (r, M') → pm_ev pmT sc e 41 false (59, [u0], [], 129, 17845, hp M) (some (.int r), 129, 17845, hp M') := by
  intro u0 M r M' h
  unfold J41_59 at h
  refine pe_blk mm_41 2 (s' := (64, [u0], [.int 4], _, _, _)) rfl ?_
  exact J41_64_ev sc n e he 4 _ _ _ _ h
def J41_63 (n : Nat) (M : Mem) : Option (Int32 × Mem) :=
  J41_64 n 0 M
set_option maxRecDepth 100000 in
set_option maxHeartbeats 4000000 in
theorem J41_63_ev (sc : Option (Nat × (Nat → Int32))) (n : Nat)  (e : Nat) (he : 2 ≤ e) : ∀ (u0 : Option Value) (M : Mem) (r : Int32) (M' : Mem), J41_63 n  M = some (r, M') → pm_ev pmT sc e 41 false (63, [u0], [], 129, 17845, hp M) (some (.int r), 129, 17845, hp M') := by
  intro u0 M r M' h
  unfold J41_63 at h
  refine pe_blk mm_41 1 (s' := (64, [u0], [.int 0], _, _, _)) rfl ?_
  exact J41_64_ev sc n e he 0 _ _ _ _ h
def J41_32 (n : Nat) (x0 : Int32) (M : Mem) : Option (Int32 × Mem) :=
  match F27 n 20 20 0 M with | some (v9, M10) => (if x0 = v9 then (J41_64 n 3 M10) else (match F27 n 5 24 0 M10 with | some (v13, M14) => (if x0 = v13 then (J41_59 n M14) else (J41_63 n M14)) | none => none)) | none => none
set_option maxRecDepth 100000 in
set_option maxHeartbeats 4000000 in
theorem J41_32_ev (sc : Option (Nat × (Nat → Int32))) (n : Nat)  (e : Nat) (he : 2 ≤ e) : ∀ (x0 : Int32) (M : Mem) (r : Int32) (M' : Mem), J41_32 n x0 M = some (r, M') → pm_ev pmT sc e 41 false (32, [some (.int x0)], [], 129, 17845, hp M) (some (.int r), 129, 17845, hp M') := by
  intro x0  M r M' h
  unfold J41_32 at h
  refine pe_blk mm_41 4 (s' := (38, [some (.int x0)], [.int 0, .int 20, .int 20, .int x0], _, _, _)) rfl ?_
  obtain ⟨e1, rfl⟩ : ∃ e1, e = e1 + 1 := ⟨e - 1, by omega⟩
  cases hc11 : F27 n 20 20 0 M with
  | none => rw [hc11] at h; cases h
  | some w =>
    obtain ⟨v9, M10⟩ := w
    rw [hc11] at h
    dsimp only at h
    refine pe_stat (al := [.int 0, .int 20, .int 20]) (L0 := [some (.int 20), some (.int 20), some (.int 0)]) (r1 := (some (.int v9), 129, 17845, hp M10)) mm_41 rfl rfl rfl mm_27 rfl (Nat.le_of_ble_eq_true rfl) (Nat.le_of_ble_eq_true rfl) rfl rfl (F27_ev sc n 20 20 0 _ e1 (by omega) _ _ hc11) ?_
    show pm_ev _ _ _ _ _ (41, [some (.int x0)], [.int v9, .int x0], _, _, _) _
    by_cases q12 : x0 = v9
    · rw [if_pos q12] at h
      refine pe_blk mm_41 1 (s' := (if x0 = v9 then 44 else 48, [some (.int x0)], [], _, _, _)) rfl ?_
      rw [if_pos q12]
      refine pe_blk mm_41 2 (s' := (64, [some (.int x0)], [.int 3], _, _, _)) rfl ?_
      exact J41_64_ev sc n (e1 + 1) he 3 _ _ _ _ h
    · rw [if_neg q12] at h
      refine pe_blk mm_41 1 (s' := (if x0 = v9 then 44 else 48, [some (.int x0)], [], _, _, _)) rfl ?_
      rw [if_neg q12]
      refine pe_blk mm_41 4 (s' := (53, [some (.int x0)], [.int 0, .int 24, .int 5, .int x0], _, _, _)) rfl ?_
      skip
      cases hc15 : F27 n 5 24 0 M10 with
      | none => rw [hc15] at h; cases h
      | some w =>
        obtain ⟨v13, M14⟩ := w
        rw [hc15] at h
        dsimp only at h
        refine pe_stat (al := [.int 0, .int 24, .int 5]) (L0 := [some (.int 5), some (.int 24), some (.int 0)]) (r1 := (some (.int v13), 129, 17845, hp M14)) mm_41 rfl rfl rfl mm_27 rfl (Nat.le_of_ble_eq_true rfl) (Nat.le_of_ble_eq_true rfl) rfl rfl (F27_ev sc n 5 24 0 _ e1 (by omega) _ _ hc15) ?_
        show pm_ev _ _ _ _ _ (56, [some (.int x0)], [.int v13, .int x0], _, _, _) _
        by_cases q16 : x0 = v13
        · rw [if_pos q16] at h
          refine pe_blk mm_41 1 (s' := (if x0 = v13 then 59 else 63, [some (.int x0)], [], _, _, _)) rfl ?_
          rw [if_pos q16]
          exact J41_59_ev sc n (e1 + 1) he _ _ _ _ h
        · rw [if_neg q16] at h
          refine pe_blk mm_41 1 (s' := (if x0 = v13 then 59 else 63, [some (.int x0)], [], _, _, _)) rfl ?_
          rw [if_neg q16]
          exact J41_63_ev sc n (e1 + 1) he _ _ _ _ h
/-- ArmExpanderModel.kindOf -/
def F41 (n : Nat) (a0 : Int32) (M : Mem) : Option (Int32 × Mem) :=
  match F27 n 9 4 0 M with | some (v1, M2) => (if a0 = v1 then (J41_64 n 1 M2) else (match F27 n 14 21 13 M2 with | some (v5, M6) => (if a0 = v5 then (J41_28 n M6) else (J41_32 n a0 M6)) | none => none)) | none => none
set_option maxRecDepth 100000 in
set_option maxHeartbeats 4000000 in
theorem F41_ev (sc : Option (Nat × (Nat → Int32))) (n : Nat) (a0 : Int32)  (M : Mem) (e : Nat) (he : 2 ≤ e) (r : Int32) (M' : Mem) (h : F41 n a0 M = some (r, M')) : pm_ev pmT sc e 41 false (0, [some (.int a0)], [], 129, 17845, hp M) (some (.int r), 129, 17845, hp M') := by
  unfold F41 at h
  refine pe_blk mm_41 4 (s' := (5, [some (.int a0)], [.int 0, .int 4, .int 9, .int a0], _, _, _)) rfl ?_
  obtain ⟨e1, rfl⟩ : ∃ e1, e = e1 + 1 := ⟨e - 1, by omega⟩
  cases hc3 : F27 n 9 4 0 M with
  | none => rw [hc3] at h; cases h
  | some w =>
    obtain ⟨v1, M2⟩ := w
    rw [hc3] at h
    dsimp only at h
    refine pe_stat (al := [.int 0, .int 4, .int 9]) (L0 := [some (.int 9), some (.int 4), some (.int 0)]) (r1 := (some (.int v1), 129, 17845, hp M2)) mm_41 rfl rfl rfl mm_27 rfl (Nat.le_of_ble_eq_true rfl) (Nat.le_of_ble_eq_true rfl) rfl rfl (F27_ev sc n 9 4 0 _ e1 (by omega) _ _ hc3) ?_
    show pm_ev _ _ _ _ _ (8, [some (.int a0)], [.int v1, .int a0], _, _, _) _
    by_cases q4 : a0 = v1
    · rw [if_pos q4] at h
      refine pe_blk mm_41 1 (s' := (if a0 = v1 then 11 else 15, [some (.int a0)], [], _, _, _)) rfl ?_
      rw [if_pos q4]
      refine pe_blk mm_41 2 (s' := (64, [some (.int a0)], [.int 1], _, _, _)) rfl ?_
      exact J41_64_ev sc n (e1 + 1) he 1 _ _ _ _ h
    · rw [if_neg q4] at h
      refine pe_blk mm_41 1 (s' := (if a0 = v1 then 11 else 15, [some (.int a0)], [], _, _, _)) rfl ?_
      rw [if_neg q4]
      refine pe_blk mm_41 4 (s' := (22, [some (.int a0)], [.int 13, .int 21, .int 14, .int a0], _, _, _)) rfl ?_
      skip
      cases hc7 : F27 n 14 21 13 M2 with
      | none => rw [hc7] at h; cases h
      | some w =>
        obtain ⟨v5, M6⟩ := w
        rw [hc7] at h
        dsimp only at h
        refine pe_stat (al := [.int 13, .int 21, .int 14]) (L0 := [some (.int 14), some (.int 21), some (.int 13)]) (r1 := (some (.int v5), 129, 17845, hp M6)) mm_41 rfl rfl rfl mm_27 rfl (Nat.le_of_ble_eq_true rfl) (Nat.le_of_ble_eq_true rfl) rfl rfl (F27_ev sc n 14 21 13 _ e1 (by omega) _ _ hc7) ?_
        show pm_ev _ _ _ _ _ (25, [some (.int a0)], [.int v5, .int a0], _, _, _) _
        by_cases q8 : a0 = v5
        · rw [if_pos q8] at h
          refine pe_blk mm_41 1 (s' := (if a0 = v5 then 28 else 32, [some (.int a0)], [], _, _, _)) rfl ?_
          rw [if_pos q8]
          exact J41_28_ev sc n (e1 + 1) he _ _ _ _ h
        · rw [if_neg q8] at h
          refine pe_blk mm_41 1 (s' := (if a0 = v5 then 28 else 32, [some (.int a0)], [], _, _, _)) rfl ?_
          rw [if_neg q8]
          exact J41_32_ev sc n (e1 + 1) he a0 _ _ _ h
def J42_21 (n : Nat) (x2 : Int32) (M : Mem) : Option (Int32 × Mem) :=
  match F36 n 7 x2 M with | some (v6, M7) => (some (1, M7)) | none => none
set_option maxRecDepth 100000 in
set_option maxHeartbeats 4000000 in
theorem J42_21_ev (sc : Option (Nat × (Nat → Int32))) (n : Nat)  (e : Nat) (he : 5 ≤ e) : ∀ (x2 : Int32) (u1 : Option Value) (u3 : Option Value) (M : Mem) (r : Int32) (M' : Mem), J42_21 n x2 M = some (r, M') → pm_ev pmT sc e 42 false (21, [some (.ref 83), u1, some (.int x2), u3], [], 129, 17845, hp M) (some (.int r), 129, 17845, hp M') := by
  intro x2 u1 u3 M r M' h
  unfold J42_21 at h
  refine pe_blk mm_42 3 (s' := (25, [some (.ref 83), u1, some (.int x2), u3], [.int x2, .int 7, .ref 83], _, _, _)) rfl ?_
  obtain ⟨e1, rfl⟩ : ∃ e1, e = e1 + 1 := ⟨e - 1, by omega⟩
  cases hc8 : F36 n 7 x2 M with
  | none => rw [hc8] at h; cases h
  | some w =>
    obtain ⟨v6, M7⟩ := w
    rw [hc8] at h
    dsimp only at h
    refine pe_virt (al := [.int x2, .int 7]) (a := 83) (L0 := [some (.ref 83), some (.int 7), some (.int x2)]) (r1 := (none, 129, 17845, hp M7)) mm_42 rfl rfl rfl mm_36 rfl (by decide) (by decide) rfl (Nat.le_of_ble_eq_true rfl) (Nat.le_of_ble_eq_true rfl) rfl rfl (F36_ev sc n 7 x2 _ e1 (by omega) _ _ hc8) ?_
    show pm_ev _ _ _ _ _ (28, [some (.ref 83), u1, some (.int x2), u3], [], _, _, _) _
    refine pe_blk mm_42 1 (s' := (29, [some (.ref 83), u1, some (.int x2), u3], [.int 1], _, _, _)) rfl ?_
    cases h
    exact pe_ret mm_42 rfl rfl
def J42_82 (n : Nat) (s0 : Int32) (M : Mem) : Option (Int32 × Mem) :=
  match F30 n s0 M with | some (v24, M25) => (if v24 = 0 ∨ v24 = 1 then some (v24, M25) else none) | none => none
set_option maxRecDepth 100000 in
set_option maxHeartbeats 4000000 in
theorem J42_82_ev (sc : Option (Nat × (Nat → Int32))) (n : Nat)  (e : Nat) (he : 5 ≤ e) : ∀ (s0 : Int32) (u0 : Option Value) (u1 : Option Value) (u2 : Option Value) (u3 : Option Value) (M : Mem) (r : Int32) (M' : Mem), J42_82 n s0 M = some (r, M') → pm_ev pmT sc e 42 false (82, [u0, u1, u2, u3], [.int s0, .ref 83], 129, 17845, hp M) (some (.int r), 129, 17845, hp M') := by
  intro s0 u0 u1 u2 u3 M r M' h
  unfold J42_82 at h
  obtain ⟨e1, rfl⟩ : ∃ e1, e = e1 + 1 := ⟨e - 1, by omega⟩
  cases hc26 : F30 n s0 M with
  | none => rw [hc26] at h; cases h
  | some w =>
    obtain ⟨v24, M25⟩ := w
    rw [hc26] at h
    dsimp only at h
    refine pe_virt (al := [.int s0]) (a := 83) (L0 := [some (.ref 83), some (.int s0)]) (r1 := (some (.int v24), 129, 17845, hp M25)) mm_42 rfl rfl rfl mm_30 rfl (by decide) (by decide) rfl (Nat.le_of_ble_eq_true rfl) (Nat.le_of_ble_eq_true rfl) rfl rfl (F30_ev sc n s0 _ e1 (by omega) _ _ hc26) ?_
    show pm_ev _ _ _ _ _ (85, [u0, u1, u2, u3], [.int v24], _, _, _) _
    by_cases q27 : v24 = 0 ∨ v24 = 1
    · rw [if_pos q27] at h
      cases h
      exact pe_ret mm_42 rfl (if_pos q27)
    · rw [if_neg q27] at h
      cases h
def J42_64 (n : Nat) (x2 : Int32) (s0 : Int32) (M : Mem) : Option (Int32 × Mem) :=
  match F35 n 3 x2 s0 M with | some (v20, M21) => (if s0 ≤ 0 then (J42_82 n 0 M21) else (J42_82 n 1 M21)) | none => none
set_option maxRecDepth 100000 in
set_option maxHeartbeats 4000000 in
theorem J42_64_ev (sc : Option (Nat × (Nat → Int32))) (n : Nat)  (e : Nat) (he : 5 ≤ e) : ∀ (x2 : Int32) (s0 : Int32) (u1 : Option Value) (u3 : Option Value) (M : Mem) (r : Int32) (M' : Mem), J42_64 n x2 s0 M = some (r, M') → pm_ev pmT sc e 42 false (64, [some (.ref 83), u1, some (.int x2), u3], [.int s0], 129, 17845, hp M) (some (.int r), 129, 17845, hp M') := by
  intro x2 s0 u1 u3 M r M' h
  unfold J42_64 at h
  refine pe_blk mm_42 5 (s' := (69, [some (.ref 83), u1, some (.int x2), some (.int s0)], [.int s0, .int x2, .int 3, .ref 83], _, _, _)) rfl ?_
  obtain ⟨e1, rfl⟩ : ∃ e1, e = e1 + 1 := ⟨e - 1, by omega⟩
  cases hc22 : F35 n 3 x2 s0 M with
  | none => rw [hc22] at h; cases h
  | some w =>
    obtain ⟨v20, M21⟩ := w
    rw [hc22] at h
    dsimp only at h
    refine pe_virt (al := [.int s0, .int x2, .int 3]) (a := 83) (L0 := [some (.ref 83), some (.int 3), some (.int x2), some (.int s0)]) (r1 := (none, 129, 17845, hp M21)) mm_42 rfl rfl rfl mm_35 rfl (by decide) (by decide) rfl (Nat.le_of_ble_eq_true rfl) (Nat.le_of_ble_eq_true rfl) rfl rfl (F35_ev sc n 3 x2 s0 _ e1 (by omega) _ _ hc22) ?_
    show pm_ev _ _ _ _ _ (72, [some (.ref 83), u1, some (.int x2), some (.int s0)], [], _, _, _) _
    refine pe_blk mm_42 2 (s' := (74, [some (.ref 83), u1, some (.int x2), some (.int s0)], [.int s0, .ref 83], _, _, _)) rfl ?_
    by_cases q23 : s0 ≤ 0
    · rw [if_pos q23] at h
      refine pe_blk mm_42 1 (s' := (if s0 ≤ 0 then 81 else 77, [some (.ref 83), u1, some (.int x2), some (.int s0)], [.ref 83], _, _, _)) rfl ?_
      rw [if_pos q23]
      refine pe_blk mm_42 1 (s' := (82, [some (.ref 83), u1, some (.int x2), some (.int s0)], [.int 0, .ref 83], _, _, _)) rfl ?_
      exact J42_82_ev sc n (e1 + 1) he 0 _ _ _ _ _ _ _ h
    · rw [if_neg q23] at h
      refine pe_blk mm_42 1 (s' := (if s0 ≤ 0 then 81 else 77, [some (.ref 83), u1, some (.int x2), some (.int s0)], [.ref 83], _, _, _)) rfl ?_
      rw [if_neg q23]
      refine pe_blk mm_42 2 (s' := (82, [some (.ref 83), u1, some (.int x2), some (.int s0)], [.int 1, .ref 83], _, _, _)) rfl ?_
      exact J42_82_ev sc n (e1 + 1) he 1 _ _ _ _ _ _ _ h
def J42_53 (n : Nat) (x2 : Int32) (M : Mem) : Option (Int32 × Mem) :=
  match F41 n (M.1 83 5) M with | some (v17, M18) => (J42_64 n x2 v17 M18) | none => none
set_option maxRecDepth 100000 in
set_option maxHeartbeats 4000000 in
theorem J42_53_ev (sc : Option (Nat × (Nat → Int32))) (n : Nat)  (e : Nat) (he : 5 ≤ e) : ∀ (x2 : Int32) (u1 : Option Value) (u3 : Option Value) (M : Mem) (r : Int32) (M' : Mem), J42_53 n x2 M = some (r, M') → pm_ev pmT sc e 42 false (53, [some (.ref 83), u1, some (.int x2), u3], [], 129, 17845, hp M) (some (.int r), 129, 17845, hp M') := by
  intro x2 u1 u3 M r M' h
  unfold J42_53 at h
  refine pe_blk mm_42 1 (s' := (54, [some (.ref 83), u1, some (.int x2), u3], [.ref 83], _, _, _)) rfl ?_
  refine pe_get mm_42 rfl rfl rfl (by decide) rfl ?_
  obtain ⟨e1, rfl⟩ : ∃ e1, e = e1 + 1 := ⟨e - 1, by omega⟩
  cases hc19 : F41 n (M.1 83 5) M with
  | none => rw [hc19] at h; cases h
  | some w =>
    obtain ⟨v17, M18⟩ := w
    rw [hc19] at h
    dsimp only at h
    refine pe_stat (al := [.int (M.1 83 5)]) (L0 := [some (.int (M.1 83 5))]) (r1 := (some (.int v17), 129, 17845, hp M18)) mm_42 rfl rfl rfl mm_41 rfl (Nat.le_of_ble_eq_true rfl) (Nat.le_of_ble_eq_true rfl) rfl rfl (F41_ev sc n (M.1 83 5) _ e1 (by omega) _ _ hc19) ?_
    show pm_ev _ _ _ _ _ (60, [some (.ref 83), u1, some (.int x2), u3], [.int v17], _, _, _) _
    refine pe_blk mm_42 1 (s' := (64, [some (.ref 83), u1, some (.int x2), u3], [.int v17], _, _, _)) rfl ?_
    exact J42_64_ev sc n (e1 + 1) he x2 v17 _ _ _ _ _ h
def J42_63 (n : Nat) (x2 : Int32) (M : Mem) : Option (Int32 × Mem) :=
  J42_64 n x2 0 M
set_option maxRecDepth 100000 in
set_option maxHeartbeats 4000000 in
theorem J42_63_ev (sc : Option (Nat × (Nat → Int32))) (n : Nat)  (e : Nat) (he : 5 ≤ e) : ∀ (x2 : Int32) (u1 : Option Value) (u3 : Option Value) (M : Mem) (r : Int32) (M' : Mem), J42_63 n x2 M = some (r, M') → pm_ev pmT sc e 42 false (63, [some (.ref 83), u1, some (.int x2), u3], [], 129, 17845, hp M) (some (.int r), 129, 17845, hp M') := by
  intro x2 u1 u3 M r M' h
  unfold J42_63 at h
  refine pe_blk mm_42 1 (s' := (64, [some (.ref 83), u1, some (.int x2), u3], [.int 0], _, _, _)) rfl ?_
  exact J42_64_ev sc n e he x2 0 _ _ _ _ _ h
def J42_30 (n : Nat) (x2 : Int32) (M : Mem) : Option (Int32 × Mem) :=
  match F31 n 58 M with | some (v9, M10) => (match F30 n v9 M10 with | some (v12, M13) => (if v12 = 0 then (some (0, M13)) else (if (M13.1 83 4) = 1 then (J42_53 n x2 M13) else (J42_63 n x2 M13))) | none => none) | none => none
set_option maxRecDepth 100000 in
set_option maxHeartbeats 4000000 in
theorem J42_30_ev (sc : Option (Nat × (Nat → Int32))) (n : Nat)  (e : Nat) (he : 5 ≤ e) : ∀ (x2 : Int32) (u1 : Option Value) (u3 : Option Value) (M : Mem) (r : Int32) (M' : Mem), J42_30 n x2 M = some (r, M') → pm_ev pmT sc e 42 false (30, [some (.ref 83), u1, some (.int x2), u3], [], 129, 17845, hp M) (some (.int r), 129, 17845, hp M') := by
  intro x2 u1 u3 M r M' h
  unfold J42_30 at h
  refine pe_blk mm_42 3 (s' := (34, [some (.ref 83), u1, some (.int x2), u3], [.int 58, .ref 83, .ref 83], _, _, _)) rfl ?_
  obtain ⟨e1, rfl⟩ : ∃ e1, e = e1 + 1 := ⟨e - 1, by omega⟩
  cases hc11 : F31 n 58 M with
  | none => rw [hc11] at h; cases h
  | some w =>
    obtain ⟨v9, M10⟩ := w
    rw [hc11] at h
    dsimp only at h
    refine pe_virt (al := [.int 58]) (a := 83) (L0 := [some (.ref 83), some (.int 58)]) (r1 := (some (.int v9), 129, 17845, hp M10)) mm_42 rfl rfl rfl mm_31 rfl (by decide) (by decide) rfl (Nat.le_of_ble_eq_true rfl) (Nat.le_of_ble_eq_true rfl) rfl rfl (F31_ev sc n 58 _ e1 (by omega) _ _ hc11) ?_
    show pm_ev _ _ _ _ _ (37, [some (.ref 83), u1, some (.int x2), u3], [.int v9, .ref 83], _, _, _) _
    skip
    cases hc14 : F30 n v9 M10 with
    | none => rw [hc14] at h; cases h
    | some w =>
      obtain ⟨v12, M13⟩ := w
      rw [hc14] at h
      dsimp only at h
      refine pe_virt (al := [.int v9]) (a := 83) (L0 := [some (.ref 83), some (.int v9)]) (r1 := (some (.int v12), 129, 17845, hp M13)) mm_42 rfl rfl rfl mm_30 rfl (by decide) (by decide) rfl (Nat.le_of_ble_eq_true rfl) (Nat.le_of_ble_eq_true rfl) rfl rfl (F30_ev sc n v9 _ e1 (by omega) _ _ hc14) ?_
      show pm_ev _ _ _ _ _ (40, [some (.ref 83), u1, some (.int x2), u3], [.int v12], _, _, _) _
      by_cases q15 : v12 = 0
      · rw [if_pos q15] at h
        refine pe_blk mm_42 1 (s' := (if v12 = 0 then 43 else 45, [some (.ref 83), u1, some (.int x2), u3], [], _, _, _)) rfl ?_
        rw [if_pos q15]
        refine pe_blk mm_42 1 (s' := (44, [some (.ref 83), u1, some (.int x2), u3], [.int 0], _, _, _)) rfl ?_
        cases h
        exact pe_ret mm_42 rfl rfl
      · rw [if_neg q15] at h
        refine pe_blk mm_42 1 (s' := (if v12 = 0 then 43 else 45, [some (.ref 83), u1, some (.int x2), u3], [], _, _, _)) rfl ?_
        rw [if_neg q15]
        refine pe_blk mm_42 1 (s' := (46, [some (.ref 83), u1, some (.int x2), u3], [.ref 83], _, _, _)) rfl ?_
        refine pe_get mm_42 rfl rfl rfl (by decide) rfl ?_
        refine pe_blk mm_42 1 (s' := (50, [some (.ref 83), u1, some (.int x2), u3], [.int 1, .int (M13.1 83 4)], _, _, _)) rfl ?_
        by_cases q16 : (M13.1 83 4) = 1
        · rw [if_pos q16] at h
          refine pe_blk mm_42 1 (s' := (if (M13.1 83 4) = 1 then 53 else 63, [some (.ref 83), u1, some (.int x2), u3], [], _, _, _)) rfl ?_
          rw [if_pos q16]
          exact J42_53_ev sc n (e1 + 1) he x2 _ _ _ _ _ h
        · rw [if_neg q16] at h
          refine pe_blk mm_42 1 (s' := (if (M13.1 83 4) = 1 then 53 else 63, [some (.ref 83), u1, some (.int x2), u3], [], _, _, _)) rfl ?_
          rw [if_neg q16]
          exact J42_63_ev sc n (e1 + 1) he x2 _ _ _ _ _ h
def J42_114 (n : Nat) (M : Mem) : Option (Int32 × Mem) :=
  match F29 n M with | some (v32, M33) => (if v32 = 0 ∨ v32 = 1 then some (v32, M33) else none) | none => none
set_option maxRecDepth 100000 in
set_option maxHeartbeats 4000000 in
theorem J42_114_ev (sc : Option (Nat × (Nat → Int32))) (n : Nat)  (e : Nat) (he : 5 ≤ e) : ∀ (u1 : Option Value) (u2 : Option Value) (u3 : Option Value) (M : Mem) (r : Int32) (M' : Mem), J42_114 n  M = some (r, M') → pm_ev pmT sc e 42 false (114, [some (.ref 83), u1, u2, u3], [], 129, 17845, hp M) (some (.int r), 129, 17845, hp M') := by
  intro u1 u2 u3 M r M' h
  unfold J42_114 at h
  refine pe_blk mm_42 1 (s' := (115, [some (.ref 83), u1, u2, u3], [.ref 83], _, _, _)) rfl ?_
  obtain ⟨e1, rfl⟩ : ∃ e1, e = e1 + 1 := ⟨e - 1, by omega⟩
  cases hc34 : F29 n M with
  | none => rw [hc34] at h; cases h
  | some w =>
    obtain ⟨v32, M33⟩ := w
    rw [hc34] at h
    dsimp only at h
    refine pe_virt (al := []) (a := 83) (L0 := [some (.ref 83)]) (r1 := (some (.int v32), 129, 17845, hp M33)) mm_42 rfl rfl rfl mm_29 rfl (by decide) (by decide) rfl (Nat.le_of_ble_eq_true rfl) (Nat.le_of_ble_eq_true rfl) rfl rfl (F29_ev sc n _ e1 (by omega) _ _ hc34) ?_
    show pm_ev _ _ _ _ _ (118, [some (.ref 83), u1, u2, u3], [.int v32], _, _, _) _
    by_cases q35 : v32 = 0 ∨ v32 = 1
    · rw [if_pos q35] at h
      cases h
      exact pe_ret mm_42 rfl (if_pos q35)
    · rw [if_neg q35] at h
      cases h
def J42_142 (n : Nat) (M : Mem) : Option (Int32 × Mem) :=
  some (0, M)
set_option maxRecDepth 100000 in
set_option maxHeartbeats 4000000 in
theorem J42_142_ev (sc : Option (Nat × (Nat → Int32))) (n : Nat)  (e : Nat) (he : 5 ≤ e) : ∀ (u0 : Option Value) (u1 : Option Value) (u2 : Option Value) (u3 : Option Value) (M : Mem) (r : Int32) (M' : Mem), J42_142 n  M = some (r, M') → pm_ev pmT sc e 42 false (142, [u0, u1, u2, u3], [], 129, 17845, hp M) (some (.int r), 129, 17845, hp M') := by
  intro u0 u1 u2 u3 M r M' h
  unfold J42_142 at h
  refine pe_blk mm_42 1 (s' := (143, [u0, u1, u2, u3], [.int 0], _, _, _)) rfl ?_
  cases h
  exact pe_ret mm_42 rfl rfl
def J42_164 (n : Nat) (x2 : Int32) (M : Mem) : Option (Int32 × Mem) :=
  match F38 n x2 M with | some (v47, M48) => (some (1, M48)) | none => none
set_option maxRecDepth 100000 in
set_option maxHeartbeats 4000000 in
theorem J42_164_ev (sc : Option (Nat × (Nat → Int32))) (n : Nat)  (e : Nat) (he : 5 ≤ e) : ∀ (x2 : Int32) (u1 : Option Value) (u3 : Option Value) (M : Mem) (r : Int32) (M' : Mem), J42_164 n x2 M = some (r, M') → pm_ev pmT sc e 42 false (164, [some (.ref 83), u1, some (.int x2), u3], [], 129, 17845, hp M) (some (.int r), 129, 17845, hp M') := by
  intro x2 u1 u3 M r M' h
  unfold J42_164 at h
  refine pe_blk mm_42 2 (s' := (166, [some (.ref 83), u1, some (.int x2), u3], [.int x2, .ref 83], _, _, _)) rfl ?_
  obtain ⟨e1, rfl⟩ : ∃ e1, e = e1 + 1 := ⟨e - 1, by omega⟩
  cases hc49 : F38 n x2 M with
  | none => rw [hc49] at h; cases h
  | some w =>
    obtain ⟨v47, M48⟩ := w
    rw [hc49] at h
    dsimp only at h
    refine pe_virt (al := [.int x2]) (a := 83) (L0 := [some (.ref 83), some (.int x2)]) (r1 := (none, 129, 17845, hp M48)) mm_42 rfl rfl rfl mm_38 rfl (by decide) (by decide) rfl (Nat.le_of_ble_eq_true rfl) (Nat.le_of_ble_eq_true rfl) rfl rfl (F38_ev sc n x2 _ e1 (by omega) _ _ hc49) ?_
    show pm_ev _ _ _ _ _ (169, [some (.ref 83), u1, some (.int x2), u3], [], _, _, _) _
    refine pe_blk mm_42 1 (s' := (170, [some (.ref 83), u1, some (.int x2), u3], [.int 1], _, _, _)) rfl ?_
    cases h
    exact pe_ret mm_42 rfl rfl
def J42_144 (n : Nat) (x1 : Int32) (x2 : Int32) (M : Mem) : Option (Int32 × Mem) :=
  if x1 = 0 then (match F36 n 4 0 M with | some (v44, M45) => (J42_164 n x2 M45) | none => none) else (match F35 n 4 0 0 M with | some (v50, M51) => (J42_164 n x2 M51) | none => none)
set_option maxRecDepth 100000 in
set_option maxHeartbeats 4000000 in
theorem J42_144_ev (sc : Option (Nat × (Nat → Int32))) (n : Nat)  (e : Nat) (he : 5 ≤ e) : ∀ (x1 : Int32) (x2 : Int32) (u3 : Option Value) (M : Mem) (r : Int32) (M' : Mem), J42_144 n x1 x2 M = some (r, M') → pm_ev pmT sc e 42 false (144, [some (.ref 83), some (.int x1), some (.int x2), u3], [], 129, 17845, hp M) (some (.int r), 129, 17845, hp M') := by
  intro x1 x2 u3 M r M' h
  unfold J42_144 at h
  refine pe_blk mm_42 1 (s' := (145, [some (.ref 83), some (.int x1), some (.int x2), u3], [.int x1], _, _, _)) rfl ?_
  by_cases q43 : x1 = 0
  · rw [if_pos q43] at h
    refine pe_blk mm_42 1 (s' := (if x1 = 0 then 158 else 148, [some (.ref 83), some (.int x1), some (.int x2), u3], [], _, _, _)) rfl ?_
    rw [if_pos q43]
    refine pe_blk mm_42 3 (s' := (161, [some (.ref 83), some (.int x1), some (.int x2), u3], [.int 0, .int 4, .ref 83], _, _, _)) rfl ?_
    obtain ⟨e1, rfl⟩ : ∃ e1, e = e1 + 1 := ⟨e - 1, by omega⟩
    cases hc46 : F36 n 4 0 M with
    | none => rw [hc46] at h; cases h
    | some w =>
      obtain ⟨v44, M45⟩ := w
      rw [hc46] at h
      dsimp only at h
      refine pe_virt (al := [.int 0, .int 4]) (a := 83) (L0 := [some (.ref 83), some (.int 4), some (.int 0)]) (r1 := (none, 129, 17845, hp M45)) mm_42 rfl rfl rfl mm_36 rfl (by decide) (by decide) rfl (Nat.le_of_ble_eq_true rfl) (Nat.le_of_ble_eq_true rfl) rfl rfl (F36_ev sc n 4 0 _ e1 (by omega) _ _ hc46) ?_
      show pm_ev _ _ _ _ _ (164, [some (.ref 83), some (.int x1), some (.int x2), u3], [], _, _, _) _
      exact J42_164_ev sc n (e1 + 1) he x2 _ _ _ _ _ h
  · rw [if_neg q43] at h
    refine pe_blk mm_42 1 (s' := (if x1 = 0 then 158 else 148, [some (.ref 83), some (.int x1), some (.int x2), u3], [], _, _, _)) rfl ?_
    rw [if_neg q43]
    refine pe_blk mm_42 4 (s' := (152, [some (.ref 83), some (.int x1), some (.int x2), u3], [.int 0, .int 0, .int 4, .ref 83], _, _, _)) rfl ?_
    obtain ⟨e1, rfl⟩ : ∃ e1, e = e1 + 1 := ⟨e - 1, by omega⟩
    cases hc52 : F35 n 4 0 0 M with
    | none => rw [hc52] at h; cases h
    | some w =>
      obtain ⟨v50, M51⟩ := w
      rw [hc52] at h
      dsimp only at h
      refine pe_virt (al := [.int 0, .int 0, .int 4]) (a := 83) (L0 := [some (.ref 83), some (.int 4), some (.int 0), some (.int 0)]) (r1 := (none, 129, 17845, hp M51)) mm_42 rfl rfl rfl mm_35 rfl (by decide) (by decide) rfl (Nat.le_of_ble_eq_true rfl) (Nat.le_of_ble_eq_true rfl) rfl rfl (F35_ev sc n 4 0 0 _ e1 (by omega) _ _ hc52) ?_
      show pm_ev _ _ _ _ _ (155, [some (.ref 83), some (.int x1), some (.int x2), u3], [], _, _, _) _
      refine pe_blk mm_42 1 (s' := (164, [some (.ref 83), some (.int x1), some (.int x2), u3], [], _, _, _)) rfl ?_
      exact J42_164_ev sc n (e1 + 1) he x2 _ _ _ _ _ h
def J42_119 (n : Nat) (x1 : Int32) (M : Mem) : Option (Int32 × Mem) :=
  mlet (m_i M 83 33 ((M.1 83 33) + 1)) (fun M38 => match F37 n (M38.1 83 32) M38 with | some (v39, M40) => (if v39 = 0 then (J42_142 n M40) else (J42_144 n x1 (M38.1 83 32) M40)) | none => none)
set_option maxRecDepth 100000 in
set_option maxHeartbeats 4000000 in
theorem J42_119_ev (sc : Option (Nat × (Nat → Int32))) (n : Nat)  (e : Nat) (he : 5 ≤ e) : ∀ (x1 : Int32) (u2 : Option Value) (u3 : Option Value) (M : Mem) (r : Int32) (M' : Mem), J42_119 n x1 M = some (r, M') → pm_ev pmT sc e 42 false (119, [some (.ref 83), some (.int x1), u2, u3], [], 129, 17845, hp M) (some (.int r), 129, 17845, hp M') := by
  intro x1 u2 u3 M r M' h
  unfold J42_119 at h
  refine pe_blk mm_42 2 (s' := (121, [some (.ref 83), some (.int x1), u2, u3], [.ref 83, .ref 83], _, _, _)) rfl ?_
  refine pe_get mm_42 rfl rfl rfl (by decide) rfl ?_
  refine pe_blk mm_42 2 (s' := (126, [some (.ref 83), some (.int x1), u2, u3], [.int ((M.1 83 33) + 1), .ref 83], _, _, _)) rfl ?_
  refine pe_puti mm_42 rfl rfl rfl (by decide) (Nat.le_of_ble_eq_true rfl) rfl rfl ?_
  show pm_ev _ _ _ _ _ (129, [some (.ref 83), some (.int x1), u2, u3], [], _, _, hp (m_i M 83 33 ((M.1 83 33) + 1))) _
  generalize m_i M 83 33 ((M.1 83 33) + 1) = M38 at h ⊢
  rw [mlet] at h
  refine pe_blk mm_42 1 (s' := (130, [some (.ref 83), some (.int x1), u2, u3], [.ref 83], _, _, _)) rfl ?_
  refine pe_get mm_42 rfl rfl rfl (by decide) rfl ?_
  refine pe_blk mm_42 3 (s' := (136, [some (.ref 83), some (.int x1), some (.int (M38.1 83 32)), u3], [.int (M38.1 83 32), .ref 83], _, _, _)) rfl ?_
  obtain ⟨e1, rfl⟩ : ∃ e1, e = e1 + 1 := ⟨e - 1, by omega⟩
  cases hc41 : F37 n (M38.1 83 32) M38 with
  | none => rw [hc41] at h; cases h
  | some w =>
    obtain ⟨v39, M40⟩ := w
    rw [hc41] at h
    dsimp only at h
    refine pe_virt (al := [.int (M38.1 83 32)]) (a := 83) (L0 := [some (.ref 83), some (.int (M38.1 83 32))]) (r1 := (some (.int v39), 129, 17845, hp M40)) mm_42 rfl rfl rfl mm_37 rfl (by decide) (by decide) rfl (Nat.le_of_ble_eq_true rfl) (Nat.le_of_ble_eq_true rfl) rfl rfl (F37_ev sc n (M38.1 83 32) _ e1 (by omega) _ _ hc41) ?_
    show pm_ev _ _ _ _ _ (139, [some (.ref 83), some (.int x1), some (.int (M38.1 83 32)), u3], [.int v39], _, _, _) _
    by_cases q42 : v39 = 0
    · rw [if_pos q42] at h
      refine pe_blk mm_42 1 (s' := (if v39 = 0 then 142 else 144, [some (.ref 83), some (.int x1), some (.int (M38.1 83 32)), u3], [], _, _, _)) rfl ?_
      rw [if_pos q42]
      exact J42_142_ev sc n (e1 + 1) he _ _ _ _ _ _ _ h
    · rw [if_neg q42] at h
      refine pe_blk mm_42 1 (s' := (if v39 = 0 then 142 else 144, [some (.ref 83), some (.int x1), some (.int (M38.1 83 32)), u3], [], _, _, _)) rfl ?_
      rw [if_neg q42]
      exact J42_144_ev sc n (e1 + 1) he x1 (M38.1 83 32) _ _ _ _ h
def J42_102 (n : Nat) (x1 : Int32) (M : Mem) : Option (Int32 × Mem) :=
  if x1 = 0 then (J42_119 n x1 M) else (if (M.1 83 33) < 4 then (J42_119 n x1 M) else (J42_114 n M))
set_option maxRecDepth 100000 in
set_option maxHeartbeats 4000000 in
theorem J42_102_ev (sc : Option (Nat × (Nat → Int32))) (n : Nat)  (e : Nat) (he : 5 ≤ e) : ∀ (x1 : Int32) (u2 : Option Value) (u3 : Option Value) (M : Mem) (r : Int32) (M' : Mem), J42_102 n x1 M = some (r, M') → pm_ev pmT sc e 42 false (102, [some (.ref 83), some (.int x1), u2, u3], [], 129, 17845, hp M) (some (.int r), 129, 17845, hp M') := by
  intro x1 u2 u3 M r M' h
  unfold J42_102 at h
  refine pe_blk mm_42 1 (s' := (103, [some (.ref 83), some (.int x1), u2, u3], [.int x1], _, _, _)) rfl ?_
  by_cases q37 : x1 = 0
  · rw [if_pos q37] at h
    refine pe_blk mm_42 1 (s' := (if x1 = 0 then 119 else 106, [some (.ref 83), some (.int x1), u2, u3], [], _, _, _)) rfl ?_
    rw [if_pos q37]
    exact J42_119_ev sc n e he x1 _ _ _ _ _ h
  · rw [if_neg q37] at h
    refine pe_blk mm_42 1 (s' := (if x1 = 0 then 119 else 106, [some (.ref 83), some (.int x1), u2, u3], [], _, _, _)) rfl ?_
    rw [if_neg q37]
    refine pe_blk mm_42 1 (s' := (107, [some (.ref 83), some (.int x1), u2, u3], [.ref 83], _, _, _)) rfl ?_
    refine pe_get mm_42 rfl rfl rfl (by decide) rfl ?_
    refine pe_blk mm_42 1 (s' := (111, [some (.ref 83), some (.int x1), u2, u3], [.int 4, .int (M.1 83 33)], _, _, _)) rfl ?_
    by_cases q53 : (M.1 83 33) < 4
    · rw [if_pos q53] at h
      refine pe_blk mm_42 1 (s' := (if (M.1 83 33) < 4 then 119 else 114, [some (.ref 83), some (.int x1), u2, u3], [], _, _, _)) rfl ?_
      rw [if_pos q53]
      exact J42_119_ev sc n e he x1 _ _ _ _ _ h
    · rw [if_neg q53] at h
      refine pe_blk mm_42 1 (s' := (if (M.1 83 33) < 4 then 119 else 114, [some (.ref 83), some (.int x1), u2, u3], [], _, _, _)) rfl ?_
      rw [if_neg q53]
      exact J42_114_ev sc n e he _ _ _ _ _ _ h
/-- ArmExpanderModel.readDollar -/
def F42 (n : Nat) (a0 : Int32) (M : Mem) : Option (Int32 × Mem) :=
  if (M.1 83 4) = 1 then (match F28 n M with | some (v2, M3) => (if a0 = 0 then (J42_21 n (M.1 83 5) M3) else (J42_30 n (M.1 83 5) M3)) | none => none) else (match F31 n 40 M with | some (v28, M29) => (if v28 = 0 then (J42_114 n M29) else (if 0 ≤ (M29.1 83 31) then (J42_114 n M29) else (J42_102 n a0 M29))) | none => none)
set_option maxRecDepth 100000 in
set_option maxHeartbeats 4000000 in
theorem F42_ev (sc : Option (Nat × (Nat → Int32))) (n : Nat) (a0 : Int32)  (M : Mem) (e : Nat) (he : 5 ≤ e) (r : Int32) (M' : Mem) (h : F42 n a0 M = some (r, M')) : pm_ev pmT sc e 42 false (0, [some (.ref 83), some (.int a0), none, none], [], 129, 17845, hp M) (some (.int r), 129, 17845, hp M') := by
  unfold F42 at h
  refine pe_blk mm_42 1 (s' := (1, [some (.ref 83), some (.int a0), none, none], [.ref 83], _, _, _)) rfl ?_
  refine pe_get mm_42 rfl rfl rfl (by decide) rfl ?_
  refine pe_blk mm_42 1 (s' := (5, [some (.ref 83), some (.int a0), none, none], [.int 1, .int (M.1 83 4)], _, _, _)) rfl ?_
  by_cases q1 : (M.1 83 4) = 1
  · rw [if_pos q1] at h
    refine pe_blk mm_42 1 (s' := (if (M.1 83 4) = 1 then 8 else 86, [some (.ref 83), some (.int a0), none, none], [], _, _, _)) rfl ?_
    rw [if_pos q1]
    refine pe_blk mm_42 1 (s' := (9, [some (.ref 83), some (.int a0), none, none], [.ref 83], _, _, _)) rfl ?_
    refine pe_get mm_42 rfl rfl rfl (by decide) rfl ?_
    refine pe_blk mm_42 2 (s' := (14, [some (.ref 83), some (.int a0), some (.int (M.1 83 5)), none], [.ref 83], _, _, _)) rfl ?_
    obtain ⟨e1, rfl⟩ : ∃ e1, e = e1 + 1 := ⟨e - 1, by omega⟩
    cases hc4 : F28 n M with
    | none => rw [hc4] at h; cases h
    | some w =>
      obtain ⟨v2, M3⟩ := w
      rw [hc4] at h
      dsimp only at h
      refine pe_virt (al := []) (a := 83) (L0 := [some (.ref 83), none, none, none, none, none]) (r1 := (none, 129, 17845, hp M3)) mm_42 rfl rfl rfl mm_28 rfl (by decide) (by decide) rfl (Nat.le_of_ble_eq_true rfl) (Nat.le_of_ble_eq_true rfl) rfl rfl (F28_ev sc n _ e1 (by omega) _ _ hc4) ?_
      show pm_ev _ _ _ _ _ (17, [some (.ref 83), some (.int a0), some (.int (M.1 83 5)), none], [], _, _, _) _
      refine pe_blk mm_42 1 (s' := (18, [some (.ref 83), some (.int a0), some (.int (M.1 83 5)), none], [.int a0], _, _, _)) rfl ?_
      by_cases q5 : a0 = 0
      · rw [if_pos q5] at h
        refine pe_blk mm_42 1 (s' := (if a0 = 0 then 21 else 30, [some (.ref 83), some (.int a0), some (.int (M.1 83 5)), none], [], _, _, _)) rfl ?_
        rw [if_pos q5]
        exact J42_21_ev sc n (e1 + 1) he (M.1 83 5) _ _ _ _ _ h
      · rw [if_neg q5] at h
        refine pe_blk mm_42 1 (s' := (if a0 = 0 then 21 else 30, [some (.ref 83), some (.int a0), some (.int (M.1 83 5)), none], [], _, _, _)) rfl ?_
        rw [if_neg q5]
        exact J42_30_ev sc n (e1 + 1) he (M.1 83 5) _ _ _ _ _ h
  · rw [if_neg q1] at h
    refine pe_blk mm_42 1 (s' := (if (M.1 83 4) = 1 then 8 else 86, [some (.ref 83), some (.int a0), none, none], [], _, _, _)) rfl ?_
    rw [if_neg q1]
    refine pe_blk mm_42 2 (s' := (89, [some (.ref 83), some (.int a0), none, none], [.int 40, .ref 83], _, _, _)) rfl ?_
    obtain ⟨e1, rfl⟩ : ∃ e1, e = e1 + 1 := ⟨e - 1, by omega⟩
    cases hc30 : F31 n 40 M with
    | none => rw [hc30] at h; cases h
    | some w =>
      obtain ⟨v28, M29⟩ := w
      rw [hc30] at h
      dsimp only at h
      refine pe_virt (al := [.int 40]) (a := 83) (L0 := [some (.ref 83), some (.int 40)]) (r1 := (some (.int v28), 129, 17845, hp M29)) mm_42 rfl rfl rfl mm_31 rfl (by decide) (by decide) rfl (Nat.le_of_ble_eq_true rfl) (Nat.le_of_ble_eq_true rfl) rfl rfl (F31_ev sc n 40 _ e1 (by omega) _ _ hc30) ?_
      show pm_ev _ _ _ _ _ (92, [some (.ref 83), some (.int a0), none, none], [.int v28], _, _, _) _
      by_cases q31 : v28 = 0
      · rw [if_pos q31] at h
        refine pe_blk mm_42 1 (s' := (if v28 = 0 then 114 else 95, [some (.ref 83), some (.int a0), none, none], [], _, _, _)) rfl ?_
        rw [if_pos q31]
        exact J42_114_ev sc n (e1 + 1) he _ _ _ _ _ _ h
      · rw [if_neg q31] at h
        refine pe_blk mm_42 1 (s' := (if v28 = 0 then 114 else 95, [some (.ref 83), some (.int a0), none, none], [], _, _, _)) rfl ?_
        rw [if_neg q31]
        refine pe_blk mm_42 1 (s' := (96, [some (.ref 83), some (.int a0), none, none], [.ref 83], _, _, _)) rfl ?_
        refine pe_get mm_42 rfl rfl rfl (by decide) rfl ?_
        by_cases q36 : 0 ≤ (M29.1 83 31)
        · rw [if_pos q36] at h
          refine pe_blk mm_42 1 (s' := (if 0 ≤ (M29.1 83 31) then 114 else 102, [some (.ref 83), some (.int a0), none, none], [], _, _, _)) rfl ?_
          rw [if_pos q36]
          exact J42_114_ev sc n (e1 + 1) he _ _ _ _ _ _ h
        · rw [if_neg q36] at h
          refine pe_blk mm_42 1 (s' := (if 0 ≤ (M29.1 83 31) then 114 else 102, [some (.ref 83), some (.int a0), none, none], [], _, _, _)) rfl ?_
          rw [if_neg q36]
          exact J42_102_ev sc n (e1 + 1) he a0 _ _ _ _ _ h
