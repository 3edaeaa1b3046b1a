/-! The methods as functions over Mem; written by program. -/
def J80_160 (n : Nat) (rec135 : Int32 → Int32 → Int32 → Mem → Option (Int32 × Mem)) (x1 : Int32) (x3 : Int32) (x4 : Int32) (M : Mem) : Option (Int32 × Mem) :=
  if x4 < 0 ∨ 160 ≤ (x4 : Int32).toNatClampNeg then none else (if (x1 + x4) < 0 ∨ 320 ≤ (x1 + x4 : Int32).toNatClampNeg then none else (mlet (m_i M 106 (x1 + x4 : Int32).toNatClampNeg (M.1 128 (x4 : Int32).toNatClampNeg)) (fun M11 => rec135 x1 x3 (x4 + 1) M11)))
set_option maxRecDepth 100000 in
set_option maxHeartbeats 4000000 in
theorem J80_160_ev (sc : Option (Nat × (Nat → Int32))) (n : Nat)  (e : Nat) (he : 1 ≤ e) (rec135 : Int32 → Int32 → Int32 → Mem → Option (Int32 × Mem)) (hr135 : ∀ (x1 : Int32) (x3 : Int32) (x4 : Int32) (u2 : Option Value) (M : Mem) (r : Int32) (M' : Mem), rec135 x1 x3 x4 M = some (r, M') → pm_ev pmT sc e 80 false (135, [some (.ref 83), some (.int x1), u2, some (.int x3), some (.int x4)], [], 129, 17845, hp M) (some (.int r), 129, 17845, hp M')) : ∀ (x1 : Int32) (x3 : Int32) (x4 : Int32) (u2 : Option Value) (M : Mem) (r : Int32) (M' : Mem), J80_160 n rec135 x1 x3 x4 M = some (r, M') → pm_ev pmT sc e 80 false (160, [some (.ref 83), some (.int x1), u2, some (.int x3), some (.int x4)], [], 129, 17845, hp M) (some (.int r), 129, 17845, hp M') := by
  intro x1 x3 x4 u2 M r M' h
  unfold J80_160 at h
  refine pe_blk mm_80 1 (s' := (161, [some (.ref 83), some (.int x1), u2, some (.int x3), some (.int x4)], [.ref 83], _, _, _)) rfl ?_
  refine pe_get mm_80 rfl rfl rfl (by decide) rfl ?_
  refine pe_blk mm_80 4 (s' := (169, [some (.ref 83), some (.int x1), u2, some (.int x3), some (.int x4)], [.ref 83, .int (x1 + x4), .ref 106], _, _, _)) rfl ?_
  refine pe_get mm_80 rfl rfl rfl (by decide) rfl ?_
  refine pe_blk mm_80 1 (s' := (174, [some (.ref 83), some (.int x1), u2, some (.int x3), some (.int x4)], [.int x4, .ref 128, .int (x1 + x4), .ref 106], _, _, _)) rfl ?_
  by_cases q9 : x4 < 0 ∨ 160 ≤ (x4 : Int32).toNatClampNeg
  · rw [if_pos q9] at h
    cases h
  · rw [if_neg q9] at h
    refine pe_iald (f := M.1 128) mm_80 rfl rfl (by decide) q9 ?_
    by_cases q10 : (x1 + x4) < 0 ∨ 320 ≤ (x1 + x4 : Int32).toNatClampNeg
    · rw [if_pos q10] at h
      cases h
    · rw [if_neg q10] at h
      refine pe_iasti mm_80 rfl rfl (by decide) q10 rfl ?_
      show pm_ev _ _ _ _ _ (176, [some (.ref 83), some (.int x1), u2, some (.int x3), some (.int x4)], [], _, _, hp (m_i M 106 (x1 + x4 : Int32).toNatClampNeg (M.1 128 (x4 : Int32).toNatClampNeg))) _
      generalize m_i M 106 (x1 + x4 : Int32).toNatClampNeg (M.1 128 (x4 : Int32).toNatClampNeg) = M11 at h ⊢
      rw [mlet] at h
      refine pe_blk mm_80 2 (s' := (135, [some (.ref 83), some (.int x1), u2, some (.int x3), some (.int (x4 + 1))], [], _, _, _)) rfl ?_
      exact hr135 x1 x3 (x4 + 1) _ _ _ _ h
def L80_135 (n : Nat) : Nat → Int32 → Int32 → Int32 → Mem → Option (Int32 × Mem)
  | 0, _, _, _, _ => none
  | k + 1, x1, x3, x4, M => if (M.1 83 62) ≤ x4 then (mlet (m_i M 83 34 ((M.1 83 34) + x3)) (fun M5 => some (1, M5))) else (if x4 < 0 ∨ 160 ≤ (x4 : Int32).toNatClampNeg then none else (if (x1 + x4) < 0 ∨ 320 ≤ (x1 + x4 : Int32).toNatClampNeg then none else (mlet (m_i M 105 (x1 + x4 : Int32).toNatClampNeg (M.1 127 (x4 : Int32).toNatClampNeg)) (fun M8 => J80_160 n (L80_135 n k) x1 x3 x4 M8))))
set_option maxRecDepth 100000 in
set_option maxHeartbeats 4000000 in
theorem L80_135_ev (sc : Option (Nat × (Nat → Int32))) (n : Nat)  (e : Nat) (he : 1 ≤ e) : ∀ k : Nat, ∀ (x1 : Int32) (x3 : Int32) (x4 : Int32) (u2 : Option Value) (M : Mem) (r : Int32) (M' : Mem), L80_135 n k x1 x3 x4 M = some (r, M') → pm_ev pmT sc e 80 false (135, [some (.ref 83), some (.int x1), u2, some (.int x3), some (.int x4)], [], 129, 17845, hp M) (some (.int r), 129, 17845, hp M') := by
  intro k
  induction k with
  | zero => intro x1 x3 x4 u2 M r M' h; cases h
  | succ k hr135 =>
    intro x1 x3 x4 u2 M r M' h
    rw [L80_135] at h
    refine pe_blk mm_80 2 (s' := (138, [some (.ref 83), some (.int x1), u2, some (.int x3), some (.int x4)], [.ref 83, .int x4], _, _, _)) rfl ?_
    refine pe_get mm_80 rfl rfl rfl (by decide) rfl ?_
    by_cases q4 : (M.1 83 62) ≤ x4
    · rw [if_pos q4] at h
      refine pe_blk mm_80 1 (s' := (if (M.1 83 62) ≤ x4 then 182 else 144, [some (.ref 83), some (.int x1), u2, some (.int x3), some (.int x4)], [], _, _, _)) rfl ?_
      rw [if_pos q4]
      refine pe_blk mm_80 2 (s' := (184, [some (.ref 83), some (.int x1), u2, some (.int x3), some (.int x4)], [.ref 83, .ref 83], _, _, _)) rfl ?_
      refine pe_get mm_80 rfl rfl rfl (by decide) rfl ?_
      refine pe_blk mm_80 2 (s' := (189, [some (.ref 83), some (.int x1), u2, some (.int x3), some (.int x4)], [.int ((M.1 83 34) + x3), .ref 83], _, _, _)) rfl ?_
      refine pe_puti mm_80 rfl rfl rfl (by decide) (Nat.le_of_ble_eq_true rfl) rfl rfl ?_
      show pm_ev _ _ _ _ _ (192, [some (.ref 83), some (.int x1), u2, some (.int x3), some (.int x4)], [], _, _, hp (m_i M 83 34 ((M.1 83 34) + x3))) _
      generalize m_i M 83 34 ((M.1 83 34) + x3) = M5 at h ⊢
      rw [mlet] at h
      refine pe_blk mm_80 1 (s' := (193, [some (.ref 83), some (.int x1), u2, some (.int x3), some (.int x4)], [.int 1], _, _, _)) rfl ?_
      cases h
      exact pe_ret mm_80 rfl rfl
    · rw [if_neg q4] at h
      refine pe_blk mm_80 1 (s' := (if (M.1 83 62) ≤ x4 then 182 else 144, [some (.ref 83), some (.int x1), u2, some (.int x3), some (.int x4)], [], _, _, _)) rfl ?_
      rw [if_neg q4]
      refine pe_blk mm_80 1 (s' := (145, [some (.ref 83), some (.int x1), u2, some (.int x3), some (.int x4)], [.ref 83], _, _, _)) rfl ?_
      refine pe_get mm_80 rfl rfl rfl (by decide) rfl ?_
      refine pe_blk mm_80 4 (s' := (153, [some (.ref 83), some (.int x1), u2, some (.int x3), some (.int x4)], [.ref 83, .int (x1 + x4), .ref 105], _, _, _)) rfl ?_
      refine pe_get mm_80 rfl rfl rfl (by decide) rfl ?_
      refine pe_blk mm_80 1 (s' := (158, [some (.ref 83), some (.int x1), u2, some (.int x3), some (.int x4)], [.int x4, .ref 127, .int (x1 + x4), .ref 105], _, _, _)) rfl ?_
      by_cases q6 : x4 < 0 ∨ 160 ≤ (x4 : Int32).toNatClampNeg
      · rw [if_pos q6] at h
        cases h
      · rw [if_neg q6] at h
        refine pe_iald (f := M.1 127) mm_80 rfl rfl (by decide) q6 ?_
        by_cases q7 : (x1 + x4) < 0 ∨ 320 ≤ (x1 + x4 : Int32).toNatClampNeg
        · rw [if_pos q7] at h
          cases h
        · rw [if_neg q7] at h
          refine pe_iasti mm_80 rfl rfl (by decide) q7 rfl ?_
          show pm_ev _ _ _ _ _ (160, [some (.ref 83), some (.int x1), u2, some (.int x3), some (.int x4)], [], _, _, hp (m_i M 105 (x1 + x4 : Int32).toNatClampNeg (M.1 127 (x4 : Int32).toNatClampNeg))) _
          generalize m_i M 105 (x1 + x4 : Int32).toNatClampNeg (M.1 127 (x4 : Int32).toNatClampNeg) = M8 at h ⊢
          rw [mlet] at h
          exact J80_160_ev sc n e he (L80_135 n k) hr135 x1 x3 x4 _ _ _ _ h
def J80_132 (n : Nat) (x1 : Int32) (x3 : Int32) (M : Mem) : Option (Int32 × Mem) :=
  L80_135 n n x1 x3 0 M
set_option maxRecDepth 100000 in
set_option maxHeartbeats 4000000 in
theorem J80_132_ev (sc : Option (Nat × (Nat → Int32))) (n : Nat)  (e : Nat) (he : 1 ≤ e) : ∀ (x1 : Int32) (x3 : Int32) (u2 : Option Value) (u4 : Option Value) (M : Mem) (r : Int32) (M' : Mem), J80_132 n x1 x3 M = some (r, M') → pm_ev pmT sc e 80 false (132, [some (.ref 83), some (.int x1), u2, some (.int x3), u4], [], 129, 17845, hp M) (some (.int r), 129, 17845, hp M') := by
  intro x1 x3 u2 u4 M r M' h
  unfold J80_132 at h
  refine pe_blk mm_80 2 (s' := (135, [some (.ref 83), some (.int x1), u2, some (.int x3), some (.int 0)], [], _, _, _)) rfl ?_
  exact L80_135_ev sc n e he n x1 x3 0 _ _ _ _ h
def J80_110 (n : Nat) (rec85 : Int32 → Int32 → Int32 → Mem → Option (Int32 × Mem)) (x1 : Int32) (x3 : Int32) (x4 : Int32) (M : Mem) : Option (Int32 × Mem) :=
  if x4 < 0 ∨ 320 ≤ (x4 : Int32).toNatClampNeg then none else (if (x4 + x3) < 0 ∨ 320 ≤ (x4 + x3 : Int32).toNatClampNeg then none else (mlet (m_i M 106 (x4 + x3 : Int32).toNatClampNeg (M.1 106 (x4 : Int32).toNatClampNeg)) (fun M17 => rec85 x1 x3 (x4 + 1) M17)))
set_option maxRecDepth 100000 in
set_option maxHeartbeats 4000000 in
theorem J80_110_ev (sc : Option (Nat × (Nat → Int32))) (n : Nat)  (e : Nat) (he : 1 ≤ e) (rec85 : Int32 → Int32 → Int32 → Mem → Option (Int32 × Mem)) (hr85 : ∀ (x1 : Int32) (x3 : Int32) (x4 : Int32) (u2 : Option Value) (M : Mem) (r : Int32) (M' : Mem), rec85 x1 x3 x4 M = some (r, M') → pm_ev pmT sc e 80 false (85, [some (.ref 83), some (.int x1), u2, some (.int x3), some (.int x4)], [], 129, 17845, hp M) (some (.int r), 129, 17845, hp M')) : ∀ (x1 : Int32) (x3 : Int32) (x4 : Int32) (u2 : Option Value) (M : Mem) (r : Int32) (M' : Mem), J80_110 n rec85 x1 x3 x4 M = some (r, M') → pm_ev pmT sc e 80 false (110, [some (.ref 83), some (.int x1), u2, some (.int x3), some (.int x4)], [], 129, 17845, hp M) (some (.int r), 129, 17845, hp M') := by
  intro x1 x3 x4 u2 M r M' h
  unfold J80_110 at h
  refine pe_blk mm_80 1 (s' := (111, [some (.ref 83), some (.int x1), u2, some (.int x3), some (.int x4)], [.ref 83], _, _, _)) rfl ?_
  refine pe_get mm_80 rfl rfl rfl (by decide) rfl ?_
  refine pe_blk mm_80 4 (s' := (119, [some (.ref 83), some (.int x1), u2, some (.int x3), some (.int x4)], [.ref 83, .int (x4 + x3), .ref 106], _, _, _)) rfl ?_
  refine pe_get mm_80 rfl rfl rfl (by decide) rfl ?_
  refine pe_blk mm_80 1 (s' := (124, [some (.ref 83), some (.int x1), u2, some (.int x3), some (.int x4)], [.int x4, .ref 106, .int (x4 + x3), .ref 106], _, _, _)) rfl ?_
  by_cases q15 : x4 < 0 ∨ 320 ≤ (x4 : Int32).toNatClampNeg
  · rw [if_pos q15] at h
    cases h
  · rw [if_neg q15] at h
    refine pe_iald (f := M.1 106) mm_80 rfl rfl (by decide) q15 ?_
    by_cases q16 : (x4 + x3) < 0 ∨ 320 ≤ (x4 + x3 : Int32).toNatClampNeg
    · rw [if_pos q16] at h
      cases h
    · rw [if_neg q16] at h
      refine pe_iasti mm_80 rfl rfl (by decide) q16 rfl ?_
      show pm_ev _ _ _ _ _ (126, [some (.ref 83), some (.int x1), u2, some (.int x3), some (.int x4)], [], _, _, hp (m_i M 106 (x4 + x3 : Int32).toNatClampNeg (M.1 106 (x4 : Int32).toNatClampNeg))) _
      generalize m_i M 106 (x4 + x3 : Int32).toNatClampNeg (M.1 106 (x4 : Int32).toNatClampNeg) = M17 at h ⊢
      rw [mlet] at h
      refine pe_blk mm_80 2 (s' := (85, [some (.ref 83), some (.int x1), u2, some (.int x3), some (.int (x4 + 1))], [], _, _, _)) rfl ?_
      exact hr85 x1 x3 (x4 + 1) _ _ _ _ h
def L80_85 (n : Nat) : Nat → Int32 → Int32 → Int32 → Mem → Option (Int32 × Mem)
  | 0, _, _, _, _ => none
  | k + 1, x1, x3, x4, M => if (M.1 83 34) ≤ x4 then (J80_132 n x1 x3 M) else (if x4 < 0 ∨ 320 ≤ (x4 : Int32).toNatClampNeg then none else (if (x4 + x3) < 0 ∨ 320 ≤ (x4 + x3 : Int32).toNatClampNeg then none else (mlet (m_i M 105 (x4 + x3 : Int32).toNatClampNeg (M.1 105 (x4 : Int32).toNatClampNeg)) (fun M14 => J80_110 n (L80_85 n k) x1 x3 x4 M14))))
set_option maxRecDepth 100000 in
set_option maxHeartbeats 4000000 in
theorem L80_85_ev (sc : Option (Nat × (Nat → Int32))) (n : Nat)  (e : Nat) (he : 1 ≤ e) : ∀ k : Nat, ∀ (x1 : Int32) (x3 : Int32) (x4 : Int32) (u2 : Option Value) (M : Mem) (r : Int32) (M' : Mem), L80_85 n k x1 x3 x4 M = some (r, M') → pm_ev pmT sc e 80 false (85, [some (.ref 83), some (.int x1), u2, some (.int x3), some (.int x4)], [], 129, 17845, hp M) (some (.int r), 129, 17845, hp M') := by
  intro k
  induction k with
  | zero => intro x1 x3 x4 u2 M r M' h; cases h
  | succ k hr85 =>
    intro x1 x3 x4 u2 M r M' h
    rw [L80_85] at h
    refine pe_blk mm_80 2 (s' := (88, [some (.ref 83), some (.int x1), u2, some (.int x3), some (.int x4)], [.ref 83, .int x4], _, _, _)) rfl ?_
    refine pe_get mm_80 rfl rfl rfl (by decide) rfl ?_
    by_cases q3 : (M.1 83 34) ≤ x4
    · rw [if_pos q3] at h
      refine pe_blk mm_80 1 (s' := (if (M.1 83 34) ≤ x4 then 132 else 94, [some (.ref 83), some (.int x1), u2, some (.int x3), some (.int x4)], [], _, _, _)) rfl ?_
      rw [if_pos q3]
      exact J80_132_ev sc n e he x1 x3 _ _ _ _ _ h
    · rw [if_neg q3] at h
      refine pe_blk mm_80 1 (s' := (if (M.1 83 34) ≤ x4 then 132 else 94, [some (.ref 83), some (.int x1), u2, some (.int x3), some (.int x4)], [], _, _, _)) rfl ?_
      rw [if_neg q3]
      refine pe_blk mm_80 1 (s' := (95, [some (.ref 83), some (.int x1), u2, some (.int x3), some (.int x4)], [.ref 83], _, _, _)) rfl ?_
      refine pe_get mm_80 rfl rfl rfl (by decide) rfl ?_
      refine pe_blk mm_80 4 (s' := (103, [some (.ref 83), some (.int x1), u2, some (.int x3), some (.int x4)], [.ref 83, .int (x4 + x3), .ref 105], _, _, _)) rfl ?_
      refine pe_get mm_80 rfl rfl rfl (by decide) rfl ?_
      refine pe_blk mm_80 1 (s' := (108, [some (.ref 83), some (.int x1), u2, some (.int x3), some (.int x4)], [.int x4, .ref 105, .int (x4 + x3), .ref 105], _, _, _)) rfl ?_
      by_cases q12 : x4 < 0 ∨ 320 ≤ (x4 : Int32).toNatClampNeg
      · rw [if_pos q12] at h
        cases h
      · rw [if_neg q12] at h
        refine pe_iald (f := M.1 105) mm_80 rfl rfl (by decide) q12 ?_
        by_cases q13 : (x4 + x3) < 0 ∨ 320 ≤ (x4 + x3 : Int32).toNatClampNeg
        · rw [if_pos q13] at h
          cases h
        · rw [if_neg q13] at h
          refine pe_iasti mm_80 rfl rfl (by decide) q13 rfl ?_
          show pm_ev _ _ _ _ _ (110, [some (.ref 83), some (.int x1), u2, some (.int x3), some (.int x4)], [], _, _, hp (m_i M 105 (x4 + x3 : Int32).toNatClampNeg (M.1 105 (x4 : Int32).toNatClampNeg))) _
          generalize m_i M 105 (x4 + x3 : Int32).toNatClampNeg (M.1 105 (x4 : Int32).toNatClampNeg) = M14 at h ⊢
          rw [mlet] at h
          exact J80_110_ev sc n e he (L80_85 n k) hr85 x1 x3 x4 _ _ _ _ h
def J80_57 (n : Nat) (rec35 : Int32 → Int32 → Int32 → Int32 → Mem → Option (Int32 × Mem)) (x1 : Int32) (x2 : Int32) (x3 : Int32) (x4 : Int32) (M : Mem) : Option (Int32 × Mem) :=
  if x4 < 0 ∨ 320 ≤ (x4 : Int32).toNatClampNeg then none else (if (x4 + x3) < 0 ∨ 320 ≤ (x4 + x3 : Int32).toNatClampNeg then none else (mlet (m_i M 106 (x4 + x3 : Int32).toNatClampNeg (M.1 106 (x4 : Int32).toNatClampNeg)) (fun M24 => rec35 x1 x2 x3 (x4 + (-1)) M24)))
set_option maxRecDepth 100000 in
set_option maxHeartbeats 4000000 in
theorem J80_57_ev (sc : Option (Nat × (Nat → Int32))) (n : Nat)  (e : Nat) (he : 1 ≤ e) (rec35 : Int32 → Int32 → Int32 → Int32 → Mem → Option (Int32 × Mem)) (hr35 : ∀ (x1 : Int32) (x2 : Int32) (x3 : Int32) (x4 : Int32) (M : Mem) (r : Int32) (M' : Mem), rec35 x1 x2 x3 x4 M = some (r, M') → pm_ev pmT sc e 80 false (35, [some (.ref 83), some (.int x1), some (.int x2), some (.int x3), some (.int x4)], [], 129, 17845, hp M) (some (.int r), 129, 17845, hp M')) : ∀ (x1 : Int32) (x2 : Int32) (x3 : Int32) (x4 : Int32) (M : Mem) (r : Int32) (M' : Mem), J80_57 n rec35 x1 x2 x3 x4 M = some (r, M') → pm_ev pmT sc e 80 false (57, [some (.ref 83), some (.int x1), some (.int x2), some (.int x3), some (.int x4)], [], 129, 17845, hp M) (some (.int r), 129, 17845, hp M') := by
  intro x1 x2 x3 x4  M r M' h
  unfold J80_57 at h
  refine pe_blk mm_80 1 (s' := (58, [some (.ref 83), some (.int x1), some (.int x2), some (.int x3), some (.int x4)], [.ref 83], _, _, _)) rfl ?_
  refine pe_get mm_80 rfl rfl rfl (by decide) rfl ?_
  refine pe_blk mm_80 4 (s' := (66, [some (.ref 83), some (.int x1), some (.int x2), some (.int x3), some (.int x4)], [.ref 83, .int (x4 + x3), .ref 106], _, _, _)) rfl ?_
  refine pe_get mm_80 rfl rfl rfl (by decide) rfl ?_
  refine pe_blk mm_80 1 (s' := (71, [some (.ref 83), some (.int x1), some (.int x2), some (.int x3), some (.int x4)], [.int x4, .ref 106, .int (x4 + x3), .ref 106], _, _, _)) rfl ?_
  by_cases q22 : x4 < 0 ∨ 320 ≤ (x4 : Int32).toNatClampNeg
  · rw [if_pos q22] at h
    cases h
  · rw [if_neg q22] at h
    refine pe_iald (f := M.1 106) mm_80 rfl rfl (by decide) q22 ?_
    by_cases q23 : (x4 + x3) < 0 ∨ 320 ≤ (x4 + x3 : Int32).toNatClampNeg
    · rw [if_pos q23] at h
      cases h
    · rw [if_neg q23] at h
      refine pe_iasti mm_80 rfl rfl (by decide) q23 rfl ?_
      show pm_ev _ _ _ _ _ (73, [some (.ref 83), some (.int x1), some (.int x2), some (.int x3), some (.int x4)], [], _, _, hp (m_i M 106 (x4 + x3 : Int32).toNatClampNeg (M.1 106 (x4 : Int32).toNatClampNeg))) _
      generalize m_i M 106 (x4 + x3 : Int32).toNatClampNeg (M.1 106 (x4 : Int32).toNatClampNeg) = M24 at h ⊢
      rw [mlet] at h
      refine pe_blk mm_80 2 (s' := (35, [some (.ref 83), some (.int x1), some (.int x2), some (.int x3), some (.int (x4 + (-1)))], [], _, _, _)) rfl ?_
      exact hr35 x1 x2 x3 (x4 + (-1)) _ _ _ h
def L80_35 (n : Nat) : Nat → Int32 → Int32 → Int32 → Int32 → Mem → Option (Int32 × Mem)
  | 0, _, _, _, _, _ => none
  | k + 1, x1, x2, x3, x4, M => if x4 < x2 then (J80_132 n x1 x3 M) else (if x4 < 0 ∨ 320 ≤ (x4 : Int32).toNatClampNeg then none else (if (x4 + x3) < 0 ∨ 320 ≤ (x4 + x3 : Int32).toNatClampNeg then none else (mlet (m_i M 105 (x4 + x3 : Int32).toNatClampNeg (M.1 105 (x4 : Int32).toNatClampNeg)) (fun M21 => J80_57 n (L80_35 n k) x1 x2 x3 x4 M21))))
set_option maxRecDepth 100000 in
set_option maxHeartbeats 4000000 in
theorem L80_35_ev (sc : Option (Nat × (Nat → Int32))) (n : Nat)  (e : Nat) (he : 1 ≤ e) : ∀ k : Nat, ∀ (x1 : Int32) (x2 : Int32) (x3 : Int32) (x4 : Int32) (M : Mem) (r : Int32) (M' : Mem), L80_35 n k x1 x2 x3 x4 M = some (r, M') → pm_ev pmT sc e 80 false (35, [some (.ref 83), some (.int x1), some (.int x2), some (.int x3), some (.int x4)], [], 129, 17845, hp M) (some (.int r), 129, 17845, hp M') := by
  intro k
  induction k with
  | zero => intro x1 x2 x3 x4  M r M' h; cases h
  | succ k hr35 =>
    intro x1 x2 x3 x4  M r M' h
    rw [L80_35] at h
    refine pe_blk mm_80 2 (s' := (38, [some (.ref 83), some (.int x1), some (.int x2), some (.int x3), some (.int x4)], [.int x2, .int x4], _, _, _)) rfl ?_
    by_cases q18 : x4 < x2
    · rw [if_pos q18] at h
      refine pe_blk mm_80 1 (s' := (if x4 < x2 then 79 else 41, [some (.ref 83), some (.int x1), some (.int x2), some (.int x3), some (.int x4)], [], _, _, _)) rfl ?_
      rw [if_pos q18]
      refine pe_blk mm_80 1 (s' := (132, [some (.ref 83), some (.int x1), some (.int x2), some (.int x3), some (.int x4)], [], _, _, _)) rfl ?_
      exact J80_132_ev sc n e he x1 x3 _ _ _ _ _ h
    · rw [if_neg q18] at h
      refine pe_blk mm_80 1 (s' := (if x4 < x2 then 79 else 41, [some (.ref 83), some (.int x1), some (.int x2), some (.int x3), some (.int x4)], [], _, _, _)) rfl ?_
      rw [if_neg q18]
      refine pe_blk mm_80 1 (s' := (42, [some (.ref 83), some (.int x1), some (.int x2), some (.int x3), some (.int x4)], [.ref 83], _, _, _)) rfl ?_
      refine pe_get mm_80 rfl rfl rfl (by decide) rfl ?_
      refine pe_blk mm_80 4 (s' := (50, [some (.ref 83), some (.int x1), some (.int x2), some (.int x3), some (.int x4)], [.ref 83, .int (x4 + x3), .ref 105], _, _, _)) rfl ?_
      refine pe_get mm_80 rfl rfl rfl (by decide) rfl ?_
      refine pe_blk mm_80 1 (s' := (55, [some (.ref 83), some (.int x1), some (.int x2), some (.int x3), some (.int x4)], [.int x4, .ref 105, .int (x4 + x3), .ref 105], _, _, _)) rfl ?_
      by_cases q19 : x4 < 0 ∨ 320 ≤ (x4 : Int32).toNatClampNeg
      · rw [if_pos q19] at h
        cases h
      · rw [if_neg q19] at h
        refine pe_iald (f := M.1 105) mm_80 rfl rfl (by decide) q19 ?_
        by_cases q20 : (x4 + x3) < 0 ∨ 320 ≤ (x4 + x3 : Int32).toNatClampNeg
        · rw [if_pos q20] at h
          cases h
        · rw [if_neg q20] at h
          refine pe_iasti mm_80 rfl rfl (by decide) q20 rfl ?_
          show pm_ev _ _ _ _ _ (57, [some (.ref 83), some (.int x1), some (.int x2), some (.int x3), some (.int x4)], [], _, _, hp (m_i M 105 (x4 + x3 : Int32).toNatClampNeg (M.1 105 (x4 : Int32).toNatClampNeg))) _
          generalize m_i M 105 (x4 + x3 : Int32).toNatClampNeg (M.1 105 (x4 : Int32).toNatClampNeg) = M21 at h ⊢
          rw [mlet] at h
          exact J80_57_ev sc n e he (L80_35 n k) hr35 x1 x2 x3 x4 _ _ _ h
/-- ArmExpanderModel.replace -/
def F80 (n : Nat) (a0 : Int32) (a1 : Int32) (M : Mem) : Option (Int32 × Mem) :=
  if ((M.1 83 34) + ((M.1 83 62) - (a1 - a0))) ≤ 150 then (if ((M.1 83 62) - (a1 - a0)) ≤ 0 then (L80_85 n n a0 ((M.1 83 62) - (a1 - a0)) a1 M) else (L80_35 n n a0 a1 ((M.1 83 62) - (a1 - a0)) ((M.1 83 34) - 1) M)) else (some (0, M))
set_option maxRecDepth 100000 in
set_option maxHeartbeats 4000000 in
theorem F80_ev (sc : Option (Nat × (Nat → Int32))) (n : Nat) (a0 : Int32) (a1 : Int32)  (M : Mem) (e : Nat) (he : 1 ≤ e) (r : Int32) (M' : Mem) (h : F80 n a0 a1 M = some (r, M')) : pm_ev pmT sc e 80 false (0, [some (.ref 83), some (.int a0), some (.int a1), none, none], [], 129, 17845, hp M) (some (.int r), 129, 17845, hp M') := by
  unfold F80 at h
  refine pe_blk mm_80 1 (s' := (1, [some (.ref 83), some (.int a0), some (.int a1), none, none], [.ref 83], _, _, _)) rfl ?_
  refine pe_get mm_80 rfl rfl rfl (by decide) rfl ?_
  refine pe_blk mm_80 6 (s' := (10, [some (.ref 83), some (.int a0), some (.int a1), some (.int ((M.1 83 62) - (a1 - a0))), none], [.ref 83], _, _, _)) rfl ?_
  refine pe_get mm_80 rfl rfl rfl (by decide) rfl ?_
  refine pe_blk mm_80 3 (s' := (18, [some (.ref 83), some (.int a0), some (.int a1), some (.int ((M.1 83 62) - (a1 - a0))), none], [.int 150, .int ((M.1 83 34) + ((M.1 83 62) - (a1 - a0)))], _, _, _)) rfl ?_
  by_cases q1 : ((M.1 83 34) + ((M.1 83 62) - (a1 - a0))) ≤ 150
  · rw [if_pos q1] at h
    refine pe_blk mm_80 1 (s' := (if ((M.1 83 34) + ((M.1 83 62) - (a1 - a0))) ≤ 150 then 23 else 21, [some (.ref 83), some (.int a0), some (.int a1), some (.int ((M.1 83 62) - (a1 - a0))), none], [], _, _, _)) rfl ?_
    rw [if_pos q1]
    refine pe_blk mm_80 1 (s' := (24, [some (.ref 83), some (.int a0), some (.int a1), some (.int ((M.1 83 62) - (a1 - a0))), none], [.int ((M.1 83 62) - (a1 - a0))], _, _, _)) rfl ?_
    by_cases q2 : ((M.1 83 62) - (a1 - a0)) ≤ 0
    · rw [if_pos q2] at h
      refine pe_blk mm_80 1 (s' := (if ((M.1 83 62) - (a1 - a0)) ≤ 0 then 82 else 27, [some (.ref 83), some (.int a0), some (.int a1), some (.int ((M.1 83 62) - (a1 - a0))), none], [], _, _, _)) rfl ?_
      rw [if_pos q2]
      refine pe_blk mm_80 2 (s' := (85, [some (.ref 83), some (.int a0), some (.int a1), some (.int ((M.1 83 62) - (a1 - a0))), some (.int a1)], [], _, _, _)) rfl ?_
      exact L80_85_ev sc n e he n a0 ((M.1 83 62) - (a1 - a0)) a1 _ _ _ _ h
    · rw [if_neg q2] at h
      refine pe_blk mm_80 1 (s' := (if ((M.1 83 62) - (a1 - a0)) ≤ 0 then 82 else 27, [some (.ref 83), some (.int a0), some (.int a1), some (.int ((M.1 83 62) - (a1 - a0))), none], [], _, _, _)) rfl ?_
      rw [if_neg q2]
      refine pe_blk mm_80 1 (s' := (28, [some (.ref 83), some (.int a0), some (.int a1), some (.int ((M.1 83 62) - (a1 - a0))), none], [.ref 83], _, _, _)) rfl ?_
      refine pe_get mm_80 rfl rfl rfl (by decide) rfl ?_
      refine pe_blk mm_80 3 (s' := (35, [some (.ref 83), some (.int a0), some (.int a1), some (.int ((M.1 83 62) - (a1 - a0))), some (.int ((M.1 83 34) - 1))], [], _, _, _)) rfl ?_
      exact L80_35_ev sc n e he n a0 a1 ((M.1 83 62) - (a1 - a0)) ((M.1 83 34) - 1) _ _ _ h
  · rw [if_neg q1] at h
    refine pe_blk mm_80 1 (s' := (if ((M.1 83 34) + ((M.1 83 62) - (a1 - a0))) ≤ 150 then 23 else 21, [some (.ref 83), some (.int a0), some (.int a1), some (.int ((M.1 83 62) - (a1 - a0))), none], [], _, _, _)) rfl ?_
    rw [if_neg q1]
    refine pe_blk mm_80 1 (s' := (22, [some (.ref 83), some (.int a0), some (.int a1), some (.int ((M.1 83 62) - (a1 - a0))), none], [.int 0], _, _, _)) rfl ?_
    cases h
    exact pe_ret mm_80 rfl rfl
def J83_24 (n : Nat) (s0 : Int32) (M : Mem) : Option (Int32 × Mem) :=
  some (s0, M)
set_option maxRecDepth 100000 in
set_option maxHeartbeats 4000000 in
theorem J83_24_ev (sc : Option (Nat × (Nat → Int32))) (n : Nat)  (e : Nat) (he : 2 ≤ e) : ∀ (s0 : Int32) (u0 : Option Value) (u1 : Option Value) (M : Mem) (r : Int32) (M' : Mem), J83_24 n s0 M = some (r, M') → pm_ev pmT sc e 83 false (24, [u0, u1], [.int s0], 129, 17845, hp M) (some (.int r), 129, 17845, hp M') := by
  intro s0 u0 u1 M r M' h
  unfold J83_24 at h
  cases h
  exact pe_ret mm_83 rfl rfl
/-- ArmExpanderModel.token -/
def F83 (n : Nat) (a0 : Int32) (M : Mem) : Option (Int32 × Mem) :=
  match F19 n a0 0 ((M.1 83 37) - 1) M with | some (v1, M2) => (if v1 = 0 then (J83_24 n (-1) M2) else (if a0 < 0 ∨ 320 ≤ (a0 : Int32).toNatClampNeg then none else (J83_24 n (M2.1 105 (a0 : Int32).toNatClampNeg) M2))) | none => none
set_option maxRecDepth 100000 in
set_option maxHeartbeats 4000000 in
theorem F83_ev (sc : Option (Nat × (Nat → Int32))) (n : Nat) (a0 : Int32)  (M : Mem) (e : Nat) (he : 2 ≤ e) (r : Int32) (M' : Mem) (h : F83 n a0 M = some (r, M')) : pm_ev pmT sc e 83 false (0, [some (.ref 83), some (.int a0)], [], 129, 17845, hp M) (some (.int r), 129, 17845, hp M') := by
  unfold F83 at h
  refine pe_blk mm_83 3 (s' := (3, [some (.ref 83), some (.int a0)], [.ref 83, .int 0, .int a0], _, _, _)) rfl ?_
  refine pe_get mm_83 rfl rfl rfl (by decide) rfl ?_
  refine pe_blk mm_83 2 (s' := (8, [some (.ref 83), some (.int a0)], [.int ((M.1 83 37) - 1), .int 0, .int a0], _, _, _)) rfl ?_
  obtain ⟨e1, rfl⟩ : ∃ e1, e = e1 + 1 := ⟨e - 1, by omega⟩
  cases hc3 : F19 n a0 0 ((M.1 83 37) - 1) M with
  | none => rw [hc3] at h; cases h
  | some w =>
    obtain ⟨v1, M2⟩ := w
    rw [hc3] at h
    dsimp only at h
    refine pe_stat (al := [.int ((M.1 83 37) - 1), .int 0, .int a0]) (L0 := [some (.int a0), some (.int 0), some (.int ((M.1 83 37) - 1))]) (r1 := (some (.int v1), 129, 17845, hp M2)) mm_83 rfl rfl rfl mm_19 rfl (Nat.le_of_ble_eq_true rfl) (Nat.le_of_ble_eq_true rfl) rfl rfl (F19_ev sc n a0 0 ((M.1 83 37) - 1) _ e1 (by omega) _ _ hc3) ?_
    show pm_ev _ _ _ _ _ (11, [some (.ref 83), some (.int a0)], [.int v1], _, _, _) _
    by_cases q4 : v1 = 0
    · rw [if_pos q4] at h
      refine pe_blk mm_83 1 (s' := (if v1 = 0 then 23 else 14, [some (.ref 83), some (.int a0)], [], _, _, _)) rfl ?_
      rw [if_pos q4]
      refine pe_blk mm_83 1 (s' := (24, [some (.ref 83), some (.int a0)], [.int (-1)], _, _, _)) rfl ?_
      exact J83_24_ev sc n (e1 + 1) he (-1) _ _ _ _ _ h
    · rw [if_neg q4] at h
      refine pe_blk mm_83 1 (s' := (if v1 = 0 then 23 else 14, [some (.ref 83), some (.int a0)], [], _, _, _)) rfl ?_
      rw [if_neg q4]
      refine pe_blk mm_83 1 (s' := (15, [some (.ref 83), some (.int a0)], [.ref 83], _, _, _)) rfl ?_
      refine pe_get mm_83 rfl rfl rfl (by decide) rfl ?_
      refine pe_blk mm_83 1 (s' := (19, [some (.ref 83), some (.int a0)], [.int a0, .ref 105], _, _, _)) rfl ?_
      by_cases q5 : a0 < 0 ∨ 320 ≤ (a0 : Int32).toNatClampNeg
      · rw [if_pos q5] at h
        cases h
      · rw [if_neg q5] at h
        refine pe_iald (f := M2.1 105) mm_83 rfl rfl (by decide) q5 ?_
        refine pe_blk mm_83 1 (s' := (24, [some (.ref 83), some (.int a0)], [.int (M2.1 105 (a0 : Int32).toNatClampNeg)], _, _, _)) rfl ?_
        exact J83_24_ev sc n (e1 + 1) he (M2.1 105 (a0 : Int32).toNatClampNeg) _ _ _ _ _ h
def J84_24 (n : Nat) (s0 : Int32) (M : Mem) : Option (Int32 × Mem) :=
  some (s0, M)
set_option maxRecDepth 100000 in
set_option maxHeartbeats 4000000 in
theorem J84_24_ev (sc : Option (Nat × (Nat → Int32))) (n : Nat)  (e : Nat) (he : 2 ≤ e) : ∀ (s0 : Int32) (u0 : Option Value) (u1 : Option Value) (M : Mem) (r : Int32) (M' : Mem), J84_24 n s0 M = some (r, M') → pm_ev pmT sc e 84 false (24, [u0, u1], [.int s0], 129, 17845, hp M) (some (.int r), 129, 17845, hp M') := by
  intro s0 u0 u1 M r M' h
  unfold J84_24 at h
  cases h
  exact pe_ret mm_84 rfl rfl
/-- ArmExpanderModel.mark -/
def F84 (n : Nat) (a0 : Int32) (M : Mem) : Option (Int32 × Mem) :=
  match F19 n a0 0 ((M.1 83 37) - 1) M with | some (v1, M2) => (if v1 = 0 then (J84_24 n (-1) M2) else (if a0 < 0 ∨ 320 ≤ (a0 : Int32).toNatClampNeg then none else (J84_24 n (M2.1 106 (a0 : Int32).toNatClampNeg) M2))) | none => none
set_option maxRecDepth 100000 in
set_option maxHeartbeats 4000000 in
theorem F84_ev (sc : Option (Nat × (Nat → Int32))) (n : Nat) (a0 : Int32)  (M : Mem) (e : Nat) (he : 2 ≤ e) (r : Int32) (M' : Mem) (h : F84 n a0 M = some (r, M')) : pm_ev pmT sc e 84 false (0, [some (.ref 83), some (.int a0)], [], 129, 17845, hp M) (some (.int r), 129, 17845, hp M') := by
  unfold F84 at h
  refine pe_blk mm_84 3 (s' := (3, [some (.ref 83), some (.int a0)], [.ref 83, .int 0, .int a0], _, _, _)) rfl ?_
  refine pe_get mm_84 rfl rfl rfl (by decide) rfl ?_
  refine pe_blk mm_84 2 (s' := (8, [some (.ref 83), some (.int a0)], [.int ((M.1 83 37) - 1), .int 0, .int a0], _, _, _)) rfl ?_
  obtain ⟨e1, rfl⟩ : ∃ e1, e = e1 + 1 := ⟨e - 1, by omega⟩
  cases hc3 : F19 n a0 0 ((M.1 83 37) - 1) M with
  | none => rw [hc3] at h; cases h
  | some w =>
    obtain ⟨v1, M2⟩ := w
    rw [hc3] at h
    dsimp only at h
    refine pe_stat (al := [.int ((M.1 83 37) - 1), .int 0, .int a0]) (L0 := [some (.int a0), some (.int 0), some (.int ((M.1 83 37) - 1))]) (r1 := (some (.int v1), 129, 17845, hp M2)) mm_84 rfl rfl rfl mm_19 rfl (Nat.le_of_ble_eq_true rfl) (Nat.le_of_ble_eq_true rfl) rfl rfl (F19_ev sc n a0 0 ((M.1 83 37) - 1) _ e1 (by omega) _ _ hc3) ?_
    show pm_ev _ _ _ _ _ (11, [some (.ref 83), some (.int a0)], [.int v1], _, _, _) _
    by_cases q4 : v1 = 0
    · rw [if_pos q4] at h
      refine pe_blk mm_84 1 (s' := (if v1 = 0 then 23 else 14, [some (.ref 83), some (.int a0)], [], _, _, _)) rfl ?_
      rw [if_pos q4]
      refine pe_blk mm_84 1 (s' := (24, [some (.ref 83), some (.int a0)], [.int (-1)], _, _, _)) rfl ?_
      exact J84_24_ev sc n (e1 + 1) he (-1) _ _ _ _ _ h
    · rw [if_neg q4] at h
      refine pe_blk mm_84 1 (s' := (if v1 = 0 then 23 else 14, [some (.ref 83), some (.int a0)], [], _, _, _)) rfl ?_
      rw [if_neg q4]
      refine pe_blk mm_84 1 (s' := (15, [some (.ref 83), some (.int a0)], [.ref 83], _, _, _)) rfl ?_
      refine pe_get mm_84 rfl rfl rfl (by decide) rfl ?_
      refine pe_blk mm_84 1 (s' := (19, [some (.ref 83), some (.int a0)], [.int a0, .ref 106], _, _, _)) rfl ?_
      by_cases q5 : a0 < 0 ∨ 320 ≤ (a0 : Int32).toNatClampNeg
      · rw [if_pos q5] at h
        cases h
      · rw [if_neg q5] at h
        refine pe_iald (f := M2.1 106) mm_84 rfl rfl (by decide) q5 ?_
        refine pe_blk mm_84 1 (s' := (24, [some (.ref 83), some (.int a0)], [.int (M2.1 106 (a0 : Int32).toNatClampNeg)], _, _, _)) rfl ?_
        exact J84_24_ev sc n (e1 + 1) he (M2.1 106 (a0 : Int32).toNatClampNeg) _ _ _ _ _ h
def J85_40 (n : Nat) (s0 : Int32) (M : Mem) : Option (Int32 × Mem) :=
  if s0 = 0 ∨ s0 = 1 then some (s0, M) else none
set_option maxRecDepth 100000 in
set_option maxHeartbeats 4000000 in
theorem J85_40_ev (sc : Option (Nat × (Nat → Int32))) (n : Nat)  (e : Nat) (he : 2 ≤ e) : ∀ (s0 : Int32) (u0 : Option Value) (u1 : Option Value) (M : Mem) (r : Int32) (M' : Mem), J85_40 n s0 M = some (r, M') → pm_ev pmT sc e 85 false (40, [u0, u1], [.int s0], 129, 17845, hp M) (some (.int r), 129, 17845, hp M') := by
  intro s0 u0 u1 M r M' h
  unfold J85_40 at h
  by_cases q3 : s0 = 0 ∨ s0 = 1
  · rw [if_pos q3] at h
    cases h
    exact pe_ret mm_85 rfl (if_pos q3)
  · rw [if_neg q3] at h
    cases h
def J85_39 (n : Nat) (M : Mem) : Option (Int32 × Mem) :=
  J85_40 n 0 M
set_option maxRecDepth 100000 in
set_option maxHeartbeats 4000000 in
theorem J85_39_ev (sc : Option (Nat × (Nat → Int32))) (n : Nat)  (e : Nat) (he : 2 ≤ e) : ∀ (u0 : Option Value) (u1 : Option Value) (M : Mem) (r : Int32) (M' : Mem), J85_39 n  M = some (r, M') → pm_ev pmT sc e 85 false (39, [u0, u1], [], 129, 17845, hp M) (some (.int r), 129, 17845, hp M') := by
  intro u0 u1 M r M' h
  unfold J85_39 at h
  refine pe_blk mm_85 1 (s' := (40, [u0, u1], [.int 0], _, _, _)) rfl ?_
  exact J85_40_ev sc n e he 0 _ _ _ _ _ h
def J85_35 (n : Nat) (M : Mem) : Option (Int32 × Mem) :=
  J85_40 n 1 M
set_option maxRecDepth 100000 in
set_option maxHeartbeats 4000000 in
theorem J85_35_ev (sc : Option (Nat × (Nat → Int32))) (n : Nat)  (e : Nat) (he : 2 ≤ e) : ∀ (u0 : Option Value) (u1 : Option Value) (M : Mem) (r : Int32) (M' : Mem), J85_35 n  M = some (r, M') → pm_ev pmT sc e 85 false (35, [u0, u1], [], 129, 17845, hp M) (some (.int r), 129, 17845, hp M') := by
  intro u0 u1 M r M' h
  unfold J85_35 at h
  refine pe_blk mm_85 2 (s' := (40, [u0, u1], [.int 1], _, _, _)) rfl ?_
  exact J85_40_ev sc n e he 1 _ _ _ _ _ h
/-- ArmExpanderModel.isBinder -/
def F85 (n : Nat) (a0 : Int32) (M : Mem) : Option (Int32 × Mem) :=
  if a0 < 0 ∨ 320 ≤ (a0 : Int32).toNatClampNeg then none else (if (M.1 105 (a0 : Int32).toNatClampNeg) < 1000 then (J85_39 n M) else (if a0 ≤ 0 then (J85_39 n M) else (if (a0 - 1) < 0 ∨ 320 ≤ (a0 - 1 : Int32).toNatClampNeg then none else (match F27 n 12 5 20 M with | some (v6, M7) => (if (M.1 105 (a0 - 1 : Int32).toNatClampNeg) = v6 then (J85_35 n M7) else (J85_39 n M7)) | none => none))))
set_option maxRecDepth 100000 in
set_option maxHeartbeats 4000000 in
theorem F85_ev (sc : Option (Nat × (Nat → Int32))) (n : Nat) (a0 : Int32)  (M : Mem) (e : Nat) (he : 2 ≤ e) (r : Int32) (M' : Mem) (h : F85 n a0 M = some (r, M')) : pm_ev pmT sc e 85 false (0, [some (.ref 83), some (.int a0)], [], 129, 17845, hp M) (some (.int r), 129, 17845, hp M') := by
  unfold F85 at h
  refine pe_blk mm_85 1 (s' := (1, [some (.ref 83), some (.int a0)], [.ref 83], _, _, _)) rfl ?_
  refine pe_get mm_85 rfl rfl rfl (by decide) rfl ?_
  refine pe_blk mm_85 1 (s' := (5, [some (.ref 83), some (.int a0)], [.int a0, .ref 105], _, _, _)) rfl ?_
  by_cases q1 : a0 < 0 ∨ 320 ≤ (a0 : Int32).toNatClampNeg
  · rw [if_pos q1] at h
    cases h
  · rw [if_neg q1] at h
    refine pe_iald (f := M.1 105) mm_85 rfl rfl (by decide) q1 ?_
    refine pe_blk mm_85 1 (s' := (9, [some (.ref 83), some (.int a0)], [.int 1000, .int (M.1 105 (a0 : Int32).toNatClampNeg)], _, _, _)) rfl ?_
    by_cases q2 : (M.1 105 (a0 : Int32).toNatClampNeg) < 1000
    · rw [if_pos q2] at h
      refine pe_blk mm_85 1 (s' := (if (M.1 105 (a0 : Int32).toNatClampNeg) < 1000 then 39 else 12, [some (.ref 83), some (.int a0)], [], _, _, _)) rfl ?_
      rw [if_pos q2]
      exact J85_39_ev sc n e he _ _ _ _ _ h
    · rw [if_neg q2] at h
      refine pe_blk mm_85 1 (s' := (if (M.1 105 (a0 : Int32).toNatClampNeg) < 1000 then 39 else 12, [some (.ref 83), some (.int a0)], [], _, _, _)) rfl ?_
      rw [if_neg q2]
      refine pe_blk mm_85 1 (s' := (13, [some (.ref 83), some (.int a0)], [.int a0], _, _, _)) rfl ?_
      by_cases q4 : a0 ≤ 0
      · rw [if_pos q4] at h
        refine pe_blk mm_85 1 (s' := (if a0 ≤ 0 then 39 else 16, [some (.ref 83), some (.int a0)], [], _, _, _)) rfl ?_
        rw [if_pos q4]
        exact J85_39_ev sc n e he _ _ _ _ _ h
      · rw [if_neg q4] at h
        refine pe_blk mm_85 1 (s' := (if a0 ≤ 0 then 39 else 16, [some (.ref 83), some (.int a0)], [], _, _, _)) rfl ?_
        rw [if_neg q4]
        refine pe_blk mm_85 1 (s' := (17, [some (.ref 83), some (.int a0)], [.ref 83], _, _, _)) rfl ?_
        refine pe_get mm_85 rfl rfl rfl (by decide) rfl ?_
        refine pe_blk mm_85 3 (s' := (23, [some (.ref 83), some (.int a0)], [.int (a0 - 1), .ref 105], _, _, _)) rfl ?_
        by_cases q5 : (a0 - 1) < 0 ∨ 320 ≤ (a0 - 1 : Int32).toNatClampNeg
        · rw [if_pos q5] at h
          cases h
        · rw [if_neg q5] at h
          refine pe_iald (f := M.1 105) mm_85 rfl rfl (by decide) q5 ?_
          refine pe_blk mm_85 3 (s' := (29, [some (.ref 83), some (.int a0)], [.int 20, .int 5, .int 12, .int (M.1 105 (a0 - 1 : Int32).toNatClampNeg)], _, _, _)) rfl ?_
          obtain ⟨e1, rfl⟩ : ∃ e1, e = e1 + 1 := ⟨e - 1, by omega⟩
          cases hc8 : F27 n 12 5 20 M with
          | none => rw [hc8] at h; cases h
          | some w =>
            obtain ⟨v6, M7⟩ := w
            rw [hc8] at h
            dsimp only at h
            refine pe_stat (al := [.int 20, .int 5, .int 12]) (L0 := [some (.int 12), some (.int 5), some (.int 20)]) (r1 := (some (.int v6), 129, 17845, hp M7)) mm_85 rfl rfl rfl mm_27 rfl (Nat.le_of_ble_eq_true rfl) (Nat.le_of_ble_eq_true rfl) rfl rfl (F27_ev sc n 12 5 20 _ e1 (by omega) _ _ hc8) ?_
            show pm_ev _ _ _ _ _ (32, [some (.ref 83), some (.int a0)], [.int v6, .int (M.1 105 (a0 - 1 : Int32).toNatClampNeg)], _, _, _) _
            by_cases q9 : (M.1 105 (a0 - 1 : Int32).toNatClampNeg) = v6
            · rw [if_pos q9] at h
              refine pe_blk mm_85 1 (s' := (if (M.1 105 (a0 - 1 : Int32).toNatClampNeg) = v6 then 35 else 39, [some (.ref 83), some (.int a0)], [], _, _, _)) rfl ?_
              rw [if_pos q9]
              exact J85_35_ev sc n (e1 + 1) he _ _ _ _ _ h
            · rw [if_neg q9] at h
              refine pe_blk mm_85 1 (s' := (if (M.1 105 (a0 - 1 : Int32).toNatClampNeg) = v6 then 35 else 39, [some (.ref 83), some (.int a0)], [], _, _, _)) rfl ?_
              rw [if_neg q9]
              exact J85_39_ev sc n (e1 + 1) he _ _ _ _ _ h
def J86_26 (n : Nat) (M : Mem) : Option (Int32 × Mem) :=
  some ((-1), M)
set_option maxRecDepth 100000 in
set_option maxHeartbeats 4000000 in
theorem J86_26_ev (sc : Option (Nat × (Nat → Int32))) (n : Nat)  (e : Nat) (he : 3 ≤ e) : ∀ (u0 : Option Value) (u1 : Option Value) (u2 : Option Value) (u3 : Option Value) (u4 : Option Value) (u5 : Option Value) (M : Mem) (r : Int32) (M' : Mem), J86_26 n  M = some (r, M') → pm_ev pmT sc e 86 false (26, [u0, u1, u2, u3, u4, u5], [], 129, 17845, hp M) (some (.int r), 129, 17845, hp M') := by
  intro u0 u1 u2 u3 u4 u5 M r M' h
  unfold J86_26 at h
  refine pe_blk mm_86 1 (s' := (27, [u0, u1, u2, u3, u4, u5], [.int (-1)], _, _, _)) rfl ?_
  cases h
  exact pe_ret mm_86 rfl rfl
def J86_170 (n : Nat) (x2 : Int32) (M : Mem) : Option (Int32 × Mem) :=
  some (x2, M)
set_option maxRecDepth 100000 in
set_option maxHeartbeats 4000000 in
theorem J86_170_ev (sc : Option (Nat × (Nat → Int32))) (n : Nat)  (e : Nat) (he : 3 ≤ e) : ∀ (x2 : Int32) (u0 : Option Value) (u1 : Option Value) (u3 : Option Value) (u4 : Option Value) (u5 : Option Value) (M : Mem) (r : Int32) (M' : Mem), J86_170 n x2 M = some (r, M') → pm_ev pmT sc e 86 false (170, [u0, u1, some (.int x2), u3, u4, u5], [], 129, 17845, hp M) (some (.int r), 129, 17845, hp M') := by
  intro x2 u0 u1 u3 u4 u5 M r M' h
  unfold J86_170 at h
  refine pe_blk mm_86 1 (s' := (171, [u0, u1, some (.int x2), u3, u4, u5], [.int x2], _, _, _)) rfl ?_
  cases h
  exact pe_ret mm_86 rfl rfl
def J86_163 (n : Nat) (rec47 : Int32 → Int32 → Int32 → Int32 → Mem → Option (Int32 × Mem)) (x1 : Int32) (x3 : Int32) (x4 : Int32) (s0 : Int32) (M : Mem) : Option (Int32 × Mem) :=
  rec47 x1 s0 x3 (x4 + (-1)) M
set_option maxRecDepth 100000 in
set_option maxHeartbeats 4000000 in
theorem J86_163_ev (sc : Option (Nat × (Nat → Int32))) (n : Nat)  (e : Nat) (he : 3 ≤ e) (rec47 : Int32 → Int32 → Int32 → Int32 → Mem → Option (Int32 × Mem)) (hr47 : ∀ (x1 : Int32) (x2 : Int32) (x3 : Int32) (x4 : Int32) (u5 : Option Value) (M : Mem) (r : Int32) (M' : Mem), rec47 x1 x2 x3 x4 M = some (r, M') → pm_ev pmT sc e 86 false (47, [some (.ref 83), some (.int x1), some (.int x2), some (.int x3), some (.int x4), u5], [], 129, 17845, hp M) (some (.int r), 129, 17845, hp M')) : ∀ (x1 : Int32) (x3 : Int32) (x4 : Int32) (s0 : Int32) (u2 : Option Value) (u5 : Option Value) (M : Mem) (r : Int32) (M' : Mem), J86_163 n rec47 x1 x3 x4 s0 M = some (r, M') → pm_ev pmT sc e 86 false (163, [some (.ref 83), some (.int x1), u2, some (.int x3), some (.int x4), u5], [.int s0], 129, 17845, hp M) (some (.int r), 129, 17845, hp M') := by
  intro x1 x3 x4 s0 u2 u5 M r M' h
  unfold J86_163 at h
  refine pe_blk mm_86 3 (s' := (47, [some (.ref 83), some (.int x1), some (.int s0), some (.int x3), some (.int (x4 + (-1))), u5], [], _, _, _)) rfl ?_
  exact hr47 x1 s0 x3 (x4 + (-1)) _ _ _ _ h
def J86_150 (n : Nat) (rec47 : Int32 → Int32 → Int32 → Int32 → Mem → Option (Int32 × Mem)) (x1 : Int32) (x2 : Int32) (x3 : Int32) (x4 : Int32) (s0 : Int32) (M : Mem) : Option (Int32 × Mem) :=
  if s0 = 0 then (J86_163 n rec47 x1 x3 x4 x2 M) else (J86_163 n rec47 x1 x3 x4 x4 M)
set_option maxRecDepth 100000 in
set_option maxHeartbeats 4000000 in
theorem J86_150_ev (sc : Option (Nat × (Nat → Int32))) (n : Nat)  (e : Nat) (he : 3 ≤ e) (rec47 : Int32 → Int32 → Int32 → Int32 → Mem → Option (Int32 × Mem)) (hr47 : ∀ (x1 : Int32) (x2 : Int32) (x3 : Int32) (x4 : Int32) (u5 : Option Value) (M : Mem) (r : Int32) (M' : Mem), rec47 x1 x2 x3 x4 M = some (r, M') → pm_ev pmT sc e 86 false (47, [some (.ref 83), some (.int x1), some (.int x2), some (.int x3), some (.int x4), u5], [], 129, 17845, hp M) (some (.int r), 129, 17845, hp M')) : ∀ (x1 : Int32) (x2 : Int32) (x3 : Int32) (x4 : Int32) (s0 : Int32) (u5 : Option Value) (M : Mem) (r : Int32) (M' : Mem), J86_150 n rec47 x1 x2 x3 x4 s0 M = some (r, M') → pm_ev pmT sc e 86 false (150, [some (.ref 83), some (.int x1), some (.int x2), some (.int x3), some (.int x4), u5], [.int s0], 129, 17845, hp M) (some (.int r), 129, 17845, hp M') := by
  intro x1 x2 x3 x4 s0 u5 M r M' h
  unfold J86_150 at h
  refine pe_blk mm_86 2 (s' := (154, [some (.ref 83), some (.int x1), some (.int x2), some (.int x3), some (.int x4), some (.int s0)], [.int s0], _, _, _)) rfl ?_
  by_cases q28 : s0 = 0
  · rw [if_pos q28] at h
    refine pe_blk mm_86 1 (s' := (if s0 = 0 then 162 else 157, [some (.ref 83), some (.int x1), some (.int x2), some (.int x3), some (.int x4), some (.int s0)], [], _, _, _)) rfl ?_
    rw [if_pos q28]
    refine pe_blk mm_86 1 (s' := (163, [some (.ref 83), some (.int x1), some (.int x2), some (.int x3), some (.int x4), some (.int s0)], [.int x2], _, _, _)) rfl ?_
    exact J86_163_ev sc n e he rec47 hr47 x1 x3 x4 x2 _ _ _ _ _ h
  · rw [if_neg q28] at h
    refine pe_blk mm_86 1 (s' := (if s0 = 0 then 162 else 157, [some (.ref 83), some (.int x1), some (.int x2), some (.int x3), some (.int x4), some (.int s0)], [], _, _, _)) rfl ?_
    rw [if_neg q28]
    refine pe_blk mm_86 2 (s' := (163, [some (.ref 83), some (.int x1), some (.int x2), some (.int x3), some (.int x4), some (.int s0)], [.int x4], _, _, _)) rfl ?_
    exact J86_163_ev sc n e he rec47 hr47 x1 x3 x4 x4 _ _ _ _ _ h
def J86_149 (n : Nat) (rec47 : Int32 → Int32 → Int32 → Int32 → Mem → Option (Int32 × Mem)) (x1 : Int32) (x2 : Int32) (x3 : Int32) (x4 : Int32) (M : Mem) : Option (Int32 × Mem) :=
  J86_150 n rec47 x1 x2 x3 x4 0 M
set_option maxRecDepth 100000 in
set_option maxHeartbeats 4000000 in
theorem J86_149_ev (sc : Option (Nat × (Nat → Int32))) (n : Nat)  (e : Nat) (he : 3 ≤ e) (rec47 : Int32 → Int32 → Int32 → Int32 → Mem → Option (Int32 × Mem)) (hr47 : ∀ (x1 : Int32) (x2 : Int32) (x3 : Int32) (x4 : Int32) (u5 : Option Value) (M : Mem) (r : Int32) (M' : Mem), rec47 x1 x2 x3 x4 M = some (r, M') → pm_ev pmT sc e 86 false (47, [some (.ref 83), some (.int x1), some (.int x2), some (.int x3), some (.int x4), u5], [], 129, 17845, hp M) (some (.int r), 129, 17845, hp M')) : ∀ (x1 : Int32) (x2 : Int32) (x3 : Int32) (x4 : Int32) (u5 : Option Value) (M : Mem) (r : Int32) (M' : Mem), J86_149 n rec47 x1 x2 x3 x4 M = some (r, M') → pm_ev pmT sc e 86 false (149, [some (.ref 83), some (.int x1), some (.int x2), some (.int x3), some (.int x4), u5], [], 129, 17845, hp M) (some (.int r), 129, 17845, hp M') := by
  intro x1 x2 x3 x4 u5 M r M' h
  unfold J86_149 at h
  refine pe_blk mm_86 1 (s' := (150, [some (.ref 83), some (.int x1), some (.int x2), some (.int x3), some (.int x4), u5], [.int 0], _, _, _)) rfl ?_
  exact J86_150_ev sc n e he rec47 hr47 x1 x2 x3 x4 0 _ _ _ _ h
def J86_129 (n : Nat) (rec47 : Int32 → Int32 → Int32 → Int32 → Mem → Option (Int32 × Mem)) (x1 : Int32) (x2 : Int32) (x3 : Int32) (x4 : Int32) (M : Mem) : Option (Int32 × Mem) :=
  if x4 < 0 ∨ 320 ≤ (x4 : Int32).toNatClampNeg then none else (if x1 < 0 ∨ 320 ≤ (x1 : Int32).toNatClampNeg then none else (if (M.1 106 (x4 : Int32).toNatClampNeg) = (M.1 106 (x1 : Int32).toNatClampNeg) then (J86_150 n rec47 x1 x2 x3 x4 1 M) else (J86_149 n rec47 x1 x2 x3 x4 M)))
set_option maxRecDepth 100000 in
set_option maxHeartbeats 4000000 in
theorem J86_129_ev (sc : Option (Nat × (Nat → Int32))) (n : Nat)  (e : Nat) (he : 3 ≤ e) (rec47 : Int32 → Int32 → Int32 → Int32 → Mem → Option (Int32 × Mem)) (hr47 : ∀ (x1 : Int32) (x2 : Int32) (x3 : Int32) (x4 : Int32) (u5 : Option Value) (M : Mem) (r : Int32) (M' : Mem), rec47 x1 x2 x3 x4 M = some (r, M') → pm_ev pmT sc e 86 false (47, [some (.ref 83), some (.int x1), some (.int x2), some (.int x3), some (.int x4), u5], [], 129, 17845, hp M) (some (.int r), 129, 17845, hp M')) : ∀ (x1 : Int32) (x2 : Int32) (x3 : Int32) (x4 : Int32) (u5 : Option Value) (M : Mem) (r : Int32) (M' : Mem), J86_129 n rec47 x1 x2 x3 x4 M = some (r, M') → pm_ev pmT sc e 86 false (129, [some (.ref 83), some (.int x1), some (.int x2), some (.int x3), some (.int x4), u5], [], 129, 17845, hp M) (some (.int r), 129, 17845, hp M') := by
  intro x1 x2 x3 x4 u5 M r M' h
  unfold J86_129 at h
  refine pe_blk mm_86 1 (s' := (130, [some (.ref 83), some (.int x1), some (.int x2), some (.int x3), some (.int x4), u5], [.ref 83], _, _, _)) rfl ?_
  refine pe_get mm_86 rfl rfl rfl (by decide) rfl ?_
  refine pe_blk mm_86 1 (s' := (135, [some (.ref 83), some (.int x1), some (.int x2), some (.int x3), some (.int x4), u5], [.int x4, .ref 106], _, _, _)) rfl ?_
  by_cases q32 : x4 < 0 ∨ 320 ≤ (x4 : Int32).toNatClampNeg
  · rw [if_pos q32] at h
    cases h
  · rw [if_neg q32] at h
    refine pe_iald (f := M.1 106) mm_86 rfl rfl (by decide) q32 ?_
    refine pe_blk mm_86 1 (s' := (137, [some (.ref 83), some (.int x1), some (.int x2), some (.int x3), some (.int x4), u5], [.ref 83, .int (M.1 106 (x4 : Int32).toNatClampNeg)], _, _, _)) rfl ?_
    refine pe_get mm_86 rfl rfl rfl (by decide) rfl ?_
    refine pe_blk mm_86 1 (s' := (141, [some (.ref 83), some (.int x1), some (.int x2), some (.int x3), some (.int x4), u5], [.int x1, .ref 106, .int (M.1 106 (x4 : Int32).toNatClampNeg)], _, _, _)) rfl ?_
    by_cases q33 : x1 < 0 ∨ 320 ≤ (x1 : Int32).toNatClampNeg
    · rw [if_pos q33] at h
      cases h
    · rw [if_neg q33] at h
      refine pe_iald (f := M.1 106) mm_86 rfl rfl (by decide) q33 ?_
      by_cases q34 : (M.1 106 (x4 : Int32).toNatClampNeg) = (M.1 106 (x1 : Int32).toNatClampNeg)
      · rw [if_pos q34] at h
        refine pe_blk mm_86 1 (s' := (if (M.1 106 (x4 : Int32).toNatClampNeg) = (M.1 106 (x1 : Int32).toNatClampNeg) then 145 else 149, [some (.ref 83), some (.int x1), some (.int x2), some (.int x3), some (.int x4), u5], [], _, _, _)) rfl ?_
        rw [if_pos q34]
        refine pe_blk mm_86 2 (s' := (150, [some (.ref 83), some (.int x1), some (.int x2), some (.int x3), some (.int x4), u5], [.int 1], _, _, _)) rfl ?_
        exact J86_150_ev sc n e he rec47 hr47 x1 x2 x3 x4 1 _ _ _ _ h
      · rw [if_neg q34] at h
        refine pe_blk mm_86 1 (s' := (if (M.1 106 (x4 : Int32).toNatClampNeg) = (M.1 106 (x1 : Int32).toNatClampNeg) then 145 else 149, [some (.ref 83), some (.int x1), some (.int x2), some (.int x3), some (.int x4), u5], [], _, _, _)) rfl ?_
        rw [if_neg q34]
        exact J86_149_ev sc n e he rec47 hr47 x1 x2 x3 x4 _ _ _ _ h
def J86_99 (n : Nat) (rec47 : Int32 → Int32 → Int32 → Int32 → Mem → Option (Int32 × Mem)) (x1 : Int32) (x2 : Int32) (x4 : Int32) (s0 : Int32) (M : Mem) : Option (Int32 × Mem) :=
  if s0 = 0 then (match F85 n x4 M with | some (v24, M25) => (if v24 = 0 then (J86_149 n rec47 x1 x2 s0 x4 M25) else (if x4 < 0 ∨ 320 ≤ (x4 : Int32).toNatClampNeg then none else (if x1 < 0 ∨ 320 ≤ (x1 : Int32).toNatClampNeg then none else (if (M25.1 105 (x4 : Int32).toNatClampNeg) = (M25.1 105 (x1 : Int32).toNatClampNeg) then (J86_129 n rec47 x1 x2 s0 x4 M25) else (J86_149 n rec47 x1 x2 s0 x4 M25))))) | none => none) else (J86_149 n rec47 x1 x2 s0 x4 M)
set_option maxRecDepth 100000 in
set_option maxHeartbeats 4000000 in
theorem J86_99_ev (sc : Option (Nat × (Nat → Int32))) (n : Nat)  (e : Nat) (he : 3 ≤ e) (rec47 : Int32 → Int32 → Int32 → Int32 → Mem → Option (Int32 × Mem)) (hr47 : ∀ (x1 : Int32) (x2 : Int32) (x3 : Int32) (x4 : Int32) (u5 : Option Value) (M : Mem) (r : Int32) (M' : Mem), rec47 x1 x2 x3 x4 M = some (r, M') → pm_ev pmT sc e 86 false (47, [some (.ref 83), some (.int x1), some (.int x2), some (.int x3), some (.int x4), u5], [], 129, 17845, hp M) (some (.int r), 129, 17845, hp M')) : ∀ (x1 : Int32) (x2 : Int32) (x4 : Int32) (s0 : Int32) (u3 : Option Value) (u5 : Option Value) (M : Mem) (r : Int32) (M' : Mem), J86_99 n rec47 x1 x2 x4 s0 M = some (r, M') → pm_ev pmT sc e 86 false (99, [some (.ref 83), some (.int x1), some (.int x2), u3, some (.int x4), u5], [.int s0], 129, 17845, hp M) (some (.int r), 129, 17845, hp M') := by
  intro x1 x2 x4 s0 u3 u5 M r M' h
  unfold J86_99 at h
  refine pe_blk mm_86 2 (s' := (101, [some (.ref 83), some (.int x1), some (.int x2), some (.int s0), some (.int x4), u5], [.int s0], _, _, _)) rfl ?_
  by_cases q23 : s0 = 0
  · rw [if_pos q23] at h
    refine pe_blk mm_86 1 (s' := (if s0 = 0 then 104 else 149, [some (.ref 83), some (.int x1), some (.int x2), some (.int s0), some (.int x4), u5], [], _, _, _)) rfl ?_
    rw [if_pos q23]
    refine pe_blk mm_86 2 (s' := (107, [some (.ref 83), some (.int x1), some (.int x2), some (.int s0), some (.int x4), u5], [.int x4, .ref 83], _, _, _)) rfl ?_
    obtain ⟨e1, rfl⟩ : ∃ e1, e = e1 + 1 := ⟨e - 1, by omega⟩
    cases hc26 : F85 n x4 M with
    | none => rw [hc26] at h; cases h
    | some w =>
      obtain ⟨v24, M25⟩ := w
      rw [hc26] at h
      dsimp only at h
      refine pe_virt (al := [.int x4]) (a := 83) (L0 := [some (.ref 83), some (.int x4)]) (r1 := (some (.int v24), 129, 17845, hp M25)) mm_86 rfl rfl rfl mm_85 rfl (by decide) (by decide) rfl (Nat.le_of_ble_eq_true rfl) (Nat.le_of_ble_eq_true rfl) rfl rfl (F85_ev sc n x4 _ e1 (by omega) _ _ hc26) ?_
      show pm_ev _ _ _ _ _ (110, [some (.ref 83), some (.int x1), some (.int x2), some (.int s0), some (.int x4), u5], [.int v24], _, _, _) _
      by_cases q27 : v24 = 0
      · rw [if_pos q27] at h
        refine pe_blk mm_86 1 (s' := (if v24 = 0 then 149 else 113, [some (.ref 83), some (.int x1), some (.int x2), some (.int s0), some (.int x4), u5], [], _, _, _)) rfl ?_
        rw [if_pos q27]
        exact J86_149_ev sc n (e1 + 1) he rec47 hr47 x1 x2 s0 x4 _ _ _ _ h
      · rw [if_neg q27] at h
        refine pe_blk mm_86 1 (s' := (if v24 = 0 then 149 else 113, [some (.ref 83), some (.int x1), some (.int x2), some (.int s0), some (.int x4), u5], [], _, _, _)) rfl ?_
        rw [if_neg q27]
        refine pe_blk mm_86 1 (s' := (114, [some (.ref 83), some (.int x1), some (.int x2), some (.int s0), some (.int x4), u5], [.ref 83], _, _, _)) rfl ?_
        refine pe_get mm_86 rfl rfl rfl (by decide) rfl ?_
        refine pe_blk mm_86 1 (s' := (119, [some (.ref 83), some (.int x1), some (.int x2), some (.int s0), some (.int x4), u5], [.int x4, .ref 105], _, _, _)) rfl ?_
        by_cases q29 : x4 < 0 ∨ 320 ≤ (x4 : Int32).toNatClampNeg
        · rw [if_pos q29] at h
          cases h
        · rw [if_neg q29] at h
          refine pe_iald (f := M25.1 105) mm_86 rfl rfl (by decide) q29 ?_
          refine pe_blk mm_86 1 (s' := (121, [some (.ref 83), some (.int x1), some (.int x2), some (.int s0), some (.int x4), u5], [.ref 83, .int (M25.1 105 (x4 : Int32).toNatClampNeg)], _, _, _)) rfl ?_
          refine pe_get mm_86 rfl rfl rfl (by decide) rfl ?_
          refine pe_blk mm_86 1 (s' := (125, [some (.ref 83), some (.int x1), some (.int x2), some (.int s0), some (.int x4), u5], [.int x1, .ref 105, .int (M25.1 105 (x4 : Int32).toNatClampNeg)], _, _, _)) rfl ?_
          by_cases q30 : x1 < 0 ∨ 320 ≤ (x1 : Int32).toNatClampNeg
          · rw [if_pos q30] at h
            cases h
          · rw [if_neg q30] at h
            refine pe_iald (f := M25.1 105) mm_86 rfl rfl (by decide) q30 ?_
            by_cases q31 : (M25.1 105 (x4 : Int32).toNatClampNeg) = (M25.1 105 (x1 : Int32).toNatClampNeg)
            · rw [if_pos q31] at h
              refine pe_blk mm_86 1 (s' := (if (M25.1 105 (x4 : Int32).toNatClampNeg) = (M25.1 105 (x1 : Int32).toNatClampNeg) then 129 else 149, [some (.ref 83), some (.int x1), some (.int x2), some (.int s0), some (.int x4), u5], [], _, _, _)) rfl ?_
              rw [if_pos q31]
              exact J86_129_ev sc n (e1 + 1) he rec47 hr47 x1 x2 s0 x4 _ _ _ _ h
            · rw [if_neg q31] at h
              refine pe_blk mm_86 1 (s' := (if (M25.1 105 (x4 : Int32).toNatClampNeg) = (M25.1 105 (x1 : Int32).toNatClampNeg) then 129 else 149, [some (.ref 83), some (.int x1), some (.int x2), some (.int s0), some (.int x4), u5], [], _, _, _)) rfl ?_
              rw [if_neg q31]
              exact J86_149_ev sc n (e1 + 1) he rec47 hr47 x1 x2 s0 x4 _ _ _ _ h
  · rw [if_neg q23] at h
    refine pe_blk mm_86 1 (s' := (if s0 = 0 then 104 else 149, [some (.ref 83), some (.int x1), some (.int x2), some (.int s0), some (.int x4), u5], [], _, _, _)) rfl ?_
    rw [if_neg q23]
    exact J86_149_ev sc n e he rec47 hr47 x1 x2 s0 x4 _ _ _ _ h
def J86_98 (n : Nat) (rec47 : Int32 → Int32 → Int32 → Int32 → Mem → Option (Int32 × Mem)) (x1 : Int32) (x2 : Int32) (x3 : Int32) (x4 : Int32) (M : Mem) : Option (Int32 × Mem) :=
  J86_99 n rec47 x1 x2 x4 x3 M
set_option maxRecDepth 100000 in
set_option maxHeartbeats 4000000 in
theorem J86_98_ev (sc : Option (Nat × (Nat → Int32))) (n : Nat)  (e : Nat) (he : 3 ≤ e) (rec47 : Int32 → Int32 → Int32 → Int32 → Mem → Option (Int32 × Mem)) (hr47 : ∀ (x1 : Int32) (x2 : Int32) (x3 : Int32) (x4 : Int32) (u5 : Option Value) (M : Mem) (r : Int32) (M' : Mem), rec47 x1 x2 x3 x4 M = some (r, M') → pm_ev pmT sc e 86 false (47, [some (.ref 83), some (.int x1), some (.int x2), some (.int x3), some (.int x4), u5], [], 129, 17845, hp M) (some (.int r), 129, 17845, hp M')) : ∀ (x1 : Int32) (x2 : Int32) (x3 : Int32) (x4 : Int32) (u5 : Option Value) (M : Mem) (r : Int32) (M' : Mem), J86_98 n rec47 x1 x2 x3 x4 M = some (r, M') → pm_ev pmT sc e 86 false (98, [some (.ref 83), some (.int x1), some (.int x2), some (.int x3), some (.int x4), u5], [], 129, 17845, hp M) (some (.int r), 129, 17845, hp M') := by
  intro x1 x2 x3 x4 u5 M r M' h
  unfold J86_98 at h
  refine pe_blk mm_86 1 (s' := (99, [some (.ref 83), some (.int x1), some (.int x2), some (.int x3), some (.int x4), u5], [.int x3], _, _, _)) rfl ?_
  exact J86_99_ev sc n e he rec47 hr47 x1 x2 x4 x3 _ _ _ _ _ h
def J86_92 (n : Nat) (rec47 : Int32 → Int32 → Int32 → Int32 → Mem → Option (Int32 × Mem)) (x1 : Int32) (x2 : Int32) (x3 : Int32) (x4 : Int32) (M : Mem) : Option (Int32 × Mem) :=
  J86_99 n rec47 x1 x2 x4 (x3 - 1) M
set_option maxRecDepth 100000 in
set_option maxHeartbeats 4000000 in
theorem J86_92_ev (sc : Option (Nat × (Nat → Int32))) (n : Nat)  (e : Nat) (he : 3 ≤ e) (rec47 : Int32 → Int32 → Int32 → Int32 → Mem → Option (Int32 × Mem)) (hr47 : ∀ (x1 : Int32) (x2 : Int32) (x3 : Int32) (x4 : Int32) (u5 : Option Value) (M : Mem) (r : Int32) (M' : Mem), rec47 x1 x2 x3 x4 M = some (r, M') → pm_ev pmT sc e 86 false (47, [some (.ref 83), some (.int x1), some (.int x2), some (.int x3), some (.int x4), u5], [], 129, 17845, hp M) (some (.int r), 129, 17845, hp M')) : ∀ (x1 : Int32) (x2 : Int32) (x3 : Int32) (x4 : Int32) (u5 : Option Value) (M : Mem) (r : Int32) (M' : Mem), J86_92 n rec47 x1 x2 x3 x4 M = some (r, M') → pm_ev pmT sc e 86 false (92, [some (.ref 83), some (.int x1), some (.int x2), some (.int x3), some (.int x4), u5], [], 129, 17845, hp M) (some (.int r), 129, 17845, hp M') := by
  intro x1 x2 x3 x4 u5 M r M' h
  unfold J86_92 at h
  refine pe_blk mm_86 4 (s' := (99, [some (.ref 83), some (.int x1), some (.int x2), some (.int x3), some (.int x4), u5], [.int (x3 - 1)], _, _, _)) rfl ?_
  exact J86_99_ev sc n e he rec47 hr47 x1 x2 x4 (x3 - 1) _ _ _ _ _ h
def J86_75 (n : Nat) (rec47 : Int32 → Int32 → Int32 → Int32 → Mem → Option (Int32 × Mem)) (x1 : Int32) (x2 : Int32) (x3 : Int32) (x4 : Int32) (M : Mem) : Option (Int32 × Mem) :=
  if x4 < 0 ∨ 320 ≤ (x4 : Int32).toNatClampNeg then none else (match F21 n (M.1 105 (x4 : Int32).toNatClampNeg) M with | some (v19, M20) => (if v19 = 0 then (J86_98 n rec47 x1 x2 x3 x4 M20) else (if x3 ≤ 0 then (J86_98 n rec47 x1 x2 x3 x4 M20) else (J86_92 n rec47 x1 x2 x3 x4 M20))) | none => none)
set_option maxRecDepth 100000 in
set_option maxHeartbeats 4000000 in
theorem J86_75_ev (sc : Option (Nat × (Nat → Int32))) (n : Nat)  (e : Nat) (he : 3 ≤ e) (rec47 : Int32 → Int32 → Int32 → Int32 → Mem → Option (Int32 × Mem)) (hr47 : ∀ (x1 : Int32) (x2 : Int32) (x3 : Int32) (x4 : Int32) (u5 : Option Value) (M : Mem) (r : Int32) (M' : Mem), rec47 x1 x2 x3 x4 M = some (r, M') → pm_ev pmT sc e 86 false (47, [some (.ref 83), some (.int x1), some (.int x2), some (.int x3), some (.int x4), u5], [], 129, 17845, hp M) (some (.int r), 129, 17845, hp M')) : ∀ (x1 : Int32) (x2 : Int32) (x3 : Int32) (x4 : Int32) (u5 : Option Value) (M : Mem) (r : Int32) (M' : Mem), J86_75 n rec47 x1 x2 x3 x4 M = some (r, M') → pm_ev pmT sc e 86 false (75, [some (.ref 83), some (.int x1), some (.int x2), some (.int x3), some (.int x4), u5], [], 129, 17845, hp M) (some (.int r), 129, 17845, hp M') := by
  intro x1 x2 x3 x4 u5 M r M' h
  unfold J86_75 at h
  refine pe_blk mm_86 1 (s' := (76, [some (.ref 83), some (.int x1), some (.int x2), some (.int x3), some (.int x4), u5], [.ref 83], _, _, _)) rfl ?_
  refine pe_get mm_86 rfl rfl rfl (by decide) rfl ?_
  refine pe_blk mm_86 1 (s' := (81, [some (.ref 83), some (.int x1), some (.int x2), some (.int x3), some (.int x4), u5], [.int x4, .ref 105], _, _, _)) rfl ?_
  by_cases q18 : x4 < 0 ∨ 320 ≤ (x4 : Int32).toNatClampNeg
  · rw [if_pos q18] at h
    cases h
  · rw [if_neg q18] at h
    refine pe_iald (f := M.1 105) mm_86 rfl rfl (by decide) q18 ?_
    obtain ⟨e1, rfl⟩ : ∃ e1, e = e1 + 1 := ⟨e - 1, by omega⟩
    cases hc21 : F21 n (M.1 105 (x4 : Int32).toNatClampNeg) M with
    | none => rw [hc21] at h; cases h
    | some w =>
      obtain ⟨v19, M20⟩ := w
      rw [hc21] at h
      dsimp only at h
      refine pe_stat (al := [.int (M.1 105 (x4 : Int32).toNatClampNeg)]) (L0 := [some (.int (M.1 105 (x4 : Int32).toNatClampNeg))]) (r1 := (some (.int v19), 129, 17845, hp M20)) mm_86 rfl rfl rfl mm_21 rfl (Nat.le_of_ble_eq_true rfl) (Nat.le_of_ble_eq_true rfl) rfl rfl (F21_ev sc n (M.1 105 (x4 : Int32).toNatClampNeg) _ e1 (by omega) _ _ hc21) ?_
      show pm_ev _ _ _ _ _ (85, [some (.ref 83), some (.int x1), some (.int x2), some (.int x3), some (.int x4), u5], [.int v19], _, _, _) _
      by_cases q22 : v19 = 0
      · rw [if_pos q22] at h
        refine pe_blk mm_86 1 (s' := (if v19 = 0 then 98 else 88, [some (.ref 83), some (.int x1), some (.int x2), some (.int x3), some (.int x4), u5], [], _, _, _)) rfl ?_
        rw [if_pos q22]
        exact J86_98_ev sc n (e1 + 1) he rec47 hr47 x1 x2 x3 x4 _ _ _ _ h
      · rw [if_neg q22] at h
        refine pe_blk mm_86 1 (s' := (if v19 = 0 then 98 else 88, [some (.ref 83), some (.int x1), some (.int x2), some (.int x3), some (.int x4), u5], [], _, _, _)) rfl ?_
        rw [if_neg q22]
        refine pe_blk mm_86 1 (s' := (89, [some (.ref 83), some (.int x1), some (.int x2), some (.int x3), some (.int x4), u5], [.int x3], _, _, _)) rfl ?_
        by_cases q35 : x3 ≤ 0
        · rw [if_pos q35] at h
          refine pe_blk mm_86 1 (s' := (if x3 ≤ 0 then 98 else 92, [some (.ref 83), some (.int x1), some (.int x2), some (.int x3), some (.int x4), u5], [], _, _, _)) rfl ?_
          rw [if_pos q35]
          exact J86_98_ev sc n (e1 + 1) he rec47 hr47 x1 x2 x3 x4 _ _ _ _ h
        · rw [if_neg q35] at h
          refine pe_blk mm_86 1 (s' := (if x3 ≤ 0 then 98 else 92, [some (.ref 83), some (.int x1), some (.int x2), some (.int x3), some (.int x4), u5], [], _, _, _)) rfl ?_
          rw [if_neg q35]
          exact J86_92_ev sc n (e1 + 1) he rec47 hr47 x1 x2 x3 x4 _ _ _ _ h
def J86_69 (n : Nat) (rec47 : Int32 → Int32 → Int32 → Int32 → Mem → Option (Int32 × Mem)) (x1 : Int32) (x2 : Int32) (x3 : Int32) (x4 : Int32) (M : Mem) : Option (Int32 × Mem) :=
  J86_99 n rec47 x1 x2 x4 (x3 + 1) M
set_option maxRecDepth 100000 in
set_option maxHeartbeats 4000000 in
theorem J86_69_ev (sc : Option (Nat × (Nat → Int32))) (n : Nat)  (e : Nat) (he : 3 ≤ e) (rec47 : Int32 → Int32 → Int32 → Int32 → Mem → Option (Int32 × Mem)) (hr47 : ∀ (x1 : Int32) (x2 : Int32) (x3 : Int32) (x4 : Int32) (u5 : Option Value) (M : Mem) (r : Int32) (M' : Mem), rec47 x1 x2 x3 x4 M = some (r, M') → pm_ev pmT sc e 86 false (47, [some (.ref 83), some (.int x1), some (.int x2), some (.int x3), some (.int x4), u5], [], 129, 17845, hp M) (some (.int r), 129, 17845, hp M')) : ∀ (x1 : Int32) (x2 : Int32) (x3 : Int32) (x4 : Int32) (u5 : Option Value) (M : Mem) (r : Int32) (M' : Mem), J86_69 n rec47 x1 x2 x3 x4 M = some (r, M') → pm_ev pmT sc e 86 false (69, [some (.ref 83), some (.int x1), some (.int x2), some (.int x3), some (.int x4), u5], [], 129, 17845, hp M) (some (.int r), 129, 17845, hp M') := by
  intro x1 x2 x3 x4 u5 M r M' h
  unfold J86_69 at h
  refine pe_blk mm_86 4 (s' := (99, [some (.ref 83), some (.int x1), some (.int x2), some (.int x3), some (.int x4), u5], [.int (x3 + 1)], _, _, _)) rfl ?_
  exact J86_99_ev sc n e he rec47 hr47 x1 x2 x4 (x3 + 1) _ _ _ _ _ h
def L86_47 (n : Nat) : Nat → Int32 → Int32 → Int32 → Int32 → Mem → Option (Int32 × Mem)
  | 0, _, _, _, _, _ => none
  | k + 1, x1, x2, x3, x4, M => if x4 < 0 then (J86_170 n x2 M) else (if 0 ≤ x2 then (J86_170 n x2 M) else (if x4 < 0 ∨ 320 ≤ (x4 : Int32).toNatClampNeg then none else (match F22 n (M.1 105 (x4 : Int32).toNatClampNeg) M with | some (v14, M15) => (if v14 = 0 then (J86_75 n (L86_47 n k) x1 x2 x3 x4 M15) else (J86_69 n (L86_47 n k) x1 x2 x3 x4 M15)) | none => none)))
set_option maxRecDepth 100000 in
set_option maxHeartbeats 4000000 in
theorem L86_47_ev (sc : Option (Nat × (Nat → Int32))) (n : Nat)  (e : Nat) (he : 3 ≤ e) : ∀ k : Nat, ∀ (x1 : Int32) (x2 : Int32) (x3 : Int32) (x4 : Int32) (u5 : Option Value) (M : Mem) (r : Int32) (M' : Mem), L86_47 n k x1 x2 x3 x4 M = some (r, M') → pm_ev pmT sc e 86 false (47, [some (.ref 83), some (.int x1), some (.int x2), some (.int x3), some (.int x4), u5], [], 129, 17845, hp M) (some (.int r), 129, 17845, hp M') := by
  intro k
  induction k with
  | zero => intro x1 x2 x3 x4 u5 M r M' h; cases h
  | succ k hr47 =>
    intro x1 x2 x3 x4 u5 M r M' h
    rw [L86_47] at h
    refine pe_blk mm_86 1 (s' := (49, [some (.ref 83), some (.int x1), some (.int x2), some (.int x3), some (.int x4), u5], [.int x4], _, _, _)) rfl ?_
    by_cases q11 : x4 < 0
    · rw [if_pos q11] at h
      refine pe_blk mm_86 1 (s' := (if x4 < 0 then 170 else 52, [some (.ref 83), some (.int x1), some (.int x2), some (.int x3), some (.int x4), u5], [], _, _, _)) rfl ?_
      rw [if_pos q11]
      exact J86_170_ev sc n e he x2 _ _ _ _ _ _ _ _ h
    · rw [if_neg q11] at h
      refine pe_blk mm_86 1 (s' := (if x4 < 0 then 170 else 52, [some (.ref 83), some (.int x1), some (.int x2), some (.int x3), some (.int x4), u5], [], _, _, _)) rfl ?_
      rw [if_neg q11]
      refine pe_blk mm_86 1 (s' := (53, [some (.ref 83), some (.int x1), some (.int x2), some (.int x3), some (.int x4), u5], [.int x2], _, _, _)) rfl ?_
      by_cases q12 : 0 ≤ x2
      · rw [if_pos q12] at h
        refine pe_blk mm_86 1 (s' := (if 0 ≤ x2 then 170 else 56, [some (.ref 83), some (.int x1), some (.int x2), some (.int x3), some (.int x4), u5], [], _, _, _)) rfl ?_
        rw [if_pos q12]
        exact J86_170_ev sc n e he x2 _ _ _ _ _ _ _ _ h
      · rw [if_neg q12] at h
        refine pe_blk mm_86 1 (s' := (if 0 ≤ x2 then 170 else 56, [some (.ref 83), some (.int x1), some (.int x2), some (.int x3), some (.int x4), u5], [], _, _, _)) rfl ?_
        rw [if_neg q12]
        refine pe_blk mm_86 1 (s' := (57, [some (.ref 83), some (.int x1), some (.int x2), some (.int x3), some (.int x4), u5], [.ref 83], _, _, _)) rfl ?_
        refine pe_get mm_86 rfl rfl rfl (by decide) rfl ?_
        refine pe_blk mm_86 1 (s' := (62, [some (.ref 83), some (.int x1), some (.int x2), some (.int x3), some (.int x4), u5], [.int x4, .ref 105], _, _, _)) rfl ?_
        by_cases q13 : x4 < 0 ∨ 320 ≤ (x4 : Int32).toNatClampNeg
        · rw [if_pos q13] at h
          cases h
        · rw [if_neg q13] at h
          refine pe_iald (f := M.1 105) mm_86 rfl rfl (by decide) q13 ?_
          obtain ⟨e1, rfl⟩ : ∃ e1, e = e1 + 1 := ⟨e - 1, by omega⟩
          cases hc16 : F22 n (M.1 105 (x4 : Int32).toNatClampNeg) M with
          | none => rw [hc16] at h; cases h
          | some w =>
            obtain ⟨v14, M15⟩ := w
            rw [hc16] at h
            dsimp only at h
            refine pe_stat (al := [.int (M.1 105 (x4 : Int32).toNatClampNeg)]) (L0 := [some (.int (M.1 105 (x4 : Int32).toNatClampNeg))]) (r1 := (some (.int v14), 129, 17845, hp M15)) mm_86 rfl rfl rfl mm_22 rfl (Nat.le_of_ble_eq_true rfl) (Nat.le_of_ble_eq_true rfl) rfl rfl (F22_ev sc n (M.1 105 (x4 : Int32).toNatClampNeg) _ e1 (by omega) _ _ hc16) ?_
            show pm_ev _ _ _ _ _ (66, [some (.ref 83), some (.int x1), some (.int x2), some (.int x3), some (.int x4), u5], [.int v14], _, _, _) _
            by_cases q17 : v14 = 0
            · rw [if_pos q17] at h
              refine pe_blk mm_86 1 (s' := (if v14 = 0 then 75 else 69, [some (.ref 83), some (.int x1), some (.int x2), some (.int x3), some (.int x4), u5], [], _, _, _)) rfl ?_
              rw [if_pos q17]
              exact J86_75_ev sc n (e1 + 1) he (L86_47 n k) hr47 x1 x2 x3 x4 _ _ _ _ h
            · rw [if_neg q17] at h
              refine pe_blk mm_86 1 (s' := (if v14 = 0 then 75 else 69, [some (.ref 83), some (.int x1), some (.int x2), some (.int x3), some (.int x4), u5], [], _, _, _)) rfl ?_
              rw [if_neg q17]
              exact J86_69_ev sc n (e1 + 1) he (L86_47 n k) hr47 x1 x2 x3 x4 _ _ _ _ h
def J86_28 (n : Nat) (x1 : Int32) (M : Mem) : Option (Int32 × Mem) :=
  match F85 n x1 M with | some (v7, M8) => (if v7 = 0 then (L86_47 n n x1 (-1) 0 (x1 - 1) M8) else (some (x1, M8))) | none => none
set_option maxRecDepth 100000 in
set_option maxHeartbeats 4000000 in
theorem J86_28_ev (sc : Option (Nat × (Nat → Int32))) (n : Nat)  (e : Nat) (he : 3 ≤ e) : ∀ (x1 : Int32) (u2 : Option Value) (u3 : Option Value) (u4 : Option Value) (u5 : Option Value) (M : Mem) (r : Int32) (M' : Mem), J86_28 n x1 M = some (r, M') → pm_ev pmT sc e 86 false (28, [some (.ref 83), some (.int x1), u2, u3, u4, u5], [], 129, 17845, hp M) (some (.int r), 129, 17845, hp M') := by
  intro x1 u2 u3 u4 u5 M r M' h
  unfold J86_28 at h
  refine pe_blk mm_86 2 (s' := (30, [some (.ref 83), some (.int x1), u2, u3, u4, u5], [.int x1, .ref 83], _, _, _)) rfl ?_
  obtain ⟨e1, rfl⟩ : ∃ e1, e = e1 + 1 := ⟨e - 1, by omega⟩
  cases hc9 : F85 n x1 M with
  | none => rw [hc9] at h; cases h
  | some w =>
    obtain ⟨v7, M8⟩ := w
    rw [hc9] at h
    dsimp only at h
    refine pe_virt (al := [.int x1]) (a := 83) (L0 := [some (.ref 83), some (.int x1)]) (r1 := (some (.int v7), 129, 17845, hp M8)) mm_86 rfl rfl rfl mm_85 rfl (by decide) (by decide) rfl (Nat.le_of_ble_eq_true rfl) (Nat.le_of_ble_eq_true rfl) rfl rfl (F85_ev sc n x1 _ e1 (by omega) _ _ hc9) ?_
    show pm_ev _ _ _ _ _ (33, [some (.ref 83), some (.int x1), u2, u3, u4, u5], [.int v7], _, _, _) _
    by_cases q10 : v7 = 0
    · rw [if_pos q10] at h
      refine pe_blk mm_86 1 (s' := (if v7 = 0 then 38 else 36, [some (.ref 83), some (.int x1), u2, u3, u4, u5], [], _, _, _)) rfl ?_
      rw [if_pos q10]
      refine pe_blk mm_86 8 (s' := (47, [some (.ref 83), some (.int x1), some (.int (-1)), some (.int 0), some (.int (x1 - 1)), u5], [], _, _, _)) rfl ?_
      exact L86_47_ev sc n (e1 + 1) he n x1 (-1) 0 (x1 - 1) _ _ _ _ h
    · rw [if_neg q10] at h
      refine pe_blk mm_86 1 (s' := (if v7 = 0 then 38 else 36, [some (.ref 83), some (.int x1), u2, u3, u4, u5], [], _, _, _)) rfl ?_
      rw [if_neg q10]
      refine pe_blk mm_86 1 (s' := (37, [some (.ref 83), some (.int x1), u2, u3, u4, u5], [.int x1], _, _, _)) rfl ?_
      cases h
      exact pe_ret mm_86 rfl rfl
/-- ArmExpanderModel.means -/
def F86 (n : Nat) (a0 : Int32) (M : Mem) : Option (Int32 × Mem) :=
  match F19 n a0 0 ((M.1 83 37) - 1) M with | some (v1, M2) => (if v1 = 0 then (J86_26 n M2) else (if a0 < 0 ∨ 320 ≤ (a0 : Int32).toNatClampNeg then none else (if 1000 ≤ (M2.1 105 (a0 : Int32).toNatClampNeg) then (J86_28 n a0 M2) else (J86_26 n M2)))) | none => none
set_option maxRecDepth 100000 in
set_option maxHeartbeats 4000000 in
theorem F86_ev (sc : Option (Nat × (Nat → Int32))) (n : Nat) (a0 : Int32)  (M : Mem) (e : Nat) (he : 3 ≤ e) (r : Int32) (M' : Mem) (h : F86 n a0 M = some (r, M')) : pm_ev pmT sc e 86 false (0, [some (.ref 83), some (.int a0), none, none, none, none], [], 129, 17845, hp M) (some (.int r), 129, 17845, hp M') := by
  unfold F86 at h
  refine pe_blk mm_86 3 (s' := (3, [some (.ref 83), some (.int a0), none, none, none, none], [.ref 83, .int 0, .int a0], _, _, _)) rfl ?_
  refine pe_get mm_86 rfl rfl rfl (by decide) rfl ?_
  refine pe_blk mm_86 2 (s' := (8, [some (.ref 83), some (.int a0), none, none, none, none], [.int ((M.1 83 37) - 1), .int 0, .int a0], _, _, _)) rfl ?_
  obtain ⟨e1, rfl⟩ : ∃ e1, e = e1 + 1 := ⟨e - 1, by omega⟩
  cases hc3 : F19 n a0 0 ((M.1 83 37) - 1) M with
  | none => rw [hc3] at h; cases h
  | some w =>
    obtain ⟨v1, M2⟩ := w
    rw [hc3] at h
    dsimp only at h
    refine pe_stat (al := [.int ((M.1 83 37) - 1), .int 0, .int a0]) (L0 := [some (.int a0), some (.int 0), some (.int ((M.1 83 37) - 1))]) (r1 := (some (.int v1), 129, 17845, hp M2)) mm_86 rfl rfl rfl mm_19 rfl (Nat.le_of_ble_eq_true rfl) (Nat.le_of_ble_eq_true rfl) rfl rfl (F19_ev sc n a0 0 ((M.1 83 37) - 1) _ e1 (by omega) _ _ hc3) ?_
    show pm_ev _ _ _ _ _ (11, [some (.ref 83), some (.int a0), none, none, none, none], [.int v1], _, _, _) _
    by_cases q4 : v1 = 0
    · rw [if_pos q4] at h
      refine pe_blk mm_86 1 (s' := (if v1 = 0 then 26 else 14, [some (.ref 83), some (.int a0), none, none, none, none], [], _, _, _)) rfl ?_
      rw [if_pos q4]
      exact J86_26_ev sc n (e1 + 1) he _ _ _ _ _ _ _ _ _ h
    · rw [if_neg q4] at h
      refine pe_blk mm_86 1 (s' := (if v1 = 0 then 26 else 14, [some (.ref 83), some (.int a0), none, none, none, none], [], _, _, _)) rfl ?_
      rw [if_neg q4]
      refine pe_blk mm_86 1 (s' := (15, [some (.ref 83), some (.int a0), none, none, none, none], [.ref 83], _, _, _)) rfl ?_
      refine pe_get mm_86 rfl rfl rfl (by decide) rfl ?_
      refine pe_blk mm_86 1 (s' := (19, [some (.ref 83), some (.int a0), none, none, none, none], [.int a0, .ref 105], _, _, _)) rfl ?_
      by_cases q5 : a0 < 0 ∨ 320 ≤ (a0 : Int32).toNatClampNeg
      · rw [if_pos q5] at h
        cases h
      · rw [if_neg q5] at h
        refine pe_iald (f := M2.1 105) mm_86 rfl rfl (by decide) q5 ?_
        refine pe_blk mm_86 1 (s' := (23, [some (.ref 83), some (.int a0), none, none, none, none], [.int 1000, .int (M2.1 105 (a0 : Int32).toNatClampNeg)], _, _, _)) rfl ?_
        by_cases q6 : 1000 ≤ (M2.1 105 (a0 : Int32).toNatClampNeg)
        · rw [if_pos q6] at h
          refine pe_blk mm_86 1 (s' := (if 1000 ≤ (M2.1 105 (a0 : Int32).toNatClampNeg) then 28 else 26, [some (.ref 83), some (.int a0), none, none, none, none], [], _, _, _)) rfl ?_
          rw [if_pos q6]
          exact J86_28_ev sc n (e1 + 1) he a0 _ _ _ _ _ _ _ h
        · rw [if_neg q6] at h
          refine pe_blk mm_86 1 (s' := (if 1000 ≤ (M2.1 105 (a0 : Int32).toNatClampNeg) then 28 else 26, [some (.ref 83), some (.int a0), none, none, none, none], [], _, _, _)) rfl ?_
          rw [if_neg q6]
          exact J86_26_ev sc n (e1 + 1) he _ _ _ _ _ _ _ _ _ h
/-- ArmExpanderModel.expansions -/
def F87 (n : Nat) (M : Mem) : Option (Int32 × Mem) :=
  some (M.1 83 38, M)
set_option maxRecDepth 100000 in
set_option maxHeartbeats 4000000 in
theorem F87_ev (sc : Option (Nat × (Nat → Int32))) (n : Nat)  (M : Mem) (e : Nat) (he : 1 ≤ e) (r : Int32) (M' : Mem) (h : F87 n M = some (r, M')) : pm_ev pmT sc e 87 false (0, [some (.ref 83)], [], 129, 17845, hp M) (some (.int r), 129, 17845, hp M') := by
  unfold F87 at h
  refine pe_blk mm_87 1 (s' := (1, [some (.ref 83)], [.ref 83], _, _, _)) rfl ?_
  refine pe_get mm_87 rfl rfl rfl (by decide) rfl ?_
  cases h
  exact pe_ret mm_87 rfl rfl
def J88_22 (n : Nat) (s0 : Int32) (M : Mem) : Option (Int32 × Mem) :=
  some (s0, M)
set_option maxRecDepth 100000 in
set_option maxHeartbeats 4000000 in
theorem J88_22_ev (sc : Option (Nat × (Nat → Int32))) (n : Nat)  (e : Nat) (he : 2 ≤ e) : ∀ (s0 : Int32) (u0 : Option Value) (u1 : Option Value) (M : Mem) (r : Int32) (M' : Mem), J88_22 n s0 M = some (r, M') → pm_ev pmT sc e 88 false (22, [u0, u1], [.int s0], 129, 17845, hp M) (some (.int r), 129, 17845, hp M') := by
  intro s0 u0 u1 M r M' h
  unfold J88_22 at h
  cases h
  exact pe_ret mm_88 rfl rfl
/-- ArmExpanderModel.used -/
def F88 (n : Nat) (a0 : Int32) (M : Mem) : Option (Int32 × Mem) :=
  match F19 n a0 1 (M.1 83 38) M with | some (v1, M2) => (if v1 = 0 then (J88_22 n (-1) M2) else (if a0 < 0 ∨ 12 ≤ (a0 : Int32).toNatClampNeg then none else (J88_22 n (M2.1 107 (a0 : Int32).toNatClampNeg) M2))) | none => none
set_option maxRecDepth 100000 in
set_option maxHeartbeats 4000000 in
theorem F88_ev (sc : Option (Nat × (Nat → Int32))) (n : Nat) (a0 : Int32)  (M : Mem) (e : Nat) (he : 2 ≤ e) (r : Int32) (M' : Mem) (h : F88 n a0 M = some (r, M')) : pm_ev pmT sc e 88 false (0, [some (.ref 83), some (.int a0)], [], 129, 17845, hp M) (some (.int r), 129, 17845, hp M') := by
  unfold F88 at h
  refine pe_blk mm_88 3 (s' := (3, [some (.ref 83), some (.int a0)], [.ref 83, .int 1, .int a0], _, _, _)) rfl ?_
  refine pe_get mm_88 rfl rfl rfl (by decide) rfl ?_
  obtain ⟨e1, rfl⟩ : ∃ e1, e = e1 + 1 := ⟨e - 1, by omega⟩
  cases hc3 : F19 n a0 1 (M.1 83 38) M with
  | none => rw [hc3] at h; cases h
  | some w =>
    obtain ⟨v1, M2⟩ := w
    rw [hc3] at h
    dsimp only at h
    refine pe_stat (al := [.int (M.1 83 38), .int 1, .int a0]) (L0 := [some (.int a0), some (.int 1), some (.int (M.1 83 38))]) (r1 := (some (.int v1), 129, 17845, hp M2)) mm_88 rfl rfl rfl mm_19 rfl (Nat.le_of_ble_eq_true rfl) (Nat.le_of_ble_eq_true rfl) rfl rfl (F19_ev sc n a0 1 (M.1 83 38) _ e1 (by omega) _ _ hc3) ?_
    show pm_ev _ _ _ _ _ (9, [some (.ref 83), some (.int a0)], [.int v1], _, _, _) _
    by_cases q4 : v1 = 0
    · rw [if_pos q4] at h
      refine pe_blk mm_88 1 (s' := (if v1 = 0 then 21 else 12, [some (.ref 83), some (.int a0)], [], _, _, _)) rfl ?_
      rw [if_pos q4]
      refine pe_blk mm_88 1 (s' := (22, [some (.ref 83), some (.int a0)], [.int (-1)], _, _, _)) rfl ?_
      exact J88_22_ev sc n (e1 + 1) he (-1) _ _ _ _ _ h
    · rw [if_neg q4] at h
      refine pe_blk mm_88 1 (s' := (if v1 = 0 then 21 else 12, [some (.ref 83), some (.int a0)], [], _, _, _)) rfl ?_
      rw [if_neg q4]
      refine pe_blk mm_88 1 (s' := (13, [some (.ref 83), some (.int a0)], [.ref 83], _, _, _)) rfl ?_
      refine pe_get mm_88 rfl rfl rfl (by decide) rfl ?_
      refine pe_blk mm_88 1 (s' := (17, [some (.ref 83), some (.int a0)], [.int a0, .ref 107], _, _, _)) rfl ?_
      by_cases q5 : a0 < 0 ∨ 12 ≤ (a0 : Int32).toNatClampNeg
      · rw [if_pos q5] at h
        cases h
      · rw [if_neg q5] at h
        refine pe_iald (f := M2.1 107) mm_88 rfl rfl (by decide) q5 ?_
        refine pe_blk mm_88 1 (s' := (22, [some (.ref 83), some (.int a0)], [.int (M2.1 107 (a0 : Int32).toNatClampNeg)], _, _, _)) rfl ?_
        exact J88_22_ev sc n (e1 + 1) he (M2.1 107 (a0 : Int32).toNatClampNeg) _ _ _ _ _ h
/-- ArmExpander$Definition.clear -/
def F101 (n : Nat) (b : Nat) (M : Mem) : Option (Unit × Mem) :=
  mlet (m_i M b 6 0) (fun M1 => mlet (m_i M1 b 7 0) (fun M2 => some ((), M2)))
set_option maxRecDepth 100000 in
set_option maxHeartbeats 4000000 in
theorem F101_ev (sc : Option (Nat × (Nat → Int32))) (n : Nat) (b : Nat) (hb : isD b) (M : Mem) (e : Nat) (he : 1 ≤ e) (r : Unit) (M' : Mem) (h : F101 n b M = some (r, M')) : pm_ev pmT sc e 101 false (0, [some (.ref b)], [], 129, 17845, hp M) (none, 129, 17845, hp M') := by
  unfold F101 at h
  refine pe_blk mm_101 2 (s' := (2, [some (.ref b)], [.int 0, .ref b], _, _, _)) rfl ?_
  refine pe_puti mm_101 rfl rfl (isD_0 hb _) (by have := isD_lt hb; omega) (Nat.le_of_ble_eq_true rfl) rfl ((isD_0 hb _).trans (by simp [m_i, upd])) ?_
  show pm_ev _ _ _ _ _ (5, [some (.ref b)], [], _, _, hp (m_i M b 6 0)) _
  generalize m_i M b 6 0 = M1 at h ⊢
  rw [mlet] at h
  refine pe_blk mm_101 2 (s' := (7, [some (.ref b)], [.int 0, .ref b], _, _, _)) rfl ?_
  refine pe_puti mm_101 rfl rfl (isD_0 hb _) (by have := isD_lt hb; omega) (Nat.le_of_ble_eq_true rfl) rfl ((isD_0 hb _).trans (by simp [m_i, upd])) ?_
  show pm_ev _ _ _ _ _ (10, [some (.ref b)], [], _, _, hp (m_i M1 b 7 0)) _
  generalize m_i M1 b 7 0 = M2 at h ⊢
  rw [mlet] at h
  cases h
  exact pe_ret mm_101 rfl rfl
def J102_69 (n : Nat) (b : Nat) (M : Mem) : Option (Unit × Mem) :=
  some ((), M)
set_option maxRecDepth 100000 in
set_option maxHeartbeats 4000000 in
theorem J102_69_ev (sc : Option (Nat × (Nat → Int32))) (n : Nat) (b : Nat) (hb : isD b) (e : Nat) (he : 1 ≤ e) : ∀ (u0 : Option Value) (u1 : Option Value) (u2 : Option Value) (M : Mem) (r : Unit) (M' : Mem), J102_69 n b  M = some (r, M') → pm_ev pmT sc e 102 false (69, [u0, u1, u2], [], 129, 17845, hp M) (none, 129, 17845, hp M') := by
  intro u0 u1 u2 M r M' h
  unfold J102_69 at h
  cases h
  exact pe_ret mm_102 rfl rfl
def J102_59 (n : Nat) (b : Nat) (M : Mem) : Option (Unit × Mem) :=
  mlet (m_i M b 6 ((M.1 b 6) + 1)) (fun M12 => J102_69 n b M12)
set_option maxRecDepth 100000 in
set_option maxHeartbeats 4000000 in
theorem J102_59_ev (sc : Option (Nat × (Nat → Int32))) (n : Nat) (b : Nat) (hb : isD b) (e : Nat) (he : 1 ≤ e) : ∀ (u1 : Option Value) (u2 : Option Value) (M : Mem) (r : Unit) (M' : Mem), J102_59 n b  M = some (r, M') → pm_ev pmT sc e 102 false (59, [some (.ref b), u1, u2], [], 129, 17845, hp M) (none, 129, 17845, hp M') := by
  intro u1 u2 M r M' h
  unfold J102_59 at h
  refine pe_blk mm_102 2 (s' := (61, [some (.ref b), u1, u2], [.ref b, .ref b], _, _, _)) rfl ?_
  refine pe_get mm_102 rfl rfl (isD_0 hb _) (by have := isD_lt hb; omega) rfl ?_
  refine pe_blk mm_102 2 (s' := (66, [some (.ref b), u1, u2], [.int ((M.1 b 6) + 1), .ref b], _, _, _)) rfl ?_
  refine pe_puti mm_102 rfl rfl (isD_0 hb _) (by have := isD_lt hb; omega) (Nat.le_of_ble_eq_true rfl) rfl ((isD_0 hb _).trans (by simp [m_i, upd])) ?_
  show pm_ev _ _ _ _ _ (69, [some (.ref b), u1, u2], [], _, _, hp (m_i M b 6 ((M.1 b 6) + 1))) _
  generalize m_i M b 6 ((M.1 b 6) + 1) = M12 at h ⊢
  rw [mlet] at h
  exact J102_69_ev sc n b hb e he _ _ _ _ _ _ h
def J102_39 (n : Nat) (b : Nat) (M : Mem) : Option (Unit × Mem) :=
  if (M.1 b 6) < 0 ∨ 120 ≤ (M.1 b 6 : Int32).toNatClampNeg then none else (mlet (m_i M (b + 4) (M.1 b 6 : Int32).toNatClampNeg (-1)) (fun M9 => if (M9.1 b 6) < 0 ∨ 120 ≤ (M9.1 b 6 : Int32).toNatClampNeg then none else (mlet (m_i M9 (b + 5) (M9.1 b 6 : Int32).toNatClampNeg (-1)) (fun M11 => J102_59 n b M11))))
set_option maxRecDepth 100000 in
set_option maxHeartbeats 4000000 in
theorem J102_39_ev (sc : Option (Nat × (Nat → Int32))) (n : Nat) (b : Nat) (hb : isD b) (e : Nat) (he : 1 ≤ e) : ∀ (u1 : Option Value) (u2 : Option Value) (M : Mem) (r : Unit) (M' : Mem), J102_39 n b  M = some (r, M') → pm_ev pmT sc e 102 false (39, [some (.ref b), u1, u2], [], 129, 17845, hp M) (none, 129, 17845, hp M') := by
  intro u1 u2 M r M' h
  unfold J102_39 at h
  refine pe_blk mm_102 1 (s' := (40, [some (.ref b), u1, u2], [.ref b], _, _, _)) rfl ?_
  refine pe_get mm_102 rfl rfl (isD_0 hb _) (by have := isD_lt hb; omega) rfl ?_
  refine pe_blk mm_102 1 (s' := (44, [some (.ref b), u1, u2], [.ref b, .ref (b + 4)], _, _, _)) rfl ?_
  refine pe_get mm_102 rfl rfl (isD_0 hb _) (by have := isD_lt hb; omega) rfl ?_
  refine pe_blk mm_102 1 (s' := (48, [some (.ref b), u1, u2], [.int (-1), .int (M.1 b 6), .ref (b + 4)], _, _, _)) rfl ?_
  by_cases q8 : (M.1 b 6) < 0 ∨ 120 ≤ (M.1 b 6 : Int32).toNatClampNeg
  · rw [if_pos q8] at h
    cases h
  · rw [if_neg q8] at h
    refine pe_iasti mm_102 rfl (isD_4 hb _) (by have := isD_lt hb; omega) q8 ((isD_4 hb _).trans (by simp [m_i])) ?_
    show pm_ev _ _ _ _ _ (49, [some (.ref b), u1, u2], [], _, _, hp (m_i M (b + 4) (M.1 b 6 : Int32).toNatClampNeg (-1))) _
    generalize m_i M (b + 4) (M.1 b 6 : Int32).toNatClampNeg (-1) = M9 at h ⊢
    rw [mlet] at h
    refine pe_blk mm_102 1 (s' := (50, [some (.ref b), u1, u2], [.ref b], _, _, _)) rfl ?_
    refine pe_get mm_102 rfl rfl (isD_0 hb _) (by have := isD_lt hb; omega) rfl ?_
    refine pe_blk mm_102 1 (s' := (54, [some (.ref b), u1, u2], [.ref b, .ref (b + 5)], _, _, _)) rfl ?_
    refine pe_get mm_102 rfl rfl (isD_0 hb _) (by have := isD_lt hb; omega) rfl ?_
    refine pe_blk mm_102 1 (s' := (58, [some (.ref b), u1, u2], [.int (-1), .int (M9.1 b 6), .ref (b + 5)], _, _, _)) rfl ?_
    by_cases q10 : (M9.1 b 6) < 0 ∨ 120 ≤ (M9.1 b 6 : Int32).toNatClampNeg
    · rw [if_pos q10] at h
      cases h
    · rw [if_neg q10] at h
      refine pe_iasti mm_102 rfl (isD_5 hb _) (by have := isD_lt hb; omega) q10 ((isD_5 hb _).trans (by simp [m_i])) ?_
      show pm_ev _ _ _ _ _ (59, [some (.ref b), u1, u2], [], _, _, hp (m_i M9 (b + 5) (M9.1 b 6 : Int32).toNatClampNeg (-1))) _
      generalize m_i M9 (b + 5) (M9.1 b 6 : Int32).toNatClampNeg (-1) = M11 at h ⊢
      rw [mlet] at h
      exact J102_59_ev sc n b hb e he _ _ _ _ _ h
def J102_19 (n : Nat) (b : Nat) (x2 : Int32) (M : Mem) : Option (Unit × Mem) :=
  if (M.1 b 6) < 0 ∨ 120 ≤ (M.1 b 6 : Int32).toNatClampNeg then none else (mlet (m_i M (b + 2) (M.1 b 6 : Int32).toNatClampNeg (-1)) (fun M5 => if (M5.1 b 6) < 0 ∨ 120 ≤ (M5.1 b 6 : Int32).toNatClampNeg then none else (mlet (m_i M5 (b + 3) (M5.1 b 6 : Int32).toNatClampNeg x2) (fun M7 => J102_39 n b M7))))
set_option maxRecDepth 100000 in
set_option maxHeartbeats 4000000 in
theorem J102_19_ev (sc : Option (Nat × (Nat → Int32))) (n : Nat) (b : Nat) (hb : isD b) (e : Nat) (he : 1 ≤ e) : ∀ (x2 : Int32) (u1 : Option Value) (M : Mem) (r : Unit) (M' : Mem), J102_19 n b x2 M = some (r, M') → pm_ev pmT sc e 102 false (19, [some (.ref b), u1, some (.int x2)], [], 129, 17845, hp M) (none, 129, 17845, hp M') := by
  intro x2 u1 M r M' h
  unfold J102_19 at h
  refine pe_blk mm_102 1 (s' := (20, [some (.ref b), u1, some (.int x2)], [.ref b], _, _, _)) rfl ?_
  refine pe_get mm_102 rfl rfl (isD_0 hb _) (by have := isD_lt hb; omega) rfl ?_
  refine pe_blk mm_102 1 (s' := (24, [some (.ref b), u1, some (.int x2)], [.ref b, .ref (b + 2)], _, _, _)) rfl ?_
  refine pe_get mm_102 rfl rfl (isD_0 hb _) (by have := isD_lt hb; omega) rfl ?_
  refine pe_blk mm_102 1 (s' := (28, [some (.ref b), u1, some (.int x2)], [.int (-1), .int (M.1 b 6), .ref (b + 2)], _, _, _)) rfl ?_
  by_cases q4 : (M.1 b 6) < 0 ∨ 120 ≤ (M.1 b 6 : Int32).toNatClampNeg
  · rw [if_pos q4] at h
    cases h
  · rw [if_neg q4] at h
    refine pe_iasti mm_102 rfl (isD_2 hb _) (by have := isD_lt hb; omega) q4 ((isD_2 hb _).trans (by simp [m_i])) ?_
    show pm_ev _ _ _ _ _ (29, [some (.ref b), u1, some (.int x2)], [], _, _, hp (m_i M (b + 2) (M.1 b 6 : Int32).toNatClampNeg (-1))) _
    generalize m_i M (b + 2) (M.1 b 6 : Int32).toNatClampNeg (-1) = M5 at h ⊢
    rw [mlet] at h
    refine pe_blk mm_102 1 (s' := (30, [some (.ref b), u1, some (.int x2)], [.ref b], _, _, _)) rfl ?_
    refine pe_get mm_102 rfl rfl (isD_0 hb _) (by have := isD_lt hb; omega) rfl ?_
    refine pe_blk mm_102 1 (s' := (34, [some (.ref b), u1, some (.int x2)], [.ref b, .ref (b + 3)], _, _, _)) rfl ?_
    refine pe_get mm_102 rfl rfl (isD_0 hb _) (by have := isD_lt hb; omega) rfl ?_
    refine pe_blk mm_102 1 (s' := (38, [some (.ref b), u1, some (.int x2)], [.int x2, .int (M5.1 b 6), .ref (b + 3)], _, _, _)) rfl ?_
    by_cases q6 : (M5.1 b 6) < 0 ∨ 120 ≤ (M5.1 b 6 : Int32).toNatClampNeg
    · rw [if_pos q6] at h
      cases h
    · rw [if_neg q6] at h
      refine pe_iasti mm_102 rfl (isD_3 hb _) (by have := isD_lt hb; omega) q6 ((isD_3 hb _).trans (by simp [m_i])) ?_
      show pm_ev _ _ _ _ _ (39, [some (.ref b), u1, some (.int x2)], [], _, _, hp (m_i M5 (b + 3) (M5.1 b 6 : Int32).toNatClampNeg x2)) _
      generalize m_i M5 (b + 3) (M5.1 b 6 : Int32).toNatClampNeg x2 = M7 at h ⊢
      rw [mlet] at h
      exact J102_39_ev sc n b hb e he _ _ _ _ _ h
/-- ArmExpander$Definition.append -/
def F102 (n : Nat) (b : Nat) (a0 : Int32) (a1 : Int32) (M : Mem) : Option (Unit × Mem) :=
  if 120 ≤ (M.1 b 6) then (J102_69 n b M) else (if (M.1 b 6) < 0 ∨ 120 ≤ (M.1 b 6 : Int32).toNatClampNeg then none else (mlet (m_i M (b + 1) (M.1 b 6 : Int32).toNatClampNeg a0) (fun M3 => J102_19 n b a1 M3)))
set_option maxRecDepth 100000 in
set_option maxHeartbeats 4000000 in
theorem F102_ev (sc : Option (Nat × (Nat → Int32))) (n : Nat) (b : Nat) (a0 : Int32) (a1 : Int32) (hb : isD b) (M : Mem) (e : Nat) (he : 1 ≤ e) (r : Unit) (M' : Mem) (h : F102 n b a0 a1 M = some (r, M')) : pm_ev pmT sc e 102 false (0, [some (.ref b), some (.int a0), some (.int a1)], [], 129, 17845, hp M) (none, 129, 17845, hp M') := by
  unfold F102 at h
  refine pe_blk mm_102 1 (s' := (1, [some (.ref b), some (.int a0), some (.int a1)], [.ref b], _, _, _)) rfl ?_
  refine pe_get mm_102 rfl rfl (isD_0 hb _) (by have := isD_lt hb; omega) rfl ?_
  refine pe_blk mm_102 1 (s' := (6, [some (.ref b), some (.int a0), some (.int a1)], [.int 120, .int (M.1 b 6)], _, _, _)) rfl ?_
  by_cases q1 : 120 ≤ (M.1 b 6)
  · rw [if_pos q1] at h
    refine pe_blk mm_102 1 (s' := (if 120 ≤ (M.1 b 6) then 69 else 9, [some (.ref b), some (.int a0), some (.int a1)], [], _, _, _)) rfl ?_
    rw [if_pos q1]
    exact J102_69_ev sc n b hb e he _ _ _ _ _ _ h
  · rw [if_neg q1] at h
    refine pe_blk mm_102 1 (s' := (if 120 ≤ (M.1 b 6) then 69 else 9, [some (.ref b), some (.int a0), some (.int a1)], [], _, _, _)) rfl ?_
    rw [if_neg q1]
    refine pe_blk mm_102 1 (s' := (10, [some (.ref b), some (.int a0), some (.int a1)], [.ref b], _, _, _)) rfl ?_
    refine pe_get mm_102 rfl rfl (isD_0 hb _) (by have := isD_lt hb; omega) rfl ?_
    refine pe_blk mm_102 1 (s' := (14, [some (.ref b), some (.int a0), some (.int a1)], [.ref b, .ref (b + 1)], _, _, _)) rfl ?_
    refine pe_get mm_102 rfl rfl (isD_0 hb _) (by have := isD_lt hb; omega) rfl ?_
    refine pe_blk mm_102 1 (s' := (18, [some (.ref b), some (.int a0), some (.int a1)], [.int a0, .int (M.1 b 6), .ref (b + 1)], _, _, _)) rfl ?_
    by_cases q2 : (M.1 b 6) < 0 ∨ 120 ≤ (M.1 b 6 : Int32).toNatClampNeg
    · rw [if_pos q2] at h
      cases h
    · rw [if_neg q2] at h
      refine pe_iasti mm_102 rfl (isD_1 hb _) (by have := isD_lt hb; omega) q2 ((isD_1 hb _).trans (by simp [m_i])) ?_
      show pm_ev _ _ _ _ _ (19, [some (.ref b), some (.int a0), some (.int a1)], [], _, _, hp (m_i M (b + 1) (M.1 b 6 : Int32).toNatClampNeg a0)) _
      generalize m_i M (b + 1) (M.1 b 6 : Int32).toNatClampNeg a0 = M3 at h ⊢
      rw [mlet] at h
      exact J102_19_ev sc n b hb e he a1 _ _ _ _ h
def J103_28 (n : Nat) (b : Nat) (M : Mem) : Option (Unit × Mem) :=
  some ((), M)
set_option maxRecDepth 100000 in
set_option maxHeartbeats 4000000 in
theorem J103_28_ev (sc : Option (Nat × (Nat → Int32))) (n : Nat) (b : Nat) (hb : isD b) (e : Nat) (he : 1 ≤ e) : ∀ (u0 : Option Value) (u1 : Option Value) (M : Mem) (r : Unit) (M' : Mem), J103_28 n b  M = some (r, M') → pm_ev pmT sc e 103 false (28, [u0, u1], [], 129, 17845, hp M) (none, 129, 17845, hp M') := by
  intro u0 u1 M r M' h
  unfold J103_28 at h
  cases h
  exact pe_ret mm_103 rfl rfl
def J103_18 (n : Nat) (b : Nat) (M : Mem) : Option (Unit × Mem) :=
  mlet (m_i M b 7 ((M.1 b 7) + 1)) (fun M4 => J103_28 n b M4)
set_option maxRecDepth 100000 in
set_option maxHeartbeats 4000000 in
theorem J103_18_ev (sc : Option (Nat × (Nat → Int32))) (n : Nat) (b : Nat) (hb : isD b) (e : Nat) (he : 1 ≤ e) : ∀ (u1 : Option Value) (M : Mem) (r : Unit) (M' : Mem), J103_18 n b  M = some (r, M') → pm_ev pmT sc e 103 false (18, [some (.ref b), u1], [], 129, 17845, hp M) (none, 129, 17845, hp M') := by
  intro u1 M r M' h
  unfold J103_18 at h
  refine pe_blk mm_103 2 (s' := (20, [some (.ref b), u1], [.ref b, .ref b], _, _, _)) rfl ?_
  refine pe_get mm_103 rfl rfl (isD_0 hb _) (by have := isD_lt hb; omega) rfl ?_
  refine pe_blk mm_103 2 (s' := (25, [some (.ref b), u1], [.int ((M.1 b 7) + 1), .ref b], _, _, _)) rfl ?_
  refine pe_puti mm_103 rfl rfl (isD_0 hb _) (by have := isD_lt hb; omega) (Nat.le_of_ble_eq_true rfl) rfl ((isD_0 hb _).trans (by simp [m_i, upd])) ?_
  show pm_ev _ _ _ _ _ (28, [some (.ref b), u1], [], _, _, hp (m_i M b 7 ((M.1 b 7) + 1))) _
  generalize m_i M b 7 ((M.1 b 7) + 1) = M4 at h ⊢
  rw [mlet] at h
  exact J103_28_ev sc n b hb e he _ _ _ _ _ h
/-- ArmExpander$Definition.beginArm -/
def F103 (n : Nat) (b : Nat) (a0 : Int32) (M : Mem) : Option (Unit × Mem) :=
  if 3 ≤ (M.1 b 7) then (J103_28 n b M) else (if (M.1 b 7) < 0 ∨ 3 ≤ (M.1 b 7 : Int32).toNatClampNeg then none else (mlet (m_i M (b + 6) (M.1 b 7 : Int32).toNatClampNeg a0) (fun M3 => J103_18 n b M3)))
set_option maxRecDepth 100000 in
set_option maxHeartbeats 4000000 in
theorem F103_ev (sc : Option (Nat × (Nat → Int32))) (n : Nat) (b : Nat) (a0 : Int32) (hb : isD b) (M : Mem) (e : Nat) (he : 1 ≤ e) (r : Unit) (M' : Mem) (h : F103 n b a0 M = some (r, M')) : pm_ev pmT sc e 103 false (0, [some (.ref b), some (.int a0)], [], 129, 17845, hp M) (none, 129, 17845, hp M') := by
  unfold F103 at h
  refine pe_blk mm_103 1 (s' := (1, [some (.ref b), some (.int a0)], [.ref b], _, _, _)) rfl ?_
  refine pe_get mm_103 rfl rfl (isD_0 hb _) (by have := isD_lt hb; omega) rfl ?_
  refine pe_blk mm_103 1 (s' := (5, [some (.ref b), some (.int a0)], [.int 3, .int (M.1 b 7)], _, _, _)) rfl ?_
  by_cases q1 : 3 ≤ (M.1 b 7)
  · rw [if_pos q1] at h
    refine pe_blk mm_103 1 (s' := (if 3 ≤ (M.1 b 7) then 28 else 8, [some (.ref b), some (.int a0)], [], _, _, _)) rfl ?_
    rw [if_pos q1]
    exact J103_28_ev sc n b hb e he _ _ _ _ _ h
  · rw [if_neg q1] at h
    refine pe_blk mm_103 1 (s' := (if 3 ≤ (M.1 b 7) then 28 else 8, [some (.ref b), some (.int a0)], [], _, _, _)) rfl ?_
    rw [if_neg q1]
    refine pe_blk mm_103 1 (s' := (9, [some (.ref b), some (.int a0)], [.ref b], _, _, _)) rfl ?_
    refine pe_get mm_103 rfl rfl (isD_0 hb _) (by have := isD_lt hb; omega) rfl ?_
    refine pe_blk mm_103 1 (s' := (13, [some (.ref b), some (.int a0)], [.ref b, .ref (b + 6)], _, _, _)) rfl ?_
    refine pe_get mm_103 rfl rfl (isD_0 hb _) (by have := isD_lt hb; omega) rfl ?_
    refine pe_blk mm_103 1 (s' := (17, [some (.ref b), some (.int a0)], [.int a0, .int (M.1 b 7), .ref (b + 6)], _, _, _)) rfl ?_
    by_cases q2 : (M.1 b 7) < 0 ∨ 3 ≤ (M.1 b 7 : Int32).toNatClampNeg
    · rw [if_pos q2] at h
      cases h
    · rw [if_neg q2] at h
      refine pe_iasti mm_103 rfl (isD_6 hb _) (by have := isD_lt hb; omega) q2 ((isD_6 hb _).trans (by simp [m_i])) ?_
      show pm_ev _ _ _ _ _ (18, [some (.ref b), some (.int a0)], [], _, _, hp (m_i M (b + 6) (M.1 b 7 : Int32).toNatClampNeg a0)) _
      generalize m_i M (b + 6) (M.1 b 7 : Int32).toNatClampNeg a0 = M3 at h ⊢
      rw [mlet] at h
      exact J103_18_ev sc n b hb e he _ _ _ _ h
def J104_38 (n : Nat) (b : Nat) (M : Mem) : Option (Unit × Mem) :=
  some ((), M)
set_option maxRecDepth 100000 in
set_option maxHeartbeats 4000000 in
theorem J104_38_ev (sc : Option (Nat × (Nat → Int32))) (n : Nat) (b : Nat) (hb : isD b) (e : Nat) (he : 1 ≤ e) : ∀ (u0 : Option Value) (u1 : Option Value) (u2 : Option Value) (M : Mem) (r : Unit) (M' : Mem), J104_38 n b  M = some (r, M') → pm_ev pmT sc e 104 false (38, [u0, u1, u2], [], 129, 17845, hp M) (none, 129, 17845, hp M') := by
  intro u0 u1 u2 M r M' h
  unfold J104_38 at h
  cases h
  exact pe_ret mm_104 rfl rfl
def J104_24 (n : Nat) (b : Nat) (x1 : Int32) (x2 : Int32) (M : Mem) : Option (Unit × Mem) :=
  if x1 < 0 ∨ 120 ≤ (x1 : Int32).toNatClampNeg then none else (mlet (m_i M (b + 2) (x1 : Int32).toNatClampNeg x2) (fun M6 => if x2 < 0 ∨ 120 ≤ (x2 : Int32).toNatClampNeg then none else (mlet (m_i M6 (b + 2) (x2 : Int32).toNatClampNeg x1) (fun M8 => J104_38 n b M8))))
set_option maxRecDepth 100000 in
set_option maxHeartbeats 4000000 in
theorem J104_24_ev (sc : Option (Nat × (Nat → Int32))) (n : Nat) (b : Nat) (hb : isD b) (e : Nat) (he : 1 ≤ e) : ∀ (x1 : Int32) (x2 : Int32) (M : Mem) (r : Unit) (M' : Mem), J104_24 n b x1 x2 M = some (r, M') → pm_ev pmT sc e 104 false (24, [some (.ref b), some (.int x1), some (.int x2)], [], 129, 17845, hp M) (none, 129, 17845, hp M') := by
  intro x1 x2  M r M' h
  unfold J104_24 at h
  refine pe_blk mm_104 1 (s' := (25, [some (.ref b), some (.int x1), some (.int x2)], [.ref b], _, _, _)) rfl ?_
  refine pe_get mm_104 rfl rfl (isD_0 hb _) (by have := isD_lt hb; omega) rfl ?_
  refine pe_blk mm_104 2 (s' := (30, [some (.ref b), some (.int x1), some (.int x2)], [.int x2, .int x1, .ref (b + 2)], _, _, _)) rfl ?_
  by_cases q5 : x1 < 0 ∨ 120 ≤ (x1 : Int32).toNatClampNeg
  · rw [if_pos q5] at h
    cases h
  · rw [if_neg q5] at h
    refine pe_iasti mm_104 rfl (isD_2 hb _) (by have := isD_lt hb; omega) q5 ((isD_2 hb _).trans (by simp [m_i])) ?_
    show pm_ev _ _ _ _ _ (31, [some (.ref b), some (.int x1), some (.int x2)], [], _, _, hp (m_i M (b + 2) (x1 : Int32).toNatClampNeg x2)) _
    generalize m_i M (b + 2) (x1 : Int32).toNatClampNeg x2 = M6 at h ⊢
    rw [mlet] at h
    refine pe_blk mm_104 1 (s' := (32, [some (.ref b), some (.int x1), some (.int x2)], [.ref b], _, _, _)) rfl ?_
    refine pe_get mm_104 rfl rfl (isD_0 hb _) (by have := isD_lt hb; omega) rfl ?_
    refine pe_blk mm_104 2 (s' := (37, [some (.ref b), some (.int x1), some (.int x2)], [.int x1, .int x2, .ref (b + 2)], _, _, _)) rfl ?_
    by_cases q7 : x2 < 0 ∨ 120 ≤ (x2 : Int32).toNatClampNeg
    · rw [if_pos q7] at h
      cases h
    · rw [if_neg q7] at h
      refine pe_iasti mm_104 rfl (isD_2 hb _) (by have := isD_lt hb; omega) q7 ((isD_2 hb _).trans (by simp [m_i])) ?_
      show pm_ev _ _ _ _ _ (38, [some (.ref b), some (.int x1), some (.int x2)], [], _, _, hp (m_i M6 (b + 2) (x2 : Int32).toNatClampNeg x1)) _
      generalize m_i M6 (b + 2) (x2 : Int32).toNatClampNeg x1 = M8 at h ⊢
      rw [mlet] at h
      exact J104_38_ev sc n b hb e he _ _ _ _ _ _ h
/-- ArmExpander$Definition.join -/
def F104 (n : Nat) (b : Nat) (a0 : Int32) (a1 : Int32) (M : Mem) : Option (Unit × Mem) :=
  if a0 < 0 then (J104_38 n b M) else (if (M.1 b 6) ≤ a0 then (J104_38 n b M) else (if a1 < 0 then (J104_38 n b M) else (if (M.1 b 6) ≤ a1 then (J104_38 n b M) else (J104_24 n b a0 a1 M))))
set_option maxRecDepth 100000 in
set_option maxHeartbeats 4000000 in
theorem F104_ev (sc : Option (Nat × (Nat → Int32))) (n : Nat) (b : Nat) (a0 : Int32) (a1 : Int32) (hb : isD b) (M : Mem) (e : Nat) (he : 1 ≤ e) (r : Unit) (M' : Mem) (h : F104 n b a0 a1 M = some (r, M')) : pm_ev pmT sc e 104 false (0, [some (.ref b), some (.int a0), some (.int a1)], [], 129, 17845, hp M) (none, 129, 17845, hp M') := by
  unfold F104 at h
  refine pe_blk mm_104 1 (s' := (1, [some (.ref b), some (.int a0), some (.int a1)], [.int a0], _, _, _)) rfl ?_
  by_cases q1 : a0 < 0
  · rw [if_pos q1] at h
    refine pe_blk mm_104 1 (s' := (if a0 < 0 then 38 else 4, [some (.ref b), some (.int a0), some (.int a1)], [], _, _, _)) rfl ?_
    rw [if_pos q1]
    exact J104_38_ev sc n b hb e he _ _ _ _ _ _ h
  · rw [if_neg q1] at h
    refine pe_blk mm_104 1 (s' := (if a0 < 0 then 38 else 4, [some (.ref b), some (.int a0), some (.int a1)], [], _, _, _)) rfl ?_
    rw [if_neg q1]
    refine pe_blk mm_104 2 (s' := (6, [some (.ref b), some (.int a0), some (.int a1)], [.ref b, .int a0], _, _, _)) rfl ?_
    refine pe_get mm_104 rfl rfl (isD_0 hb _) (by have := isD_lt hb; omega) rfl ?_
    by_cases q2 : (M.1 b 6) ≤ a0
    · rw [if_pos q2] at h
      refine pe_blk mm_104 1 (s' := (if (M.1 b 6) ≤ a0 then 38 else 12, [some (.ref b), some (.int a0), some (.int a1)], [], _, _, _)) rfl ?_
      rw [if_pos q2]
      exact J104_38_ev sc n b hb e he _ _ _ _ _ _ h
    · rw [if_neg q2] at h
      refine pe_blk mm_104 1 (s' := (if (M.1 b 6) ≤ a0 then 38 else 12, [some (.ref b), some (.int a0), some (.int a1)], [], _, _, _)) rfl ?_
      rw [if_neg q2]
      refine pe_blk mm_104 1 (s' := (13, [some (.ref b), some (.int a0), some (.int a1)], [.int a1], _, _, _)) rfl ?_
      by_cases q3 : a1 < 0
      · rw [if_pos q3] at h
        refine pe_blk mm_104 1 (s' := (if a1 < 0 then 38 else 16, [some (.ref b), some (.int a0), some (.int a1)], [], _, _, _)) rfl ?_
        rw [if_pos q3]
        exact J104_38_ev sc n b hb e he _ _ _ _ _ _ h
      · rw [if_neg q3] at h
        refine pe_blk mm_104 1 (s' := (if a1 < 0 then 38 else 16, [some (.ref b), some (.int a0), some (.int a1)], [], _, _, _)) rfl ?_
        rw [if_neg q3]
        refine pe_blk mm_104 2 (s' := (18, [some (.ref b), some (.int a0), some (.int a1)], [.ref b, .int a1], _, _, _)) rfl ?_
        refine pe_get mm_104 rfl rfl (isD_0 hb _) (by have := isD_lt hb; omega) rfl ?_
        by_cases q4 : (M.1 b 6) ≤ a1
        · rw [if_pos q4] at h
          refine pe_blk mm_104 1 (s' := (if (M.1 b 6) ≤ a1 then 38 else 24, [some (.ref b), some (.int a0), some (.int a1)], [], _, _, _)) rfl ?_
          rw [if_pos q4]
          exact J104_38_ev sc n b hb e he _ _ _ _ _ _ h
        · rw [if_neg q4] at h
          refine pe_blk mm_104 1 (s' := (if (M.1 b 6) ≤ a1 then 38 else 24, [some (.ref b), some (.int a0), some (.int a1)], [], _, _, _)) rfl ?_
          rw [if_neg q4]
          exact J104_24_ev sc n b hb e he a0 a1 _ _ _ h
def J105_31 (n : Nat) (b : Nat) (M : Mem) : Option (Unit × Mem) :=
  some ((), M)
set_option maxRecDepth 100000 in
set_option maxHeartbeats 4000000 in
theorem J105_31_ev (sc : Option (Nat × (Nat → Int32))) (n : Nat) (b : Nat) (hb : isD b) (e : Nat) (he : 1 ≤ e) : ∀ (u0 : Option Value) (u1 : Option Value) (u2 : Option Value) (M : Mem) (r : Unit) (M' : Mem), J105_31 n b  M = some (r, M') → pm_ev pmT sc e 105 false (31, [u0, u1, u2], [], 129, 17845, hp M) (none, 129, 17845, hp M') := by
  intro u0 u1 u2 M r M' h
  unfold J105_31 at h
  cases h
  exact pe_ret mm_105 rfl rfl
def J105_24 (n : Nat) (b : Nat) (x1 : Int32) (x2 : Int32) (M : Mem) : Option (Unit × Mem) :=
  if x1 < 0 ∨ 120 ≤ (x1 : Int32).toNatClampNeg then none else (mlet (m_i M (b + 4) (x1 : Int32).toNatClampNeg x2) (fun M6 => J105_31 n b M6))
set_option maxRecDepth 100000 in
set_option maxHeartbeats 4000000 in
theorem J105_24_ev (sc : Option (Nat × (Nat → Int32))) (n : Nat) (b : Nat) (hb : isD b) (e : Nat) (he : 1 ≤ e) : ∀ (x1 : Int32) (x2 : Int32) (M : Mem) (r : Unit) (M' : Mem), J105_24 n b x1 x2 M = some (r, M') → pm_ev pmT sc e 105 false (24, [some (.ref b), some (.int x1), some (.int x2)], [], 129, 17845, hp M) (none, 129, 17845, hp M') := by
  intro x1 x2  M r M' h
  unfold J105_24 at h
  refine pe_blk mm_105 1 (s' := (25, [some (.ref b), some (.int x1), some (.int x2)], [.ref b], _, _, _)) rfl ?_
  refine pe_get mm_105 rfl rfl (isD_0 hb _) (by have := isD_lt hb; omega) rfl ?_
  refine pe_blk mm_105 2 (s' := (30, [some (.ref b), some (.int x1), some (.int x2)], [.int x2, .int x1, .ref (b + 4)], _, _, _)) rfl ?_
  by_cases q5 : x1 < 0 ∨ 120 ≤ (x1 : Int32).toNatClampNeg
  · rw [if_pos q5] at h
    cases h
  · rw [if_neg q5] at h
    refine pe_iasti mm_105 rfl (isD_4 hb _) (by have := isD_lt hb; omega) q5 ((isD_4 hb _).trans (by simp [m_i])) ?_
    show pm_ev _ _ _ _ _ (31, [some (.ref b), some (.int x1), some (.int x2)], [], _, _, hp (m_i M (b + 4) (x1 : Int32).toNatClampNeg x2)) _
    generalize m_i M (b + 4) (x1 : Int32).toNatClampNeg x2 = M6 at h ⊢
    rw [mlet] at h
    exact J105_31_ev sc n b hb e he _ _ _ _ _ _ h
/-- ArmExpander$Definition.setMark -/
def F105 (n : Nat) (b : Nat) (a0 : Int32) (a1 : Int32) (M : Mem) : Option (Unit × Mem) :=
  if a0 < 0 then (J105_31 n b M) else (if (M.1 b 6) ≤ a0 then (J105_31 n b M) else (if a1 < 0 then (J105_31 n b M) else (if (M.1 b 6) ≤ a1 then (J105_31 n b M) else (J105_24 n b a0 a1 M))))
set_option maxRecDepth 100000 in
set_option maxHeartbeats 4000000 in
theorem F105_ev (sc : Option (Nat × (Nat → Int32))) (n : Nat) (b : Nat) (a0 : Int32) (a1 : Int32) (hb : isD b) (M : Mem) (e : Nat) (he : 1 ≤ e) (r : Unit) (M' : Mem) (h : F105 n b a0 a1 M = some (r, M')) : pm_ev pmT sc e 105 false (0, [some (.ref b), some (.int a0), some (.int a1)], [], 129, 17845, hp M) (none, 129, 17845, hp M') := by
  unfold F105 at h
  refine pe_blk mm_105 1 (s' := (1, [some (.ref b), some (.int a0), some (.int a1)], [.int a0], _, _, _)) rfl ?_
  by_cases q1 : a0 < 0
  · rw [if_pos q1] at h
    refine pe_blk mm_105 1 (s' := (if a0 < 0 then 31 else 4, [some (.ref b), some (.int a0), some (.int a1)], [], _, _, _)) rfl ?_
    rw [if_pos q1]
    exact J105_31_ev sc n b hb e he _ _ _ _ _ _ h
  · rw [if_neg q1] at h
    refine pe_blk mm_105 1 (s' := (if a0 < 0 then 31 else 4, [some (.ref b), some (.int a0), some (.int a1)], [], _, _, _)) rfl ?_
    rw [if_neg q1]
    refine pe_blk mm_105 2 (s' := (6, [some (.ref b), some (.int a0), some (.int a1)], [.ref b, .int a0], _, _, _)) rfl ?_
    refine pe_get mm_105 rfl rfl (isD_0 hb _) (by have := isD_lt hb; omega) rfl ?_
    by_cases q2 : (M.1 b 6) ≤ a0
    · rw [if_pos q2] at h
      refine pe_blk mm_105 1 (s' := (if (M.1 b 6) ≤ a0 then 31 else 12, [some (.ref b), some (.int a0), some (.int a1)], [], _, _, _)) rfl ?_
      rw [if_pos q2]
      exact J105_31_ev sc n b hb e he _ _ _ _ _ _ h
    · rw [if_neg q2] at h
      refine pe_blk mm_105 1 (s' := (if (M.1 b 6) ≤ a0 then 31 else 12, [some (.ref b), some (.int a0), some (.int a1)], [], _, _, _)) rfl ?_
      rw [if_neg q2]
      refine pe_blk mm_105 1 (s' := (13, [some (.ref b), some (.int a0), some (.int a1)], [.int a1], _, _, _)) rfl ?_
      by_cases q3 : a1 < 0
      · rw [if_pos q3] at h
        refine pe_blk mm_105 1 (s' := (if a1 < 0 then 31 else 16, [some (.ref b), some (.int a0), some (.int a1)], [], _, _, _)) rfl ?_
        rw [if_pos q3]
        exact J105_31_ev sc n b hb e he _ _ _ _ _ _ h
      · rw [if_neg q3] at h
        refine pe_blk mm_105 1 (s' := (if a1 < 0 then 31 else 16, [some (.ref b), some (.int a0), some (.int a1)], [], _, _, _)) rfl ?_
        rw [if_neg q3]
        refine pe_blk mm_105 2 (s' := (18, [some (.ref b), some (.int a0), some (.int a1)], [.ref b, .int a1], _, _, _)) rfl ?_
        refine pe_get mm_105 rfl rfl (isD_0 hb _) (by have := isD_lt hb; omega) rfl ?_
        by_cases q4 : (M.1 b 6) ≤ a1
        · rw [if_pos q4] at h
          refine pe_blk mm_105 1 (s' := (if (M.1 b 6) ≤ a1 then 31 else 24, [some (.ref b), some (.int a0), some (.int a1)], [], _, _, _)) rfl ?_
          rw [if_pos q4]
          exact J105_31_ev sc n b hb e he _ _ _ _ _ _ h
        · rw [if_neg q4] at h
          refine pe_blk mm_105 1 (s' := (if (M.1 b 6) ≤ a1 then 31 else 24, [some (.ref b), some (.int a0), some (.int a1)], [], _, _, _)) rfl ?_
          rw [if_neg q4]
          exact J105_24_ev sc n b hb e he a0 a1 _ _ _ h
def J106_19 (n : Nat) (b : Nat) (M : Mem) : Option (Unit × Mem) :=
  some ((), M)
set_option maxRecDepth 100000 in
set_option maxHeartbeats 4000000 in
theorem J106_19_ev (sc : Option (Nat × (Nat → Int32))) (n : Nat) (b : Nat) (hb : isD b) (e : Nat) (he : 1 ≤ e) : ∀ (u0 : Option Value) (u1 : Option Value) (u2 : Option Value) (M : Mem) (r : Unit) (M' : Mem), J106_19 n b  M = some (r, M') → pm_ev pmT sc e 106 false (19, [u0, u1, u2], [], 129, 17845, hp M) (none, 129, 17845, hp M') := by
  intro u0 u1 u2 M r M' h
  unfold J106_19 at h
  cases h
  exact pe_ret mm_106 rfl rfl
/-- ArmExpander$Definition.setOrder -/
def F106 (n : Nat) (b : Nat) (a0 : Int32) (a1 : Int32) (M : Mem) : Option (Unit × Mem) :=
  if a0 < 0 then (J106_19 n b M) else (if (M.1 b 6) ≤ a0 then (J106_19 n b M) else (if a0 < 0 ∨ 120 ≤ (a0 : Int32).toNatClampNeg then none else (mlet (m_i M (b + 5) (a0 : Int32).toNatClampNeg a1) (fun M4 => J106_19 n b M4))))
set_option maxRecDepth 100000 in
set_option maxHeartbeats 4000000 in
theorem F106_ev (sc : Option (Nat × (Nat → Int32))) (n : Nat) (b : Nat) (a0 : Int32) (a1 : Int32) (hb : isD b) (M : Mem) (e : Nat) (he : 1 ≤ e) (r : Unit) (M' : Mem) (h : F106 n b a0 a1 M = some (r, M')) : pm_ev pmT sc e 106 false (0, [some (.ref b), some (.int a0), some (.int a1)], [], 129, 17845, hp M) (none, 129, 17845, hp M') := by
  unfold F106 at h
  refine pe_blk mm_106 1 (s' := (1, [some (.ref b), some (.int a0), some (.int a1)], [.int a0], _, _, _)) rfl ?_
  by_cases q1 : a0 < 0
  · rw [if_pos q1] at h
    refine pe_blk mm_106 1 (s' := (if a0 < 0 then 19 else 4, [some (.ref b), some (.int a0), some (.int a1)], [], _, _, _)) rfl ?_
    rw [if_pos q1]
    exact J106_19_ev sc n b hb e he _ _ _ _ _ _ h
  · rw [if_neg q1] at h
    refine pe_blk mm_106 1 (s' := (if a0 < 0 then 19 else 4, [some (.ref b), some (.int a0), some (.int a1)], [], _, _, _)) rfl ?_
    rw [if_neg q1]
    refine pe_blk mm_106 2 (s' := (6, [some (.ref b), some (.int a0), some (.int a1)], [.ref b, .int a0], _, _, _)) rfl ?_
    refine pe_get mm_106 rfl rfl (isD_0 hb _) (by have := isD_lt hb; omega) rfl ?_
    by_cases q2 : (M.1 b 6) ≤ a0
    · rw [if_pos q2] at h
      refine pe_blk mm_106 1 (s' := (if (M.1 b 6) ≤ a0 then 19 else 12, [some (.ref b), some (.int a0), some (.int a1)], [], _, _, _)) rfl ?_
      rw [if_pos q2]
      exact J106_19_ev sc n b hb e he _ _ _ _ _ _ h
    · rw [if_neg q2] at h
      refine pe_blk mm_106 1 (s' := (if (M.1 b 6) ≤ a0 then 19 else 12, [some (.ref b), some (.int a0), some (.int a1)], [], _, _, _)) rfl ?_
      rw [if_neg q2]
      refine pe_blk mm_106 1 (s' := (13, [some (.ref b), some (.int a0), some (.int a1)], [.ref b], _, _, _)) rfl ?_
      refine pe_get mm_106 rfl rfl (isD_0 hb _) (by have := isD_lt hb; omega) rfl ?_
      refine pe_blk mm_106 2 (s' := (18, [some (.ref b), some (.int a0), some (.int a1)], [.int a1, .int a0, .ref (b + 5)], _, _, _)) rfl ?_
      by_cases q3 : a0 < 0 ∨ 120 ≤ (a0 : Int32).toNatClampNeg
      · rw [if_pos q3] at h
        cases h
      · rw [if_neg q3] at h
        refine pe_iasti mm_106 rfl (isD_5 hb _) (by have := isD_lt hb; omega) q3 ((isD_5 hb _).trans (by simp [m_i])) ?_
        show pm_ev _ _ _ _ _ (19, [some (.ref b), some (.int a0), some (.int a1)], [], _, _, hp (m_i M (b + 5) (a0 : Int32).toNatClampNeg a1)) _
        generalize m_i M (b + 5) (a0 : Int32).toNatClampNeg a1 = M4 at h ⊢
        rw [mlet] at h
        exact J106_19_ev sc n b hb e he _ _ _ _ _ _ h
def J107_17 (n : Nat) (b : Nat) (s0 : Int32) (M : Mem) : Option (Int32 × Mem) :=
  some (s0, M)
set_option maxRecDepth 100000 in
set_option maxHeartbeats 4000000 in
theorem J107_17_ev (sc : Option (Nat × (Nat → Int32))) (n : Nat) (b : Nat) (hb : isD b) (e : Nat) (he : 1 ≤ e) : ∀ (s0 : Int32) (u0 : Option Value) (M : Mem) (r : Int32) (M' : Mem), J107_17 n b s0 M = some (r, M') → pm_ev pmT sc e 107 false (17, [u0], [.int s0], 129, 17845, hp M) (some (.int r), 129, 17845, hp M') := by
  intro s0 u0 M r M' h
  unfold J107_17 at h
  cases h
  exact pe_ret mm_107 rfl rfl
/-- ArmExpander$Definition.name -/
def F107 (n : Nat) (b : Nat) (M : Mem) : Option (Int32 × Mem) :=
  if (M.1 b 6) ≤ 0 then (J107_17 n b (-1) M) else (J107_17 n b (M.1 (b + 1) 0) M)
set_option maxRecDepth 100000 in
set_option maxHeartbeats 4000000 in
theorem F107_ev (sc : Option (Nat × (Nat → Int32))) (n : Nat) (b : Nat) (hb : isD b) (M : Mem) (e : Nat) (he : 1 ≤ e) (r : Int32) (M' : Mem) (h : F107 n b M = some (r, M')) : pm_ev pmT sc e 107 false (0, [some (.ref b)], [], 129, 17845, hp M) (some (.int r), 129, 17845, hp M') := by
  unfold F107 at h
  refine pe_blk mm_107 1 (s' := (1, [some (.ref b)], [.ref b], _, _, _)) rfl ?_
  refine pe_get mm_107 rfl rfl (isD_0 hb _) (by have := isD_lt hb; omega) rfl ?_
  by_cases q1 : (M.1 b 6) ≤ 0
  · rw [if_pos q1] at h
    refine pe_blk mm_107 1 (s' := (if (M.1 b 6) ≤ 0 then 16 else 7, [some (.ref b)], [], _, _, _)) rfl ?_
    rw [if_pos q1]
    refine pe_blk mm_107 1 (s' := (17, [some (.ref b)], [.int (-1)], _, _, _)) rfl ?_
    exact J107_17_ev sc n b hb e he (-1) _ _ _ _ h
  · rw [if_neg q1] at h
    refine pe_blk mm_107 1 (s' := (if (M.1 b 6) ≤ 0 then 16 else 7, [some (.ref b)], [], _, _, _)) rfl ?_
    rw [if_neg q1]
    refine pe_blk mm_107 1 (s' := (8, [some (.ref b)], [.ref b], _, _, _)) rfl ?_
    refine pe_get mm_107 rfl rfl (isD_0 hb _) (by have := isD_lt hb; omega) rfl ?_
    refine pe_blk mm_107 1 (s' := (12, [some (.ref b)], [.int 0, .ref (b + 1)], _, _, _)) rfl ?_
    refine pe_iald (f := M.1 (b + 1)) mm_107 rfl (isD_1 hb _) (by have := isD_lt hb; omega) (by decide) ?_
    show pm_ev _ _ _ _ _ (13, [some (.ref b)], [.int (M.1 (b + 1) 0)], _, _, hp (M)) _
    refine pe_blk mm_107 1 (s' := (17, [some (.ref b)], [.int (M.1 (b + 1) 0)], _, _, _)) rfl ?_
    exact J107_17_ev sc n b hb e he (M.1 (b + 1) 0) _ _ _ _ h
/-- ArmExpander$Definition.armCount -/
def F108 (n : Nat) (b : Nat) (M : Mem) : Option (Int32 × Mem) :=
  some (M.1 b 7, M)
set_option maxRecDepth 100000 in
set_option maxHeartbeats 4000000 in
theorem F108_ev (sc : Option (Nat × (Nat → Int32))) (n : Nat) (b : Nat) (hb : isD b) (M : Mem) (e : Nat) (he : 1 ≤ e) (r : Int32) (M' : Mem) (h : F108 n b M = some (r, M')) : pm_ev pmT sc e 108 false (0, [some (.ref b)], [], 129, 17845, hp M) (some (.int r), 129, 17845, hp M') := by
  unfold F108 at h
  refine pe_blk mm_108 1 (s' := (1, [some (.ref b)], [.ref b], _, _, _)) rfl ?_
  refine pe_get mm_108 rfl rfl (isD_0 hb _) (by have := isD_lt hb; omega) rfl ?_
  cases h
  exact pe_ret mm_108 rfl rfl
def J109_22 (n : Nat) (b : Nat) (s0 : Int32) (M : Mem) : Option (Int32 × Mem) :=
  some (s0, M)
set_option maxRecDepth 100000 in
set_option maxHeartbeats 4000000 in
theorem J109_22_ev (sc : Option (Nat × (Nat → Int32))) (n : Nat) (b : Nat) (hb : isD b) (e : Nat) (he : 1 ≤ e) : ∀ (s0 : Int32) (u0 : Option Value) (u1 : Option Value) (M : Mem) (r : Int32) (M' : Mem), J109_22 n b s0 M = some (r, M') → pm_ev pmT sc e 109 false (22, [u0, u1], [.int s0], 129, 17845, hp M) (some (.int r), 129, 17845, hp M') := by
  intro s0 u0 u1 M r M' h
  unfold J109_22 at h
  cases h
  exact pe_ret mm_109 rfl rfl
def J109_21 (n : Nat) (b : Nat) (M : Mem) : Option (Int32 × Mem) :=
  J109_22 n b (-1) M
set_option maxRecDepth 100000 in
set_option maxHeartbeats 4000000 in
theorem J109_21_ev (sc : Option (Nat × (Nat → Int32))) (n : Nat) (b : Nat) (hb : isD b) (e : Nat) (he : 1 ≤ e) : ∀ (u0 : Option Value) (u1 : Option Value) (M : Mem) (r : Int32) (M' : Mem), J109_21 n b  M = some (r, M') → pm_ev pmT sc e 109 false (21, [u0, u1], [], 129, 17845, hp M) (some (.int r), 129, 17845, hp M') := by
  intro u0 u1 M r M' h
  unfold J109_21 at h
  refine pe_blk mm_109 1 (s' := (22, [u0, u1], [.int (-1)], _, _, _)) rfl ?_
  exact J109_22_ev sc n b hb e he (-1) _ _ _ _ _ h
/-- ArmExpander$Definition.codeAt -/
def F109 (n : Nat) (b : Nat) (a0 : Int32) (M : Mem) : Option (Int32 × Mem) :=
  if a0 < 0 then (J109_21 n b M) else (if (M.1 b 6) ≤ a0 then (J109_21 n b M) else (if a0 < 0 ∨ 120 ≤ (a0 : Int32).toNatClampNeg then none else (J109_22 n b (M.1 (b + 1) (a0 : Int32).toNatClampNeg) M)))
set_option maxRecDepth 100000 in
set_option maxHeartbeats 4000000 in
theorem F109_ev (sc : Option (Nat × (Nat → Int32))) (n : Nat) (b : Nat) (a0 : Int32) (hb : isD b) (M : Mem) (e : Nat) (he : 1 ≤ e) (r : Int32) (M' : Mem) (h : F109 n b a0 M = some (r, M')) : pm_ev pmT sc e 109 false (0, [some (.ref b), some (.int a0)], [], 129, 17845, hp M) (some (.int r), 129, 17845, hp M') := by
  unfold F109 at h
  refine pe_blk mm_109 1 (s' := (1, [some (.ref b), some (.int a0)], [.int a0], _, _, _)) rfl ?_
  by_cases q1 : a0 < 0
  · rw [if_pos q1] at h
    refine pe_blk mm_109 1 (s' := (if a0 < 0 then 21 else 4, [some (.ref b), some (.int a0)], [], _, _, _)) rfl ?_
    rw [if_pos q1]
    exact J109_21_ev sc n b hb e he _ _ _ _ _ h
  · rw [if_neg q1] at h
    refine pe_blk mm_109 1 (s' := (if a0 < 0 then 21 else 4, [some (.ref b), some (.int a0)], [], _, _, _)) rfl ?_
    rw [if_neg q1]
    refine pe_blk mm_109 2 (s' := (6, [some (.ref b), some (.int a0)], [.ref b, .int a0], _, _, _)) rfl ?_
    refine pe_get mm_109 rfl rfl (isD_0 hb _) (by have := isD_lt hb; omega) rfl ?_
    by_cases q2 : (M.1 b 6) ≤ a0
    · rw [if_pos q2] at h
      refine pe_blk mm_109 1 (s' := (if (M.1 b 6) ≤ a0 then 21 else 12, [some (.ref b), some (.int a0)], [], _, _, _)) rfl ?_
      rw [if_pos q2]
      exact J109_21_ev sc n b hb e he _ _ _ _ _ h
    · rw [if_neg q2] at h
      refine pe_blk mm_109 1 (s' := (if (M.1 b 6) ≤ a0 then 21 else 12, [some (.ref b), some (.int a0)], [], _, _, _)) rfl ?_
      rw [if_neg q2]
      refine pe_blk mm_109 1 (s' := (13, [some (.ref b), some (.int a0)], [.ref b], _, _, _)) rfl ?_
      refine pe_get mm_109 rfl rfl (isD_0 hb _) (by have := isD_lt hb; omega) rfl ?_
      refine pe_blk mm_109 1 (s' := (17, [some (.ref b), some (.int a0)], [.int a0, .ref (b + 1)], _, _, _)) rfl ?_
      by_cases q3 : a0 < 0 ∨ 120 ≤ (a0 : Int32).toNatClampNeg
      · rw [if_pos q3] at h
        cases h
      · rw [if_neg q3] at h
        refine pe_iald (f := M.1 (b + 1)) mm_109 rfl (isD_1 hb _) (by have := isD_lt hb; omega) q3 ?_
        refine pe_blk mm_109 1 (s' := (22, [some (.ref b), some (.int a0)], [.int (M.1 (b + 1) (a0 : Int32).toNatClampNeg)], _, _, _)) rfl ?_
        exact J109_22_ev sc n b hb e he (M.1 (b + 1) (a0 : Int32).toNatClampNeg) _ _ _ _ _ h
def J110_22 (n : Nat) (b : Nat) (s0 : Int32) (M : Mem) : Option (Int32 × Mem) :=
  some (s0, M)
set_option maxRecDepth 100000 in
set_option maxHeartbeats 4000000 in
theorem J110_22_ev (sc : Option (Nat × (Nat → Int32))) (n : Nat) (b : Nat) (hb : isD b) (e : Nat) (he : 1 ≤ e) : ∀ (s0 : Int32) (u0 : Option Value) (u1 : Option Value) (M : Mem) (r : Int32) (M' : Mem), J110_22 n b s0 M = some (r, M') → pm_ev pmT sc e 110 false (22, [u0, u1], [.int s0], 129, 17845, hp M) (some (.int r), 129, 17845, hp M') := by
  intro s0 u0 u1 M r M' h
  unfold J110_22 at h
  cases h
  exact pe_ret mm_110 rfl rfl
def J110_21 (n : Nat) (b : Nat) (M : Mem) : Option (Int32 × Mem) :=
  J110_22 n b (-1) M
set_option maxRecDepth 100000 in
set_option maxHeartbeats 4000000 in
theorem J110_21_ev (sc : Option (Nat × (Nat → Int32))) (n : Nat) (b : Nat) (hb : isD b) (e : Nat) (he : 1 ≤ e) : ∀ (u0 : Option Value) (u1 : Option Value) (M : Mem) (r : Int32) (M' : Mem), J110_21 n b  M = some (r, M') → pm_ev pmT sc e 110 false (21, [u0, u1], [], 129, 17845, hp M) (some (.int r), 129, 17845, hp M') := by
  intro u0 u1 M r M' h
  unfold J110_21 at h
  refine pe_blk mm_110 1 (s' := (22, [u0, u1], [.int (-1)], _, _, _)) rfl ?_
  exact J110_22_ev sc n b hb e he (-1) _ _ _ _ _ h
/-- ArmExpander$Definition.partnerOf -/
def F110 (n : Nat) (b : Nat) (a0 : Int32) (M : Mem) : Option (Int32 × Mem) :=
  if a0 < 0 then (J110_21 n b M) else (if (M.1 b 6) ≤ a0 then (J110_21 n b M) else (if a0 < 0 ∨ 120 ≤ (a0 : Int32).toNatClampNeg then none else (J110_22 n b (M.1 (b + 2) (a0 : Int32).toNatClampNeg) M)))
set_option maxRecDepth 100000 in
set_option maxHeartbeats 4000000 in
theorem F110_ev (sc : Option (Nat × (Nat → Int32))) (n : Nat) (b : Nat) (a0 : Int32) (hb : isD b) (M : Mem) (e : Nat) (he : 1 ≤ e) (r : Int32) (M' : Mem) (h : F110 n b a0 M = some (r, M')) : pm_ev pmT sc e 110 false (0, [some (.ref b), some (.int a0)], [], 129, 17845, hp M) (some (.int r), 129, 17845, hp M') := by
  unfold F110 at h
  refine pe_blk mm_110 1 (s' := (1, [some (.ref b), some (.int a0)], [.int a0], _, _, _)) rfl ?_
  by_cases q1 : a0 < 0
  · rw [if_pos q1] at h
    refine pe_blk mm_110 1 (s' := (if a0 < 0 then 21 else 4, [some (.ref b), some (.int a0)], [], _, _, _)) rfl ?_
    rw [if_pos q1]
    exact J110_21_ev sc n b hb e he _ _ _ _ _ h
  · rw [if_neg q1] at h
    refine pe_blk mm_110 1 (s' := (if a0 < 0 then 21 else 4, [some (.ref b), some (.int a0)], [], _, _, _)) rfl ?_
    rw [if_neg q1]
    refine pe_blk mm_110 2 (s' := (6, [some (.ref b), some (.int a0)], [.ref b, .int a0], _, _, _)) rfl ?_
    refine pe_get mm_110 rfl rfl (isD_0 hb _) (by have := isD_lt hb; omega) rfl ?_
    by_cases q2 : (M.1 b 6) ≤ a0
    · rw [if_pos q2] at h
      refine pe_blk mm_110 1 (s' := (if (M.1 b 6) ≤ a0 then 21 else 12, [some (.ref b), some (.int a0)], [], _, _, _)) rfl ?_
      rw [if_pos q2]
      exact J110_21_ev sc n b hb e he _ _ _ _ _ h
    · rw [if_neg q2] at h
      refine pe_blk mm_110 1 (s' := (if (M.1 b 6) ≤ a0 then 21 else 12, [some (.ref b), some (.int a0)], [], _, _, _)) rfl ?_
      rw [if_neg q2]
      refine pe_blk mm_110 1 (s' := (13, [some (.ref b), some (.int a0)], [.ref b], _, _, _)) rfl ?_
      refine pe_get mm_110 rfl rfl (isD_0 hb _) (by have := isD_lt hb; omega) rfl ?_
      refine pe_blk mm_110 1 (s' := (17, [some (.ref b), some (.int a0)], [.int a0, .ref (b + 2)], _, _, _)) rfl ?_
      by_cases q3 : a0 < 0 ∨ 120 ≤ (a0 : Int32).toNatClampNeg
      · rw [if_pos q3] at h
        cases h
      · rw [if_neg q3] at h
        refine pe_iald (f := M.1 (b + 2)) mm_110 rfl (isD_2 hb _) (by have := isD_lt hb; omega) q3 ?_
        refine pe_blk mm_110 1 (s' := (22, [some (.ref b), some (.int a0)], [.int (M.1 (b + 2) (a0 : Int32).toNatClampNeg)], _, _, _)) rfl ?_
        exact J110_22_ev sc n b hb e he (M.1 (b + 2) (a0 : Int32).toNatClampNeg) _ _ _ _ _ h
