/-! The methods as functions over Mem; written by program. -/
def J111_24 (n : Nat) (b : Nat) (s0 : Int32) (M : Mem) : Option (Int32 × Mem) :=
  some (s0, M)
set_option maxRecDepth 100000 in
set_option maxHeartbeats 4000000 in
theorem J111_24_ev (sc : Option (Nat × (Nat → Int32))) (n : Nat) (b : Nat) (hb : isD b) (e : Nat) (he : 1 ≤ e) : ∀ (s0 : Int32) (u0 : Option Value) (u1 : Option Value) (M : Mem) (r : Int32) (M' : Mem), J111_24 n b s0 M = some (r, M') → pm_ev pmT sc e 111 false (24, [u0, u1], [.int s0], 129, 17845, hp M) (some (.int r), 129, 17845, hp M') := by
  intro s0 u0 u1 M r M' h
  unfold J111_24 at h
  cases h
  exact pe_ret mm_111 rfl rfl
def J111_23 (n : Nat) (b : Nat) (M : Mem) : Option (Int32 × Mem) :=
  J111_24 n b 0 M
set_option maxRecDepth 100000 in
set_option maxHeartbeats 4000000 in
theorem J111_23_ev (sc : Option (Nat × (Nat → Int32))) (n : Nat) (b : Nat) (hb : isD b) (e : Nat) (he : 1 ≤ e) : ∀ (u0 : Option Value) (u1 : Option Value) (M : Mem) (r : Int32) (M' : Mem), J111_23 n b  M = some (r, M') → pm_ev pmT sc e 111 false (23, [u0, u1], [], 129, 17845, hp M) (some (.int r), 129, 17845, hp M') := by
  intro u0 u1 M r M' h
  unfold J111_23 at h
  refine pe_blk mm_111 1 (s' := (24, [u0, u1], [.int 0], _, _, _)) rfl ?_
  exact J111_24_ev sc n b hb e he 0 _ _ _ _ _ h
/-- ArmExpander$Definition.patternStart -/
def F111 (n : Nat) (b : Nat) (a0 : Int32) (M : Mem) : Option (Int32 × Mem) :=
  if a0 < 0 then (J111_23 n b M) else (if (M.1 b 7) ≤ a0 then (J111_23 n b M) else (if a0 < 0 ∨ 3 ≤ (a0 : Int32).toNatClampNeg then none else (J111_24 n b ((M.1 (b + 6) (a0 : Int32).toNatClampNeg) + 1) M)))
set_option maxRecDepth 100000 in
set_option maxHeartbeats 4000000 in
theorem F111_ev (sc : Option (Nat × (Nat → Int32))) (n : Nat) (b : Nat) (a0 : Int32) (hb : isD b) (M : Mem) (e : Nat) (he : 1 ≤ e) (r : Int32) (M' : Mem) (h : F111 n b a0 M = some (r, M')) : pm_ev pmT sc e 111 false (0, [some (.ref b), some (.int a0)], [], 129, 17845, hp M) (some (.int r), 129, 17845, hp M') := by
  unfold F111 at h
  refine pe_blk mm_111 1 (s' := (1, [some (.ref b), some (.int a0)], [.int a0], _, _, _)) rfl ?_
  by_cases q1 : a0 < 0
  · rw [if_pos q1] at h
    refine pe_blk mm_111 1 (s' := (if a0 < 0 then 23 else 4, [some (.ref b), some (.int a0)], [], _, _, _)) rfl ?_
    rw [if_pos q1]
    exact J111_23_ev sc n b hb e he _ _ _ _ _ h
  · rw [if_neg q1] at h
    refine pe_blk mm_111 1 (s' := (if a0 < 0 then 23 else 4, [some (.ref b), some (.int a0)], [], _, _, _)) rfl ?_
    rw [if_neg q1]
    refine pe_blk mm_111 2 (s' := (6, [some (.ref b), some (.int a0)], [.ref b, .int a0], _, _, _)) rfl ?_
    refine pe_get mm_111 rfl rfl (isD_0 hb _) (by have := isD_lt hb; omega) rfl ?_
    by_cases q2 : (M.1 b 7) ≤ a0
    · rw [if_pos q2] at h
      refine pe_blk mm_111 1 (s' := (if (M.1 b 7) ≤ a0 then 23 else 12, [some (.ref b), some (.int a0)], [], _, _, _)) rfl ?_
      rw [if_pos q2]
      exact J111_23_ev sc n b hb e he _ _ _ _ _ h
    · rw [if_neg q2] at h
      refine pe_blk mm_111 1 (s' := (if (M.1 b 7) ≤ a0 then 23 else 12, [some (.ref b), some (.int a0)], [], _, _, _)) rfl ?_
      rw [if_neg q2]
      refine pe_blk mm_111 1 (s' := (13, [some (.ref b), some (.int a0)], [.ref b], _, _, _)) rfl ?_
      refine pe_get mm_111 rfl rfl (isD_0 hb _) (by have := isD_lt hb; omega) rfl ?_
      refine pe_blk mm_111 1 (s' := (17, [some (.ref b), some (.int a0)], [.int a0, .ref (b + 6)], _, _, _)) rfl ?_
      by_cases q3 : a0 < 0 ∨ 3 ≤ (a0 : Int32).toNatClampNeg
      · rw [if_pos q3] at h
        cases h
      · rw [if_neg q3] at h
        refine pe_iald (f := M.1 (b + 6)) mm_111 rfl (isD_6 hb _) (by have := isD_lt hb; omega) q3 ?_
        refine pe_blk mm_111 3 (s' := (24, [some (.ref b), some (.int a0)], [.int ((M.1 (b + 6) (a0 : Int32).toNatClampNeg) + 1)], _, _, _)) rfl ?_
        exact J111_24_ev sc n b hb e he ((M.1 (b + 6) (a0 : Int32).toNatClampNeg) + 1) _ _ _ _ _ h
def J112_27 (n : Nat) (b : Nat) (s0 : Int32) (M : Mem) : Option (Int32 × Mem) :=
  some (s0, M)
set_option maxRecDepth 100000 in
set_option maxHeartbeats 4000000 in
theorem J112_27_ev (sc : Option (Nat × (Nat → Int32))) (n : Nat) (b : Nat) (hb : isD b) (e : Nat) (he : 1 ≤ e) : ∀ (s0 : Int32) (u0 : Option Value) (u1 : Option Value) (M : Mem) (r : Int32) (M' : Mem), J112_27 n b s0 M = some (r, M') → pm_ev pmT sc e 112 false (27, [u0, u1], [.int s0], 129, 17845, hp M) (some (.int r), 129, 17845, hp M') := by
  intro s0 u0 u1 M r M' h
  unfold J112_27 at h
  cases h
  exact pe_ret mm_112 rfl rfl
def J112_26 (n : Nat) (b : Nat) (M : Mem) : Option (Int32 × Mem) :=
  J112_27 n b 0 M
set_option maxRecDepth 100000 in
set_option maxHeartbeats 4000000 in
theorem J112_26_ev (sc : Option (Nat × (Nat → Int32))) (n : Nat) (b : Nat) (hb : isD b) (e : Nat) (he : 1 ≤ e) : ∀ (u0 : Option Value) (u1 : Option Value) (M : Mem) (r : Int32) (M' : Mem), J112_26 n b  M = some (r, M') → pm_ev pmT sc e 112 false (26, [u0, u1], [], 129, 17845, hp M) (some (.int r), 129, 17845, hp M') := by
  intro u0 u1 M r M' h
  unfold J112_26 at h
  refine pe_blk mm_112 1 (s' := (27, [u0, u1], [.int 0], _, _, _)) rfl ?_
  exact J112_27_ev sc n b hb e he 0 _ _ _ _ _ h
/-- ArmExpander$Definition.patternEnd -/
def F112 (n : Nat) (b : Nat) (a0 : Int32) (M : Mem) : Option (Int32 × Mem) :=
  if a0 < 0 then (J112_26 n b M) else (if (M.1 b 7) ≤ a0 then (J112_26 n b M) else (if a0 < 0 ∨ 3 ≤ (a0 : Int32).toNatClampNeg then none else (if (M.1 (b + 6) (a0 : Int32).toNatClampNeg) < 0 ∨ 120 ≤ (M.1 (b + 6) (a0 : Int32).toNatClampNeg : Int32).toNatClampNeg then none else (J112_27 n b (M.1 (b + 2) (M.1 (b + 6) (a0 : Int32).toNatClampNeg : Int32).toNatClampNeg) M))))
set_option maxRecDepth 100000 in
set_option maxHeartbeats 4000000 in
theorem F112_ev (sc : Option (Nat × (Nat → Int32))) (n : Nat) (b : Nat) (a0 : Int32) (hb : isD b) (M : Mem) (e : Nat) (he : 1 ≤ e) (r : Int32) (M' : Mem) (h : F112 n b a0 M = some (r, M')) : pm_ev pmT sc e 112 false (0, [some (.ref b), some (.int a0)], [], 129, 17845, hp M) (some (.int r), 129, 17845, hp M') := by
  unfold F112 at h
  refine pe_blk mm_112 1 (s' := (1, [some (.ref b), some (.int a0)], [.int a0], _, _, _)) rfl ?_
  by_cases q1 : a0 < 0
  · rw [if_pos q1] at h
    refine pe_blk mm_112 1 (s' := (if a0 < 0 then 26 else 4, [some (.ref b), some (.int a0)], [], _, _, _)) rfl ?_
    rw [if_pos q1]
    exact J112_26_ev sc n b hb e he _ _ _ _ _ h
  · rw [if_neg q1] at h
    refine pe_blk mm_112 1 (s' := (if a0 < 0 then 26 else 4, [some (.ref b), some (.int a0)], [], _, _, _)) rfl ?_
    rw [if_neg q1]
    refine pe_blk mm_112 2 (s' := (6, [some (.ref b), some (.int a0)], [.ref b, .int a0], _, _, _)) rfl ?_
    refine pe_get mm_112 rfl rfl (isD_0 hb _) (by have := isD_lt hb; omega) rfl ?_
    by_cases q2 : (M.1 b 7) ≤ a0
    · rw [if_pos q2] at h
      refine pe_blk mm_112 1 (s' := (if (M.1 b 7) ≤ a0 then 26 else 12, [some (.ref b), some (.int a0)], [], _, _, _)) rfl ?_
      rw [if_pos q2]
      exact J112_26_ev sc n b hb e he _ _ _ _ _ h
    · rw [if_neg q2] at h
      refine pe_blk mm_112 1 (s' := (if (M.1 b 7) ≤ a0 then 26 else 12, [some (.ref b), some (.int a0)], [], _, _, _)) rfl ?_
      rw [if_neg q2]
      refine pe_blk mm_112 1 (s' := (13, [some (.ref b), some (.int a0)], [.ref b], _, _, _)) rfl ?_
      refine pe_get mm_112 rfl rfl (isD_0 hb _) (by have := isD_lt hb; omega) rfl ?_
      refine pe_blk mm_112 1 (s' := (17, [some (.ref b), some (.int a0)], [.ref b, .ref (b + 2)], _, _, _)) rfl ?_
      refine pe_get mm_112 rfl rfl (isD_0 hb _) (by have := isD_lt hb; omega) rfl ?_
      refine pe_blk mm_112 1 (s' := (21, [some (.ref b), some (.int a0)], [.int a0, .ref (b + 6), .ref (b + 2)], _, _, _)) rfl ?_
      by_cases q3 : a0 < 0 ∨ 3 ≤ (a0 : Int32).toNatClampNeg
      · rw [if_pos q3] at h
        cases h
      · rw [if_neg q3] at h
        refine pe_iald (f := M.1 (b + 6)) mm_112 rfl (isD_6 hb _) (by have := isD_lt hb; omega) q3 ?_
        by_cases q4 : (M.1 (b + 6) (a0 : Int32).toNatClampNeg) < 0 ∨ 120 ≤ (M.1 (b + 6) (a0 : Int32).toNatClampNeg : Int32).toNatClampNeg
        · rw [if_pos q4] at h
          cases h
        · rw [if_neg q4] at h
          refine pe_iald (f := M.1 (b + 2)) mm_112 rfl (isD_2 hb _) (by have := isD_lt hb; omega) q4 ?_
          refine pe_blk mm_112 1 (s' := (27, [some (.ref b), some (.int a0)], [.int (M.1 (b + 2) (M.1 (b + 6) (a0 : Int32).toNatClampNeg : Int32).toNatClampNeg)], _, _, _)) rfl ?_
          exact J112_27_ev sc n b hb e he (M.1 (b + 2) (M.1 (b + 6) (a0 : Int32).toNatClampNeg : Int32).toNatClampNeg) _ _ _ _ _ h
/-- ArmExpander$Definition.bodyStart -/
def F113 (n : Nat) (b : Nat) (a0 : Int32) (M : Mem) : Option (Int32 × Mem) :=
  match F112 n b a0 M with | some (v1, M2) => (some (v1 + 2, M2)) | none => none
set_option maxRecDepth 100000 in
set_option maxHeartbeats 4000000 in
theorem F113_ev (sc : Option (Nat × (Nat → Int32))) (n : Nat) (b : Nat) (a0 : Int32) (hb : isD b) (M : Mem) (e : Nat) (he : 2 ≤ e) (r : Int32) (M' : Mem) (h : F113 n b a0 M = some (r, M')) : pm_ev pmT sc e 113 false (0, [some (.ref b), some (.int a0)], [], 129, 17845, hp M) (some (.int r), 129, 17845, hp M') := by
  unfold F113 at h
  refine pe_blk mm_113 2 (s' := (2, [some (.ref b), some (.int a0)], [.int a0, .ref b], _, _, _)) rfl ?_
  obtain ⟨e1, rfl⟩ : ∃ e1, e = e1 + 1 := ⟨e - 1, by omega⟩
  cases hc3 : F112 n b a0 M with
  | none => rw [hc3] at h; cases h
  | some w =>
    obtain ⟨v1, M2⟩ := w
    rw [hc3] at h
    dsimp only at h
    refine pe_virt (al := [.int a0]) (a := b) (L0 := [some (.ref b), some (.int a0)]) (r1 := (some (.int v1), 129, 17845, hp M2)) mm_113 rfl rfl rfl mm_112 (isD_0 hb _) (by have := isD_lt hb; omega) (by decide) rfl (Nat.le_of_ble_eq_true rfl) (Nat.le_of_ble_eq_true rfl) rfl rfl (F112_ev sc n b a0 hb _ e1 (by omega) _ _ hc3) ?_
    show pm_ev _ _ _ _ _ (5, [some (.ref b), some (.int a0)], [.int v1], _, _, _) _
    refine pe_blk mm_113 2 (s' := (7, [some (.ref b), some (.int a0)], [.int (v1 + 2)], _, _, _)) rfl ?_
    cases h
    exact pe_ret mm_113 rfl rfl
/-- ArmExpander$Definition.bodyEnd -/
def F114 (n : Nat) (b : Nat) (a0 : Int32) (M : Mem) : Option (Int32 × Mem) :=
  match F112 n b a0 M with | some (v1, M2) => (match F110 n b (v1 + 1) M2 with | some (v4, M5) => (some (v4, M5)) | none => none) | none => none
set_option maxRecDepth 100000 in
set_option maxHeartbeats 4000000 in
theorem F114_ev (sc : Option (Nat × (Nat → Int32))) (n : Nat) (b : Nat) (a0 : Int32) (hb : isD b) (M : Mem) (e : Nat) (he : 2 ≤ e) (r : Int32) (M' : Mem) (h : F114 n b a0 M = some (r, M')) : pm_ev pmT sc e 114 false (0, [some (.ref b), some (.int a0)], [], 129, 17845, hp M) (some (.int r), 129, 17845, hp M') := by
  unfold F114 at h
  refine pe_blk mm_114 3 (s' := (3, [some (.ref b), some (.int a0)], [.int a0, .ref b, .ref b], _, _, _)) rfl ?_
  obtain ⟨e1, rfl⟩ : ∃ e1, e = e1 + 1 := ⟨e - 1, by omega⟩
  cases hc3 : F112 n b a0 M with
  | none => rw [hc3] at h; cases h
  | some w =>
    obtain ⟨v1, M2⟩ := w
    rw [hc3] at h
    dsimp only at h
    refine pe_virt (al := [.int a0]) (a := b) (L0 := [some (.ref b), some (.int a0)]) (r1 := (some (.int v1), 129, 17845, hp M2)) mm_114 rfl rfl rfl mm_112 (isD_0 hb _) (by have := isD_lt hb; omega) (by decide) rfl (Nat.le_of_ble_eq_true rfl) (Nat.le_of_ble_eq_true rfl) rfl rfl (F112_ev sc n b a0 hb _ e1 (by omega) _ _ hc3) ?_
    show pm_ev _ _ _ _ _ (6, [some (.ref b), some (.int a0)], [.int v1, .ref b], _, _, _) _
    refine pe_blk mm_114 2 (s' := (8, [some (.ref b), some (.int a0)], [.int (v1 + 1), .ref b], _, _, _)) rfl ?_
    skip
    cases hc6 : F110 n b (v1 + 1) M2 with
    | none => rw [hc6] at h; cases h
    | some w =>
      obtain ⟨v4, M5⟩ := w
      rw [hc6] at h
      dsimp only at h
      refine pe_virt (al := [.int (v1 + 1)]) (a := b) (L0 := [some (.ref b), some (.int (v1 + 1))]) (r1 := (some (.int v4), 129, 17845, hp M5)) mm_114 rfl rfl rfl mm_110 (isD_0 hb _) (by have := isD_lt hb; omega) (by decide) rfl (Nat.le_of_ble_eq_true rfl) (Nat.le_of_ble_eq_true rfl) rfl rfl (F110_ev sc n b (v1 + 1) hb _ e1 (by omega) _ _ hc6) ?_
      show pm_ev _ _ _ _ _ (11, [some (.ref b), some (.int a0)], [.int v4], _, _, _) _
      cases h
      exact pe_ret mm_114 rfl rfl
def J115_43 (n : Nat) (b : Nat) (s0 : Int32) (M : Mem) : Option (Int32 × Mem) :=
  if s0 = 0 ∨ s0 = 1 then some (s0, M) else none
set_option maxRecDepth 100000 in
set_option maxHeartbeats 4000000 in
theorem J115_43_ev (sc : Option (Nat × (Nat → Int32))) (n : Nat) (b : Nat) (hb : isD b) (e : Nat) (he : 1 ≤ e) : ∀ (s0 : Int32) (u0 : Option Value) (u1 : Option Value) (M : Mem) (r : Int32) (M' : Mem), J115_43 n b s0 M = some (r, M') → pm_ev pmT sc e 115 false (43, [u0, u1], [.int s0], 129, 17845, hp M) (some (.int r), 129, 17845, hp M') := by
  intro s0 u0 u1 M r M' h
  unfold J115_43 at h
  by_cases q2 : s0 = 0 ∨ s0 = 1
  · rw [if_pos q2] at h
    cases h
    exact pe_ret mm_115 rfl (if_pos q2)
  · rw [if_neg q2] at h
    cases h
def J115_42 (n : Nat) (b : Nat) (M : Mem) : Option (Int32 × Mem) :=
  J115_43 n b 0 M
set_option maxRecDepth 100000 in
set_option maxHeartbeats 4000000 in
theorem J115_42_ev (sc : Option (Nat × (Nat → Int32))) (n : Nat) (b : Nat) (hb : isD b) (e : Nat) (he : 1 ≤ e) : ∀ (u0 : Option Value) (u1 : Option Value) (M : Mem) (r : Int32) (M' : Mem), J115_42 n b  M = some (r, M') → pm_ev pmT sc e 115 false (42, [u0, u1], [], 129, 17845, hp M) (some (.int r), 129, 17845, hp M') := by
  intro u0 u1 M r M' h
  unfold J115_42 at h
  refine pe_blk mm_115 1 (s' := (43, [u0, u1], [.int 0], _, _, _)) rfl ?_
  exact J115_43_ev sc n b hb e he 0 _ _ _ _ _ h
def J115_25 (n : Nat) (b : Nat) (x1 : Int32) (M : Mem) : Option (Int32 × Mem) :=
  if (x1 + 1) < 0 ∨ 120 ≤ (x1 + 1 : Int32).toNatClampNeg then none else (if (M.1 (b + 1) (x1 + 1 : Int32).toNatClampNeg) = 40 then (J115_42 n b M) else (J115_43 n b 1 M))
set_option maxRecDepth 100000 in
set_option maxHeartbeats 4000000 in
theorem J115_25_ev (sc : Option (Nat × (Nat → Int32))) (n : Nat) (b : Nat) (hb : isD b) (e : Nat) (he : 1 ≤ e) : ∀ (x1 : Int32) (M : Mem) (r : Int32) (M' : Mem), J115_25 n b x1 M = some (r, M') → pm_ev pmT sc e 115 false (25, [some (.ref b), some (.int x1)], [], 129, 17845, hp M) (some (.int r), 129, 17845, hp M') := by
  intro x1  M r M' h
  unfold J115_25 at h
  refine pe_blk mm_115 1 (s' := (26, [some (.ref b), some (.int x1)], [.ref b], _, _, _)) rfl ?_
  refine pe_get mm_115 rfl rfl (isD_0 hb _) (by have := isD_lt hb; omega) rfl ?_
  refine pe_blk mm_115 3 (s' := (32, [some (.ref b), some (.int x1)], [.int (x1 + 1), .ref (b + 1)], _, _, _)) rfl ?_
  by_cases q6 : (x1 + 1) < 0 ∨ 120 ≤ (x1 + 1 : Int32).toNatClampNeg
  · rw [if_pos q6] at h
    cases h
  · rw [if_neg q6] at h
    refine pe_iald (f := M.1 (b + 1)) mm_115 rfl (isD_1 hb _) (by have := isD_lt hb; omega) q6 ?_
    refine pe_blk mm_115 1 (s' := (35, [some (.ref b), some (.int x1)], [.int 40, .int (M.1 (b + 1) (x1 + 1 : Int32).toNatClampNeg)], _, _, _)) rfl ?_
    by_cases q7 : (M.1 (b + 1) (x1 + 1 : Int32).toNatClampNeg) = 40
    · rw [if_pos q7] at h
      refine pe_blk mm_115 1 (s' := (if (M.1 (b + 1) (x1 + 1 : Int32).toNatClampNeg) = 40 then 42 else 38, [some (.ref b), some (.int x1)], [], _, _, _)) rfl ?_
      rw [if_pos q7]
      exact J115_42_ev sc n b hb e he _ _ _ _ _ h
    · rw [if_neg q7] at h
      refine pe_blk mm_115 1 (s' := (if (M.1 (b + 1) (x1 + 1 : Int32).toNatClampNeg) = 40 then 42 else 38, [some (.ref b), some (.int x1)], [], _, _, _)) rfl ?_
      rw [if_neg q7]
      refine pe_blk mm_115 2 (s' := (43, [some (.ref b), some (.int x1)], [.int 1], _, _, _)) rfl ?_
      exact J115_43_ev sc n b hb e he 1 _ _ _ _ _ h
/-- ArmExpander$Definition.startsVariable -/
def F115 (n : Nat) (b : Nat) (a0 : Int32) (M : Mem) : Option (Int32 × Mem) :=
  if a0 < 0 then (J115_42 n b M) else (if (M.1 b 6) ≤ (a0 + 1) then (J115_42 n b M) else (if a0 < 0 ∨ 120 ≤ (a0 : Int32).toNatClampNeg then none else (if (M.1 (b + 1) (a0 : Int32).toNatClampNeg) = 36 then (J115_25 n b a0 M) else (J115_42 n b M))))
set_option maxRecDepth 100000 in
set_option maxHeartbeats 4000000 in
theorem F115_ev (sc : Option (Nat × (Nat → Int32))) (n : Nat) (b : Nat) (a0 : Int32) (hb : isD b) (M : Mem) (e : Nat) (he : 1 ≤ e) (r : Int32) (M' : Mem) (h : F115 n b a0 M = some (r, M')) : pm_ev pmT sc e 115 false (0, [some (.ref b), some (.int a0)], [], 129, 17845, hp M) (some (.int r), 129, 17845, hp M') := by
  unfold F115 at h
  refine pe_blk mm_115 1 (s' := (1, [some (.ref b), some (.int a0)], [.int a0], _, _, _)) rfl ?_
  by_cases q1 : a0 < 0
  · rw [if_pos q1] at h
    refine pe_blk mm_115 1 (s' := (if a0 < 0 then 42 else 4, [some (.ref b), some (.int a0)], [], _, _, _)) rfl ?_
    rw [if_pos q1]
    exact J115_42_ev sc n b hb e he _ _ _ _ _ h
  · rw [if_neg q1] at h
    refine pe_blk mm_115 1 (s' := (if a0 < 0 then 42 else 4, [some (.ref b), some (.int a0)], [], _, _, _)) rfl ?_
    rw [if_neg q1]
    refine pe_blk mm_115 4 (s' := (8, [some (.ref b), some (.int a0)], [.ref b, .int (a0 + 1)], _, _, _)) rfl ?_
    refine pe_get mm_115 rfl rfl (isD_0 hb _) (by have := isD_lt hb; omega) rfl ?_
    by_cases q3 : (M.1 b 6) ≤ (a0 + 1)
    · rw [if_pos q3] at h
      refine pe_blk mm_115 1 (s' := (if (M.1 b 6) ≤ (a0 + 1) then 42 else 14, [some (.ref b), some (.int a0)], [], _, _, _)) rfl ?_
      rw [if_pos q3]
      exact J115_42_ev sc n b hb e he _ _ _ _ _ h
    · rw [if_neg q3] at h
      refine pe_blk mm_115 1 (s' := (if (M.1 b 6) ≤ (a0 + 1) then 42 else 14, [some (.ref b), some (.int a0)], [], _, _, _)) rfl ?_
      rw [if_neg q3]
      refine pe_blk mm_115 1 (s' := (15, [some (.ref b), some (.int a0)], [.ref b], _, _, _)) rfl ?_
      refine pe_get mm_115 rfl rfl (isD_0 hb _) (by have := isD_lt hb; omega) rfl ?_
      refine pe_blk mm_115 1 (s' := (19, [some (.ref b), some (.int a0)], [.int a0, .ref (b + 1)], _, _, _)) rfl ?_
      by_cases q4 : a0 < 0 ∨ 120 ≤ (a0 : Int32).toNatClampNeg
      · rw [if_pos q4] at h
        cases h
      · rw [if_neg q4] at h
        refine pe_iald (f := M.1 (b + 1)) mm_115 rfl (isD_1 hb _) (by have := isD_lt hb; omega) q4 ?_
        refine pe_blk mm_115 1 (s' := (22, [some (.ref b), some (.int a0)], [.int 36, .int (M.1 (b + 1) (a0 : Int32).toNatClampNeg)], _, _, _)) rfl ?_
        by_cases q5 : (M.1 (b + 1) (a0 : Int32).toNatClampNeg) = 36
        · rw [if_pos q5] at h
          refine pe_blk mm_115 1 (s' := (if (M.1 (b + 1) (a0 : Int32).toNatClampNeg) = 36 then 25 else 42, [some (.ref b), some (.int a0)], [], _, _, _)) rfl ?_
          rw [if_pos q5]
          exact J115_25_ev sc n b hb e he a0 _ _ _ h
        · rw [if_neg q5] at h
          refine pe_blk mm_115 1 (s' := (if (M.1 (b + 1) (a0 : Int32).toNatClampNeg) = 36 then 25 else 42, [some (.ref b), some (.int a0)], [], _, _, _)) rfl ?_
          rw [if_neg q5]
          exact J115_42_ev sc n b hb e he _ _ _ _ _ h
def J116_43 (n : Nat) (b : Nat) (s0 : Int32) (M : Mem) : Option (Int32 × Mem) :=
  if s0 = 0 ∨ s0 = 1 then some (s0, M) else none
set_option maxRecDepth 100000 in
set_option maxHeartbeats 4000000 in
theorem J116_43_ev (sc : Option (Nat × (Nat → Int32))) (n : Nat) (b : Nat) (hb : isD b) (e : Nat) (he : 1 ≤ e) : ∀ (s0 : Int32) (u0 : Option Value) (u1 : Option Value) (M : Mem) (r : Int32) (M' : Mem), J116_43 n b s0 M = some (r, M') → pm_ev pmT sc e 116 false (43, [u0, u1], [.int s0], 129, 17845, hp M) (some (.int r), 129, 17845, hp M') := by
  intro s0 u0 u1 M r M' h
  unfold J116_43 at h
  by_cases q2 : s0 = 0 ∨ s0 = 1
  · rw [if_pos q2] at h
    cases h
    exact pe_ret mm_116 rfl (if_pos q2)
  · rw [if_neg q2] at h
    cases h
def J116_42 (n : Nat) (b : Nat) (M : Mem) : Option (Int32 × Mem) :=
  J116_43 n b 0 M
set_option maxRecDepth 100000 in
set_option maxHeartbeats 4000000 in
theorem J116_42_ev (sc : Option (Nat × (Nat → Int32))) (n : Nat) (b : Nat) (hb : isD b) (e : Nat) (he : 1 ≤ e) : ∀ (u0 : Option Value) (u1 : Option Value) (M : Mem) (r : Int32) (M' : Mem), J116_42 n b  M = some (r, M') → pm_ev pmT sc e 116 false (42, [u0, u1], [], 129, 17845, hp M) (some (.int r), 129, 17845, hp M') := by
  intro u0 u1 M r M' h
  unfold J116_42 at h
  refine pe_blk mm_116 1 (s' := (43, [u0, u1], [.int 0], _, _, _)) rfl ?_
  exact J116_43_ev sc n b hb e he 0 _ _ _ _ _ h
def J116_25 (n : Nat) (b : Nat) (x1 : Int32) (M : Mem) : Option (Int32 × Mem) :=
  if (x1 + 1) < 0 ∨ 120 ≤ (x1 + 1 : Int32).toNatClampNeg then none else (if (M.1 (b + 1) (x1 + 1 : Int32).toNatClampNeg) = 40 then (J116_43 n b 1 M) else (J116_42 n b M))
set_option maxRecDepth 100000 in
set_option maxHeartbeats 4000000 in
theorem J116_25_ev (sc : Option (Nat × (Nat → Int32))) (n : Nat) (b : Nat) (hb : isD b) (e : Nat) (he : 1 ≤ e) : ∀ (x1 : Int32) (M : Mem) (r : Int32) (M' : Mem), J116_25 n b x1 M = some (r, M') → pm_ev pmT sc e 116 false (25, [some (.ref b), some (.int x1)], [], 129, 17845, hp M) (some (.int r), 129, 17845, hp M') := by
  intro x1  M r M' h
  unfold J116_25 at h
  refine pe_blk mm_116 1 (s' := (26, [some (.ref b), some (.int x1)], [.ref b], _, _, _)) rfl ?_
  refine pe_get mm_116 rfl rfl (isD_0 hb _) (by have := isD_lt hb; omega) rfl ?_
  refine pe_blk mm_116 3 (s' := (32, [some (.ref b), some (.int x1)], [.int (x1 + 1), .ref (b + 1)], _, _, _)) rfl ?_
  by_cases q6 : (x1 + 1) < 0 ∨ 120 ≤ (x1 + 1 : Int32).toNatClampNeg
  · rw [if_pos q6] at h
    cases h
  · rw [if_neg q6] at h
    refine pe_iald (f := M.1 (b + 1)) mm_116 rfl (isD_1 hb _) (by have := isD_lt hb; omega) q6 ?_
    refine pe_blk mm_116 1 (s' := (35, [some (.ref b), some (.int x1)], [.int 40, .int (M.1 (b + 1) (x1 + 1 : Int32).toNatClampNeg)], _, _, _)) rfl ?_
    by_cases q7 : (M.1 (b + 1) (x1 + 1 : Int32).toNatClampNeg) = 40
    · rw [if_pos q7] at h
      refine pe_blk mm_116 1 (s' := (if (M.1 (b + 1) (x1 + 1 : Int32).toNatClampNeg) = 40 then 38 else 42, [some (.ref b), some (.int x1)], [], _, _, _)) rfl ?_
      rw [if_pos q7]
      refine pe_blk mm_116 2 (s' := (43, [some (.ref b), some (.int x1)], [.int 1], _, _, _)) rfl ?_
      exact J116_43_ev sc n b hb e he 1 _ _ _ _ _ h
    · rw [if_neg q7] at h
      refine pe_blk mm_116 1 (s' := (if (M.1 (b + 1) (x1 + 1 : Int32).toNatClampNeg) = 40 then 38 else 42, [some (.ref b), some (.int x1)], [], _, _, _)) rfl ?_
      rw [if_neg q7]
      exact J116_42_ev sc n b hb e he _ _ _ _ _ h
/-- ArmExpander$Definition.startsRepetition -/
def F116 (n : Nat) (b : Nat) (a0 : Int32) (M : Mem) : Option (Int32 × Mem) :=
  if a0 < 0 then (J116_42 n b M) else (if (M.1 b 6) ≤ (a0 + 1) then (J116_42 n b M) else (if a0 < 0 ∨ 120 ≤ (a0 : Int32).toNatClampNeg then none else (if (M.1 (b + 1) (a0 : Int32).toNatClampNeg) = 36 then (J116_25 n b a0 M) else (J116_42 n b M))))
set_option maxRecDepth 100000 in
set_option maxHeartbeats 4000000 in
theorem F116_ev (sc : Option (Nat × (Nat → Int32))) (n : Nat) (b : Nat) (a0 : Int32) (hb : isD b) (M : Mem) (e : Nat) (he : 1 ≤ e) (r : Int32) (M' : Mem) (h : F116 n b a0 M = some (r, M')) : pm_ev pmT sc e 116 false (0, [some (.ref b), some (.int a0)], [], 129, 17845, hp M) (some (.int r), 129, 17845, hp M') := by
  unfold F116 at h
  refine pe_blk mm_116 1 (s' := (1, [some (.ref b), some (.int a0)], [.int a0], _, _, _)) rfl ?_
  by_cases q1 : a0 < 0
  · rw [if_pos q1] at h
    refine pe_blk mm_116 1 (s' := (if a0 < 0 then 42 else 4, [some (.ref b), some (.int a0)], [], _, _, _)) rfl ?_
    rw [if_pos q1]
    exact J116_42_ev sc n b hb e he _ _ _ _ _ h
  · rw [if_neg q1] at h
    refine pe_blk mm_116 1 (s' := (if a0 < 0 then 42 else 4, [some (.ref b), some (.int a0)], [], _, _, _)) rfl ?_
    rw [if_neg q1]
    refine pe_blk mm_116 4 (s' := (8, [some (.ref b), some (.int a0)], [.ref b, .int (a0 + 1)], _, _, _)) rfl ?_
    refine pe_get mm_116 rfl rfl (isD_0 hb _) (by have := isD_lt hb; omega) rfl ?_
    by_cases q3 : (M.1 b 6) ≤ (a0 + 1)
    · rw [if_pos q3] at h
      refine pe_blk mm_116 1 (s' := (if (M.1 b 6) ≤ (a0 + 1) then 42 else 14, [some (.ref b), some (.int a0)], [], _, _, _)) rfl ?_
      rw [if_pos q3]
      exact J116_42_ev sc n b hb e he _ _ _ _ _ h
    · rw [if_neg q3] at h
      refine pe_blk mm_116 1 (s' := (if (M.1 b 6) ≤ (a0 + 1) then 42 else 14, [some (.ref b), some (.int a0)], [], _, _, _)) rfl ?_
      rw [if_neg q3]
      refine pe_blk mm_116 1 (s' := (15, [some (.ref b), some (.int a0)], [.ref b], _, _, _)) rfl ?_
      refine pe_get mm_116 rfl rfl (isD_0 hb _) (by have := isD_lt hb; omega) rfl ?_
      refine pe_blk mm_116 1 (s' := (19, [some (.ref b), some (.int a0)], [.int a0, .ref (b + 1)], _, _, _)) rfl ?_
      by_cases q4 : a0 < 0 ∨ 120 ≤ (a0 : Int32).toNatClampNeg
      · rw [if_pos q4] at h
        cases h
      · rw [if_neg q4] at h
        refine pe_iald (f := M.1 (b + 1)) mm_116 rfl (isD_1 hb _) (by have := isD_lt hb; omega) q4 ?_
        refine pe_blk mm_116 1 (s' := (22, [some (.ref b), some (.int a0)], [.int 36, .int (M.1 (b + 1) (a0 : Int32).toNatClampNeg)], _, _, _)) rfl ?_
        by_cases q5 : (M.1 (b + 1) (a0 : Int32).toNatClampNeg) = 36
        · rw [if_pos q5] at h
          refine pe_blk mm_116 1 (s' := (if (M.1 (b + 1) (a0 : Int32).toNatClampNeg) = 36 then 25 else 42, [some (.ref b), some (.int a0)], [], _, _, _)) rfl ?_
          rw [if_pos q5]
          exact J116_25_ev sc n b hb e he a0 _ _ _ h
        · rw [if_neg q5] at h
          refine pe_blk mm_116 1 (s' := (if (M.1 (b + 1) (a0 : Int32).toNatClampNeg) = 36 then 25 else 42, [some (.ref b), some (.int a0)], [], _, _, _)) rfl ?_
          rw [if_neg q5]
          exact J116_42_ev sc n b hb e he _ _ _ _ _ h
def J117_23 (n : Nat) (b : Nat) (M : Mem) : Option (Int32 × Mem) :=
  some ((-1), M)
set_option maxRecDepth 100000 in
set_option maxHeartbeats 4000000 in
theorem J117_23_ev (sc : Option (Nat × (Nat → Int32))) (n : Nat) (b : Nat) (hb : isD b) (e : Nat) (he : 1 ≤ e) : ∀ (u0 : Option Value) (u1 : Option Value) (u2 : Option Value) (M : Mem) (r : Int32) (M' : Mem), J117_23 n b  M = some (r, M') → pm_ev pmT sc e 117 false (23, [u0, u1, u2], [], 129, 17845, hp M) (some (.int r), 129, 17845, hp M') := by
  intro u0 u1 u2 M r M' h
  unfold J117_23 at h
  refine pe_blk mm_117 1 (s' := (24, [u0, u1, u2], [.int (-1)], _, _, _)) rfl ?_
  cases h
  exact pe_ret mm_117 rfl rfl
def J117_54 (n : Nat) (b : Nat) (s0 : Int32) (M : Mem) : Option (Int32 × Mem) :=
  some (s0, M)
set_option maxRecDepth 100000 in
set_option maxHeartbeats 4000000 in
theorem J117_54_ev (sc : Option (Nat × (Nat → Int32))) (n : Nat) (b : Nat) (hb : isD b) (e : Nat) (he : 1 ≤ e) : ∀ (s0 : Int32) (u0 : Option Value) (u1 : Option Value) (u2 : Option Value) (M : Mem) (r : Int32) (M' : Mem), J117_54 n b s0 M = some (r, M') → pm_ev pmT sc e 117 false (54, [u0, u1, u2], [.int s0], 129, 17845, hp M) (some (.int r), 129, 17845, hp M') := by
  intro s0 u0 u1 u2 M r M' h
  unfold J117_54 at h
  cases h
  exact pe_ret mm_117 rfl rfl
def J117_53 (n : Nat) (b : Nat) (M : Mem) : Option (Int32 × Mem) :=
  J117_54 n b (-1) M
set_option maxRecDepth 100000 in
set_option maxHeartbeats 4000000 in
theorem J117_53_ev (sc : Option (Nat × (Nat → Int32))) (n : Nat) (b : Nat) (hb : isD b) (e : Nat) (he : 1 ≤ e) : ∀ (u0 : Option Value) (u1 : Option Value) (u2 : Option Value) (M : Mem) (r : Int32) (M' : Mem), J117_53 n b  M = some (r, M') → pm_ev pmT sc e 117 false (53, [u0, u1, u2], [], 129, 17845, hp M) (some (.int r), 129, 17845, hp M') := by
  intro u0 u1 u2 M r M' h
  unfold J117_53 at h
  refine pe_blk mm_117 1 (s' := (54, [u0, u1, u2], [.int (-1)], _, _, _)) rfl ?_
  exact J117_54_ev sc n b hb e he (-1) _ _ _ _ _ _ h
def J117_49 (n : Nat) (b : Nat) (x2 : Int32) (M : Mem) : Option (Int32 × Mem) :=
  J117_54 n b x2 M
set_option maxRecDepth 100000 in
set_option maxHeartbeats 4000000 in
theorem J117_49_ev (sc : Option (Nat × (Nat → Int32))) (n : Nat) (b : Nat) (hb : isD b) (e : Nat) (he : 1 ≤ e) : ∀ (x2 : Int32) (u0 : Option Value) (u1 : Option Value) (M : Mem) (r : Int32) (M' : Mem), J117_49 n b x2 M = some (r, M') → pm_ev pmT sc e 117 false (49, [u0, u1, some (.int x2)], [], 129, 17845, hp M) (some (.int r), 129, 17845, hp M') := by
  intro x2 u0 u1 M r M' h
  unfold J117_49 at h
  refine pe_blk mm_117 2 (s' := (54, [u0, u1, some (.int x2)], [.int x2], _, _, _)) rfl ?_
  exact J117_54_ev sc n b hb e he x2 _ _ _ _ _ _ h
def J117_25 (n : Nat) (b : Nat) (x1 : Int32) (M : Mem) : Option (Int32 × Mem) :=
  if x1 < 0 ∨ 120 ≤ (x1 : Int32).toNatClampNeg then none else (if ((M.1 (b + 2) (x1 : Int32).toNatClampNeg) - 1) < 0 then (J117_53 n b M) else (if ((M.1 (b + 2) (x1 : Int32).toNatClampNeg) - 1) < 0 ∨ 120 ≤ ((M.1 (b + 2) (x1 : Int32).toNatClampNeg) - 1 : Int32).toNatClampNeg then none else (if (M.1 (b + 1) ((M.1 (b + 2) (x1 : Int32).toNatClampNeg) - 1 : Int32).toNatClampNeg) = 36 then (J117_49 n b ((M.1 (b + 2) (x1 : Int32).toNatClampNeg) - 1) M) else (J117_53 n b M))))
set_option maxRecDepth 100000 in
set_option maxHeartbeats 4000000 in
theorem J117_25_ev (sc : Option (Nat × (Nat → Int32))) (n : Nat) (b : Nat) (hb : isD b) (e : Nat) (he : 1 ≤ e) : ∀ (x1 : Int32) (u2 : Option Value) (M : Mem) (r : Int32) (M' : Mem), J117_25 n b x1 M = some (r, M') → pm_ev pmT sc e 117 false (25, [some (.ref b), some (.int x1), u2], [], 129, 17845, hp M) (some (.int r), 129, 17845, hp M') := by
  intro x1 u2 M r M' h
  unfold J117_25 at h
  refine pe_blk mm_117 1 (s' := (26, [some (.ref b), some (.int x1), u2], [.ref b], _, _, _)) rfl ?_
  refine pe_get mm_117 rfl rfl (isD_0 hb _) (by have := isD_lt hb; omega) rfl ?_
  refine pe_blk mm_117 1 (s' := (30, [some (.ref b), some (.int x1), u2], [.int x1, .ref (b + 2)], _, _, _)) rfl ?_
  by_cases q5 : x1 < 0 ∨ 120 ≤ (x1 : Int32).toNatClampNeg
  · rw [if_pos q5] at h
    cases h
  · rw [if_neg q5] at h
    refine pe_iald (f := M.1 (b + 2)) mm_117 rfl (isD_2 hb _) (by have := isD_lt hb; omega) q5 ?_
    refine pe_blk mm_117 4 (s' := (35, [some (.ref b), some (.int x1), some (.int ((M.1 (b + 2) (x1 : Int32).toNatClampNeg) - 1))], [.int ((M.1 (b + 2) (x1 : Int32).toNatClampNeg) - 1)], _, _, _)) rfl ?_
    by_cases q6 : ((M.1 (b + 2) (x1 : Int32).toNatClampNeg) - 1) < 0
    · rw [if_pos q6] at h
      refine pe_blk mm_117 1 (s' := (if ((M.1 (b + 2) (x1 : Int32).toNatClampNeg) - 1) < 0 then 53 else 38, [some (.ref b), some (.int x1), some (.int ((M.1 (b + 2) (x1 : Int32).toNatClampNeg) - 1))], [], _, _, _)) rfl ?_
      rw [if_pos q6]
      exact J117_53_ev sc n b hb e he _ _ _ _ _ _ h
    · rw [if_neg q6] at h
      refine pe_blk mm_117 1 (s' := (if ((M.1 (b + 2) (x1 : Int32).toNatClampNeg) - 1) < 0 then 53 else 38, [some (.ref b), some (.int x1), some (.int ((M.1 (b + 2) (x1 : Int32).toNatClampNeg) - 1))], [], _, _, _)) rfl ?_
      rw [if_neg q6]
      refine pe_blk mm_117 1 (s' := (39, [some (.ref b), some (.int x1), some (.int ((M.1 (b + 2) (x1 : Int32).toNatClampNeg) - 1))], [.ref b], _, _, _)) rfl ?_
      refine pe_get mm_117 rfl rfl (isD_0 hb _) (by have := isD_lt hb; omega) rfl ?_
      refine pe_blk mm_117 1 (s' := (43, [some (.ref b), some (.int x1), some (.int ((M.1 (b + 2) (x1 : Int32).toNatClampNeg) - 1))], [.int ((M.1 (b + 2) (x1 : Int32).toNatClampNeg) - 1), .ref (b + 1)], _, _, _)) rfl ?_
      by_cases q7 : ((M.1 (b + 2) (x1 : Int32).toNatClampNeg) - 1) < 0 ∨ 120 ≤ ((M.1 (b + 2) (x1 : Int32).toNatClampNeg) - 1 : Int32).toNatClampNeg
      · rw [if_pos q7] at h
        cases h
      · rw [if_neg q7] at h
        refine pe_iald (f := M.1 (b + 1)) mm_117 rfl (isD_1 hb _) (by have := isD_lt hb; omega) q7 ?_
        refine pe_blk mm_117 1 (s' := (46, [some (.ref b), some (.int x1), some (.int ((M.1 (b + 2) (x1 : Int32).toNatClampNeg) - 1))], [.int 36, .int (M.1 (b + 1) ((M.1 (b + 2) (x1 : Int32).toNatClampNeg) - 1 : Int32).toNatClampNeg)], _, _, _)) rfl ?_
        by_cases q8 : (M.1 (b + 1) ((M.1 (b + 2) (x1 : Int32).toNatClampNeg) - 1 : Int32).toNatClampNeg) = 36
        · rw [if_pos q8] at h
          refine pe_blk mm_117 1 (s' := (if (M.1 (b + 1) ((M.1 (b + 2) (x1 : Int32).toNatClampNeg) - 1 : Int32).toNatClampNeg) = 36 then 49 else 53, [some (.ref b), some (.int x1), some (.int ((M.1 (b + 2) (x1 : Int32).toNatClampNeg) - 1))], [], _, _, _)) rfl ?_
          rw [if_pos q8]
          exact J117_49_ev sc n b hb e he ((M.1 (b + 2) (x1 : Int32).toNatClampNeg) - 1) _ _ _ _ _ h
        · rw [if_neg q8] at h
          refine pe_blk mm_117 1 (s' := (if (M.1 (b + 1) ((M.1 (b + 2) (x1 : Int32).toNatClampNeg) - 1 : Int32).toNatClampNeg) = 36 then 49 else 53, [some (.ref b), some (.int x1), some (.int ((M.1 (b + 2) (x1 : Int32).toNatClampNeg) - 1))], [], _, _, _)) rfl ?_
          rw [if_neg q8]
          exact J117_53_ev sc n b hb e he _ _ _ _ _ _ h
/-- ArmExpander$Definition.repetitionEndedAt -/
def F117 (n : Nat) (b : Nat) (a0 : Int32) (M : Mem) : Option (Int32 × Mem) :=
  if a0 < 0 then (J117_23 n b M) else (if (M.1 b 6) ≤ a0 then (J117_23 n b M) else (if a0 < 0 ∨ 120 ≤ (a0 : Int32).toNatClampNeg then none else (if (M.1 (b + 1) (a0 : Int32).toNatClampNeg) = 41 then (J117_25 n b a0 M) else (J117_23 n b M))))
set_option maxRecDepth 100000 in
set_option maxHeartbeats 4000000 in
theorem F117_ev (sc : Option (Nat × (Nat → Int32))) (n : Nat) (b : Nat) (a0 : Int32) (hb : isD b) (M : Mem) (e : Nat) (he : 1 ≤ e) (r : Int32) (M' : Mem) (h : F117 n b a0 M = some (r, M')) : pm_ev pmT sc e 117 false (0, [some (.ref b), some (.int a0), none], [], 129, 17845, hp M) (some (.int r), 129, 17845, hp M') := by
  unfold F117 at h
  refine pe_blk mm_117 1 (s' := (1, [some (.ref b), some (.int a0), none], [.int a0], _, _, _)) rfl ?_
  by_cases q1 : a0 < 0
  · rw [if_pos q1] at h
    refine pe_blk mm_117 1 (s' := (if a0 < 0 then 23 else 4, [some (.ref b), some (.int a0), none], [], _, _, _)) rfl ?_
    rw [if_pos q1]
    exact J117_23_ev sc n b hb e he _ _ _ _ _ _ h
  · rw [if_neg q1] at h
    refine pe_blk mm_117 1 (s' := (if a0 < 0 then 23 else 4, [some (.ref b), some (.int a0), none], [], _, _, _)) rfl ?_
    rw [if_neg q1]
    refine pe_blk mm_117 2 (s' := (6, [some (.ref b), some (.int a0), none], [.ref b, .int a0], _, _, _)) rfl ?_
    refine pe_get mm_117 rfl rfl (isD_0 hb _) (by have := isD_lt hb; omega) rfl ?_
    by_cases q2 : (M.1 b 6) ≤ a0
    · rw [if_pos q2] at h
      refine pe_blk mm_117 1 (s' := (if (M.1 b 6) ≤ a0 then 23 else 12, [some (.ref b), some (.int a0), none], [], _, _, _)) rfl ?_
      rw [if_pos q2]
      exact J117_23_ev sc n b hb e he _ _ _ _ _ _ h
    · rw [if_neg q2] at h
      refine pe_blk mm_117 1 (s' := (if (M.1 b 6) ≤ a0 then 23 else 12, [some (.ref b), some (.int a0), none], [], _, _, _)) rfl ?_
      rw [if_neg q2]
      refine pe_blk mm_117 1 (s' := (13, [some (.ref b), some (.int a0), none], [.ref b], _, _, _)) rfl ?_
      refine pe_get mm_117 rfl rfl (isD_0 hb _) (by have := isD_lt hb; omega) rfl ?_
      refine pe_blk mm_117 1 (s' := (17, [some (.ref b), some (.int a0), none], [.int a0, .ref (b + 1)], _, _, _)) rfl ?_
      by_cases q3 : a0 < 0 ∨ 120 ≤ (a0 : Int32).toNatClampNeg
      · rw [if_pos q3] at h
        cases h
      · rw [if_neg q3] at h
        refine pe_iald (f := M.1 (b + 1)) mm_117 rfl (isD_1 hb _) (by have := isD_lt hb; omega) q3 ?_
        refine pe_blk mm_117 1 (s' := (20, [some (.ref b), some (.int a0), none], [.int 41, .int (M.1 (b + 1) (a0 : Int32).toNatClampNeg)], _, _, _)) rfl ?_
        by_cases q4 : (M.1 (b + 1) (a0 : Int32).toNatClampNeg) = 41
        · rw [if_pos q4] at h
          refine pe_blk mm_117 1 (s' := (if (M.1 (b + 1) (a0 : Int32).toNatClampNeg) = 41 then 25 else 23, [some (.ref b), some (.int a0), none], [], _, _, _)) rfl ?_
          rw [if_pos q4]
          exact J117_25_ev sc n b hb e he a0 _ _ _ _ h
        · rw [if_neg q4] at h
          refine pe_blk mm_117 1 (s' := (if (M.1 (b + 1) (a0 : Int32).toNatClampNeg) = 41 then 25 else 23, [some (.ref b), some (.int a0), none], [], _, _, _)) rfl ?_
          rw [if_neg q4]
          exact J117_23_ev sc n b hb e he _ _ _ _ _ _ h
def J118_21 (n : Nat) (b : Nat) (M : Mem) : Option (Int32 × Mem) :=
  some ((-1), M)
set_option maxRecDepth 100000 in
set_option maxHeartbeats 4000000 in
theorem J118_21_ev (sc : Option (Nat × (Nat → Int32))) (n : Nat) (b : Nat) (hb : isD b) (e : Nat) (he : 1 ≤ e) : ∀ (u0 : Option Value) (u1 : Option Value) (M : Mem) (r : Int32) (M' : Mem), J118_21 n b  M = some (r, M') → pm_ev pmT sc e 118 false (21, [u0, u1], [], 129, 17845, hp M) (some (.int r), 129, 17845, hp M') := by
  intro u0 u1 M r M' h
  unfold J118_21 at h
  refine pe_blk mm_118 1 (s' := (22, [u0, u1], [.int (-1)], _, _, _)) rfl ?_
  cases h
  exact pe_ret mm_118 rfl rfl
def J118_23 (n : Nat) (b : Nat) (x1 : Int32) (M : Mem) : Option (Int32 × Mem) :=
  if x1 < 0 ∨ 120 ≤ (x1 : Int32).toNatClampNeg then none else (if (M.1 (b + 4) (x1 : Int32).toNatClampNeg) < 0 ∨ 120 ≤ (M.1 (b + 4) (x1 : Int32).toNatClampNeg : Int32).toNatClampNeg then none else (some (M.1 (b + 1) (M.1 (b + 4) (x1 : Int32).toNatClampNeg : Int32).toNatClampNeg, M)))
set_option maxRecDepth 100000 in
set_option maxHeartbeats 4000000 in
theorem J118_23_ev (sc : Option (Nat × (Nat → Int32))) (n : Nat) (b : Nat) (hb : isD b) (e : Nat) (he : 1 ≤ e) : ∀ (x1 : Int32) (M : Mem) (r : Int32) (M' : Mem), J118_23 n b x1 M = some (r, M') → pm_ev pmT sc e 118 false (23, [some (.ref b), some (.int x1)], [], 129, 17845, hp M) (some (.int r), 129, 17845, hp M') := by
  intro x1  M r M' h
  unfold J118_23 at h
  refine pe_blk mm_118 1 (s' := (24, [some (.ref b), some (.int x1)], [.ref b], _, _, _)) rfl ?_
  refine pe_get mm_118 rfl rfl (isD_0 hb _) (by have := isD_lt hb; omega) rfl ?_
  refine pe_blk mm_118 1 (s' := (28, [some (.ref b), some (.int x1)], [.ref b, .ref (b + 1)], _, _, _)) rfl ?_
  refine pe_get mm_118 rfl rfl (isD_0 hb _) (by have := isD_lt hb; omega) rfl ?_
  refine pe_blk mm_118 1 (s' := (32, [some (.ref b), some (.int x1)], [.int x1, .ref (b + 4), .ref (b + 1)], _, _, _)) rfl ?_
  by_cases q5 : x1 < 0 ∨ 120 ≤ (x1 : Int32).toNatClampNeg
  · rw [if_pos q5] at h
    cases h
  · rw [if_neg q5] at h
    refine pe_iald (f := M.1 (b + 4)) mm_118 rfl (isD_4 hb _) (by have := isD_lt hb; omega) q5 ?_
    by_cases q6 : (M.1 (b + 4) (x1 : Int32).toNatClampNeg) < 0 ∨ 120 ≤ (M.1 (b + 4) (x1 : Int32).toNatClampNeg : Int32).toNatClampNeg
    · rw [if_pos q6] at h
      cases h
    · rw [if_neg q6] at h
      refine pe_iald (f := M.1 (b + 1)) mm_118 rfl (isD_1 hb _) (by have := isD_lt hb; omega) q6 ?_
      cases h
      exact pe_ret mm_118 rfl rfl
/-- ArmExpander$Definition.markOf -/
def F118 (n : Nat) (b : Nat) (a0 : Int32) (M : Mem) : Option (Int32 × Mem) :=
  if a0 < 0 then (J118_21 n b M) else (if (M.1 b 6) ≤ a0 then (J118_21 n b M) else (if a0 < 0 ∨ 120 ≤ (a0 : Int32).toNatClampNeg then none else (if 0 ≤ (M.1 (b + 4) (a0 : Int32).toNatClampNeg) then (J118_23 n b a0 M) else (J118_21 n b M))))
set_option maxRecDepth 100000 in
set_option maxHeartbeats 4000000 in
theorem F118_ev (sc : Option (Nat × (Nat → Int32))) (n : Nat) (b : Nat) (a0 : Int32) (hb : isD b) (M : Mem) (e : Nat) (he : 1 ≤ e) (r : Int32) (M' : Mem) (h : F118 n b a0 M = some (r, M')) : pm_ev pmT sc e 118 false (0, [some (.ref b), some (.int a0)], [], 129, 17845, hp M) (some (.int r), 129, 17845, hp M') := by
  unfold F118 at h
  refine pe_blk mm_118 1 (s' := (1, [some (.ref b), some (.int a0)], [.int a0], _, _, _)) rfl ?_
  by_cases q1 : a0 < 0
  · rw [if_pos q1] at h
    refine pe_blk mm_118 1 (s' := (if a0 < 0 then 21 else 4, [some (.ref b), some (.int a0)], [], _, _, _)) rfl ?_
    rw [if_pos q1]
    exact J118_21_ev sc n b hb e he _ _ _ _ _ h
  · rw [if_neg q1] at h
    refine pe_blk mm_118 1 (s' := (if a0 < 0 then 21 else 4, [some (.ref b), some (.int a0)], [], _, _, _)) rfl ?_
    rw [if_neg q1]
    refine pe_blk mm_118 2 (s' := (6, [some (.ref b), some (.int a0)], [.ref b, .int a0], _, _, _)) rfl ?_
    refine pe_get mm_118 rfl rfl (isD_0 hb _) (by have := isD_lt hb; omega) rfl ?_
    by_cases q2 : (M.1 b 6) ≤ a0
    · rw [if_pos q2] at h
      refine pe_blk mm_118 1 (s' := (if (M.1 b 6) ≤ a0 then 21 else 12, [some (.ref b), some (.int a0)], [], _, _, _)) rfl ?_
      rw [if_pos q2]
      exact J118_21_ev sc n b hb e he _ _ _ _ _ h
    · rw [if_neg q2] at h
      refine pe_blk mm_118 1 (s' := (if (M.1 b 6) ≤ a0 then 21 else 12, [some (.ref b), some (.int a0)], [], _, _, _)) rfl ?_
      rw [if_neg q2]
      refine pe_blk mm_118 1 (s' := (13, [some (.ref b), some (.int a0)], [.ref b], _, _, _)) rfl ?_
      refine pe_get mm_118 rfl rfl (isD_0 hb _) (by have := isD_lt hb; omega) rfl ?_
      refine pe_blk mm_118 1 (s' := (17, [some (.ref b), some (.int a0)], [.int a0, .ref (b + 4)], _, _, _)) rfl ?_
      by_cases q3 : a0 < 0 ∨ 120 ≤ (a0 : Int32).toNatClampNeg
      · rw [if_pos q3] at h
        cases h
      · rw [if_neg q3] at h
        refine pe_iald (f := M.1 (b + 4)) mm_118 rfl (isD_4 hb _) (by have := isD_lt hb; omega) q3 ?_
        by_cases q4 : 0 ≤ (M.1 (b + 4) (a0 : Int32).toNatClampNeg)
        · rw [if_pos q4] at h
          refine pe_blk mm_118 1 (s' := (if 0 ≤ (M.1 (b + 4) (a0 : Int32).toNatClampNeg) then 23 else 21, [some (.ref b), some (.int a0)], [], _, _, _)) rfl ?_
          rw [if_pos q4]
          exact J118_23_ev sc n b hb e he a0 _ _ _ h
        · rw [if_neg q4] at h
          refine pe_blk mm_118 1 (s' := (if 0 ≤ (M.1 (b + 4) (a0 : Int32).toNatClampNeg) then 23 else 21, [some (.ref b), some (.int a0)], [], _, _, _)) rfl ?_
          rw [if_neg q4]
          exact J118_21_ev sc n b hb e he _ _ _ _ _ h
def J119_21 (n : Nat) (b : Nat) (M : Mem) : Option (Int32 × Mem) :=
  some (M.1 b 6, M)
set_option maxRecDepth 100000 in
set_option maxHeartbeats 4000000 in
theorem J119_21_ev (sc : Option (Nat × (Nat → Int32))) (n : Nat) (b : Nat) (hb : isD b) (e : Nat) (he : 1 ≤ e) : ∀ (u1 : Option Value) (M : Mem) (r : Int32) (M' : Mem), J119_21 n b  M = some (r, M') → pm_ev pmT sc e 119 false (21, [some (.ref b), u1], [], 129, 17845, hp M) (some (.int r), 129, 17845, hp M') := by
  intro u1 M r M' h
  unfold J119_21 at h
  refine pe_blk mm_119 1 (s' := (22, [some (.ref b), u1], [.ref b], _, _, _)) rfl ?_
  refine pe_get mm_119 rfl rfl (isD_0 hb _) (by have := isD_lt hb; omega) rfl ?_
  cases h
  exact pe_ret mm_119 rfl rfl
def J119_26 (n : Nat) (b : Nat) (x1 : Int32) (M : Mem) : Option (Int32 × Mem) :=
  if x1 < 0 ∨ 120 ≤ (x1 : Int32).toNatClampNeg then none else (some ((M.1 (b + 4) (x1 : Int32).toNatClampNeg) + 1, M))
set_option maxRecDepth 100000 in
set_option maxHeartbeats 4000000 in
theorem J119_26_ev (sc : Option (Nat × (Nat → Int32))) (n : Nat) (b : Nat) (hb : isD b) (e : Nat) (he : 1 ≤ e) : ∀ (x1 : Int32) (M : Mem) (r : Int32) (M' : Mem), J119_26 n b x1 M = some (r, M') → pm_ev pmT sc e 119 false (26, [some (.ref b), some (.int x1)], [], 129, 17845, hp M) (some (.int r), 129, 17845, hp M') := by
  intro x1  M r M' h
  unfold J119_26 at h
  refine pe_blk mm_119 1 (s' := (27, [some (.ref b), some (.int x1)], [.ref b], _, _, _)) rfl ?_
  refine pe_get mm_119 rfl rfl (isD_0 hb _) (by have := isD_lt hb; omega) rfl ?_
  refine pe_blk mm_119 1 (s' := (31, [some (.ref b), some (.int x1)], [.int x1, .ref (b + 4)], _, _, _)) rfl ?_
  by_cases q5 : x1 < 0 ∨ 120 ≤ (x1 : Int32).toNatClampNeg
  · rw [if_pos q5] at h
    cases h
  · rw [if_neg q5] at h
    refine pe_iald (f := M.1 (b + 4)) mm_119 rfl (isD_4 hb _) (by have := isD_lt hb; omega) q5 ?_
    refine pe_blk mm_119 2 (s' := (34, [some (.ref b), some (.int x1)], [.int ((M.1 (b + 4) (x1 : Int32).toNatClampNeg) + 1)], _, _, _)) rfl ?_
    cases h
    exact pe_ret mm_119 rfl rfl
/-- ArmExpander$Definition.behind -/
def F119 (n : Nat) (b : Nat) (a0 : Int32) (M : Mem) : Option (Int32 × Mem) :=
  if a0 < 0 then (J119_21 n b M) else (if (M.1 b 6) ≤ a0 then (J119_21 n b M) else (if a0 < 0 ∨ 120 ≤ (a0 : Int32).toNatClampNeg then none else (if 0 ≤ (M.1 (b + 4) (a0 : Int32).toNatClampNeg) then (J119_26 n b a0 M) else (J119_21 n b M))))
set_option maxRecDepth 100000 in
set_option maxHeartbeats 4000000 in
theorem F119_ev (sc : Option (Nat × (Nat → Int32))) (n : Nat) (b : Nat) (a0 : Int32) (hb : isD b) (M : Mem) (e : Nat) (he : 1 ≤ e) (r : Int32) (M' : Mem) (h : F119 n b a0 M = some (r, M')) : pm_ev pmT sc e 119 false (0, [some (.ref b), some (.int a0)], [], 129, 17845, hp M) (some (.int r), 129, 17845, hp M') := by
  unfold F119 at h
  refine pe_blk mm_119 1 (s' := (1, [some (.ref b), some (.int a0)], [.int a0], _, _, _)) rfl ?_
  by_cases q1 : a0 < 0
  · rw [if_pos q1] at h
    refine pe_blk mm_119 1 (s' := (if a0 < 0 then 21 else 4, [some (.ref b), some (.int a0)], [], _, _, _)) rfl ?_
    rw [if_pos q1]
    exact J119_21_ev sc n b hb e he _ _ _ _ h
  · rw [if_neg q1] at h
    refine pe_blk mm_119 1 (s' := (if a0 < 0 then 21 else 4, [some (.ref b), some (.int a0)], [], _, _, _)) rfl ?_
    rw [if_neg q1]
    refine pe_blk mm_119 2 (s' := (6, [some (.ref b), some (.int a0)], [.ref b, .int a0], _, _, _)) rfl ?_
    refine pe_get mm_119 rfl rfl (isD_0 hb _) (by have := isD_lt hb; omega) rfl ?_
    by_cases q2 : (M.1 b 6) ≤ a0
    · rw [if_pos q2] at h
      refine pe_blk mm_119 1 (s' := (if (M.1 b 6) ≤ a0 then 21 else 12, [some (.ref b), some (.int a0)], [], _, _, _)) rfl ?_
      rw [if_pos q2]
      exact J119_21_ev sc n b hb e he _ _ _ _ h
    · rw [if_neg q2] at h
      refine pe_blk mm_119 1 (s' := (if (M.1 b 6) ≤ a0 then 21 else 12, [some (.ref b), some (.int a0)], [], _, _, _)) rfl ?_
      rw [if_neg q2]
      refine pe_blk mm_119 1 (s' := (13, [some (.ref b), some (.int a0)], [.ref b], _, _, _)) rfl ?_
      refine pe_get mm_119 rfl rfl (isD_0 hb _) (by have := isD_lt hb; omega) rfl ?_
      refine pe_blk mm_119 1 (s' := (17, [some (.ref b), some (.int a0)], [.int a0, .ref (b + 4)], _, _, _)) rfl ?_
      by_cases q3 : a0 < 0 ∨ 120 ≤ (a0 : Int32).toNatClampNeg
      · rw [if_pos q3] at h
        cases h
      · rw [if_neg q3] at h
        refine pe_iald (f := M.1 (b + 4)) mm_119 rfl (isD_4 hb _) (by have := isD_lt hb; omega) q3 ?_
        by_cases q4 : 0 ≤ (M.1 (b + 4) (a0 : Int32).toNatClampNeg)
        · rw [if_pos q4] at h
          refine pe_blk mm_119 1 (s' := (if 0 ≤ (M.1 (b + 4) (a0 : Int32).toNatClampNeg) then 26 else 21, [some (.ref b), some (.int a0)], [], _, _, _)) rfl ?_
          rw [if_pos q4]
          exact J119_26_ev sc n b hb e he a0 _ _ _ h
        · rw [if_neg q4] at h
          refine pe_blk mm_119 1 (s' := (if 0 ≤ (M.1 (b + 4) (a0 : Int32).toNatClampNeg) then 26 else 21, [some (.ref b), some (.int a0)], [], _, _, _)) rfl ?_
          rw [if_neg q4]
          exact J119_21_ev sc n b hb e he _ _ _ _ h
def J120_14 (n : Nat) (b : Nat) (M : Mem) : Option (Int32 × Mem) :=
  some ((-1), M)
set_option maxRecDepth 100000 in
set_option maxHeartbeats 4000000 in
theorem J120_14_ev (sc : Option (Nat × (Nat → Int32))) (n : Nat) (b : Nat) (hb : isD b) (e : Nat) (he : 1 ≤ e) : ∀ (u0 : Option Value) (u1 : Option Value) (u2 : Option Value) (M : Mem) (r : Int32) (M' : Mem), J120_14 n b  M = some (r, M') → pm_ev pmT sc e 120 false (14, [u0, u1, u2], [], 129, 17845, hp M) (some (.int r), 129, 17845, hp M') := by
  intro u0 u1 u2 M r M' h
  unfold J120_14 at h
  refine pe_blk mm_120 1 (s' := (15, [u0, u1, u2], [.int (-1)], _, _, _)) rfl ?_
  cases h
  exact pe_ret mm_120 rfl rfl
def J120_44 (n : Nat) (b : Nat) (s0 : Int32) (M : Mem) : Option (Int32 × Mem) :=
  some (s0, M)
set_option maxRecDepth 100000 in
set_option maxHeartbeats 4000000 in
theorem J120_44_ev (sc : Option (Nat × (Nat → Int32))) (n : Nat) (b : Nat) (hb : isD b) (e : Nat) (he : 1 ≤ e) : ∀ (s0 : Int32) (u0 : Option Value) (u1 : Option Value) (u2 : Option Value) (M : Mem) (r : Int32) (M' : Mem), J120_44 n b s0 M = some (r, M') → pm_ev pmT sc e 120 false (44, [u0, u1, u2], [.int s0], 129, 17845, hp M) (some (.int r), 129, 17845, hp M') := by
  intro s0 u0 u1 u2 M r M' h
  unfold J120_44 at h
  cases h
  exact pe_ret mm_120 rfl rfl
def J120_37 (n : Nat) (b : Nat) (x2 : Int32) (M : Mem) : Option (Int32 × Mem) :=
  J120_44 n b (x2 + 1) M
set_option maxRecDepth 100000 in
set_option maxHeartbeats 4000000 in
theorem J120_37_ev (sc : Option (Nat × (Nat → Int32))) (n : Nat) (b : Nat) (hb : isD b) (e : Nat) (he : 1 ≤ e) : ∀ (x2 : Int32) (u0 : Option Value) (u1 : Option Value) (M : Mem) (r : Int32) (M' : Mem), J120_37 n b x2 M = some (r, M') → pm_ev pmT sc e 120 false (37, [u0, u1, some (.int x2)], [], 129, 17845, hp M) (some (.int r), 129, 17845, hp M') := by
  intro x2 u0 u1 M r M' h
  unfold J120_37 at h
  refine pe_blk mm_120 4 (s' := (44, [u0, u1, some (.int x2)], [.int (x2 + 1)], _, _, _)) rfl ?_
  exact J120_44_ev sc n b hb e he (x2 + 1) _ _ _ _ _ _ h
def J120_43 (n : Nat) (b : Nat) (M : Mem) : Option (Int32 × Mem) :=
  J120_44 n b (-1) M
set_option maxRecDepth 100000 in
set_option maxHeartbeats 4000000 in
theorem J120_43_ev (sc : Option (Nat × (Nat → Int32))) (n : Nat) (b : Nat) (hb : isD b) (e : Nat) (he : 1 ≤ e) : ∀ (u0 : Option Value) (u1 : Option Value) (u2 : Option Value) (M : Mem) (r : Int32) (M' : Mem), J120_43 n b  M = some (r, M') → pm_ev pmT sc e 120 false (43, [u0, u1, u2], [], 129, 17845, hp M) (some (.int r), 129, 17845, hp M') := by
  intro u0 u1 u2 M r M' h
  unfold J120_43 at h
  refine pe_blk mm_120 1 (s' := (44, [u0, u1, u2], [.int (-1)], _, _, _)) rfl ?_
  exact J120_44_ev sc n b hb e he (-1) _ _ _ _ _ _ h
/-- ArmExpander$Definition.separatorOf -/
def F120 (n : Nat) (b : Nat) (a0 : Int32) (M : Mem) : Option (Int32 × Mem) :=
  if a0 < 0 then (J120_14 n b M) else (if (a0 + 1) < (M.1 b 6) then (if (a0 + 1) < 0 ∨ 120 ≤ (a0 + 1 : Int32).toNatClampNeg then none else (if a0 < 0 ∨ 120 ≤ (a0 : Int32).toNatClampNeg then none else (if (M.1 (b + 4) (a0 : Int32).toNatClampNeg) = ((M.1 (b + 2) (a0 + 1 : Int32).toNatClampNeg) + 2) then (J120_37 n b (M.1 (b + 2) (a0 + 1 : Int32).toNatClampNeg) M) else (J120_43 n b M)))) else (J120_14 n b M))
set_option maxRecDepth 100000 in
set_option maxHeartbeats 4000000 in
theorem F120_ev (sc : Option (Nat × (Nat → Int32))) (n : Nat) (b : Nat) (a0 : Int32) (hb : isD b) (M : Mem) (e : Nat) (he : 1 ≤ e) (r : Int32) (M' : Mem) (h : F120 n b a0 M = some (r, M')) : pm_ev pmT sc e 120 false (0, [some (.ref b), some (.int a0), none], [], 129, 17845, hp M) (some (.int r), 129, 17845, hp M') := by
  unfold F120 at h
  refine pe_blk mm_120 1 (s' := (1, [some (.ref b), some (.int a0), none], [.int a0], _, _, _)) rfl ?_
  by_cases q1 : a0 < 0
  · rw [if_pos q1] at h
    refine pe_blk mm_120 1 (s' := (if a0 < 0 then 14 else 4, [some (.ref b), some (.int a0), none], [], _, _, _)) rfl ?_
    rw [if_pos q1]
    exact J120_14_ev sc n b hb e he _ _ _ _ _ _ h
  · rw [if_neg q1] at h
    refine pe_blk mm_120 1 (s' := (if a0 < 0 then 14 else 4, [some (.ref b), some (.int a0), none], [], _, _, _)) rfl ?_
    rw [if_neg q1]
    refine pe_blk mm_120 4 (s' := (8, [some (.ref b), some (.int a0), none], [.ref b, .int (a0 + 1)], _, _, _)) rfl ?_
    refine pe_get mm_120 rfl rfl (isD_0 hb _) (by have := isD_lt hb; omega) rfl ?_
    by_cases q2 : (a0 + 1) < (M.1 b 6)
    · rw [if_pos q2] at h
      refine pe_blk mm_120 1 (s' := (if (a0 + 1) < (M.1 b 6) then 16 else 14, [some (.ref b), some (.int a0), none], [], _, _, _)) rfl ?_
      rw [if_pos q2]
      refine pe_blk mm_120 1 (s' := (17, [some (.ref b), some (.int a0), none], [.ref b], _, _, _)) rfl ?_
      refine pe_get mm_120 rfl rfl (isD_0 hb _) (by have := isD_lt hb; omega) rfl ?_
      refine pe_blk mm_120 3 (s' := (23, [some (.ref b), some (.int a0), none], [.int (a0 + 1), .ref (b + 2)], _, _, _)) rfl ?_
      by_cases q3 : (a0 + 1) < 0 ∨ 120 ≤ (a0 + 1 : Int32).toNatClampNeg
      · rw [if_pos q3] at h
        cases h
      · rw [if_neg q3] at h
        refine pe_iald (f := M.1 (b + 2)) mm_120 rfl (isD_2 hb _) (by have := isD_lt hb; omega) q3 ?_
        refine pe_blk mm_120 2 (s' := (26, [some (.ref b), some (.int a0), some (.int (M.1 (b + 2) (a0 + 1 : Int32).toNatClampNeg))], [.ref b], _, _, _)) rfl ?_
        refine pe_get mm_120 rfl rfl (isD_0 hb _) (by have := isD_lt hb; omega) rfl ?_
        refine pe_blk mm_120 1 (s' := (30, [some (.ref b), some (.int a0), some (.int (M.1 (b + 2) (a0 + 1 : Int32).toNatClampNeg))], [.int a0, .ref (b + 4)], _, _, _)) rfl ?_
        by_cases q4 : a0 < 0 ∨ 120 ≤ (a0 : Int32).toNatClampNeg
        · rw [if_pos q4] at h
          cases h
        · rw [if_neg q4] at h
          refine pe_iald (f := M.1 (b + 4)) mm_120 rfl (isD_4 hb _) (by have := isD_lt hb; omega) q4 ?_
          refine pe_blk mm_120 3 (s' := (34, [some (.ref b), some (.int a0), some (.int (M.1 (b + 2) (a0 + 1 : Int32).toNatClampNeg))], [.int ((M.1 (b + 2) (a0 + 1 : Int32).toNatClampNeg) + 2), .int (M.1 (b + 4) (a0 : Int32).toNatClampNeg)], _, _, _)) rfl ?_
          by_cases q5 : (M.1 (b + 4) (a0 : Int32).toNatClampNeg) = ((M.1 (b + 2) (a0 + 1 : Int32).toNatClampNeg) + 2)
          · rw [if_pos q5] at h
            refine pe_blk mm_120 1 (s' := (if (M.1 (b + 4) (a0 : Int32).toNatClampNeg) = ((M.1 (b + 2) (a0 + 1 : Int32).toNatClampNeg) + 2) then 37 else 43, [some (.ref b), some (.int a0), some (.int (M.1 (b + 2) (a0 + 1 : Int32).toNatClampNeg))], [], _, _, _)) rfl ?_
            rw [if_pos q5]
            exact J120_37_ev sc n b hb e he (M.1 (b + 2) (a0 + 1 : Int32).toNatClampNeg) _ _ _ _ _ h
          · rw [if_neg q5] at h
            refine pe_blk mm_120 1 (s' := (if (M.1 (b + 4) (a0 : Int32).toNatClampNeg) = ((M.1 (b + 2) (a0 + 1 : Int32).toNatClampNeg) + 2) then 37 else 43, [some (.ref b), some (.int a0), some (.int (M.1 (b + 2) (a0 + 1 : Int32).toNatClampNeg))], [], _, _, _)) rfl ?_
            rw [if_neg q5]
            exact J120_43_ev sc n b hb e he _ _ _ _ _ _ h
    · rw [if_neg q2] at h
      refine pe_blk mm_120 1 (s' := (if (a0 + 1) < (M.1 b 6) then 16 else 14, [some (.ref b), some (.int a0), none], [], _, _, _)) rfl ?_
      rw [if_neg q2]
      exact J120_14_ev sc n b hb e he _ _ _ _ _ _ h
def J121_22 (n : Nat) (b : Nat) (s0 : Int32) (M : Mem) : Option (Int32 × Mem) :=
  some (s0, M)
set_option maxRecDepth 100000 in
set_option maxHeartbeats 4000000 in
theorem J121_22_ev (sc : Option (Nat × (Nat → Int32))) (n : Nat) (b : Nat) (hb : isD b) (e : Nat) (he : 1 ≤ e) : ∀ (s0 : Int32) (u0 : Option Value) (u1 : Option Value) (M : Mem) (r : Int32) (M' : Mem), J121_22 n b s0 M = some (r, M') → pm_ev pmT sc e 121 false (22, [u0, u1], [.int s0], 129, 17845, hp M) (some (.int r), 129, 17845, hp M') := by
  intro s0 u0 u1 M r M' h
  unfold J121_22 at h
  cases h
  exact pe_ret mm_121 rfl rfl
def J121_21 (n : Nat) (b : Nat) (M : Mem) : Option (Int32 × Mem) :=
  J121_22 n b (-1) M
set_option maxRecDepth 100000 in
set_option maxHeartbeats 4000000 in
theorem J121_21_ev (sc : Option (Nat × (Nat → Int32))) (n : Nat) (b : Nat) (hb : isD b) (e : Nat) (he : 1 ≤ e) : ∀ (u0 : Option Value) (u1 : Option Value) (M : Mem) (r : Int32) (M' : Mem), J121_21 n b  M = some (r, M') → pm_ev pmT sc e 121 false (21, [u0, u1], [], 129, 17845, hp M) (some (.int r), 129, 17845, hp M') := by
  intro u0 u1 M r M' h
  unfold J121_21 at h
  refine pe_blk mm_121 1 (s' := (22, [u0, u1], [.int (-1)], _, _, _)) rfl ?_
  exact J121_22_ev sc n b hb e he (-1) _ _ _ _ _ h
/-- ArmExpander$Definition.repetitionAround -/
def F121 (n : Nat) (b : Nat) (a0 : Int32) (M : Mem) : Option (Int32 × Mem) :=
  if a0 < 0 then (J121_21 n b M) else (if (M.1 b 6) ≤ a0 then (J121_21 n b M) else (if a0 < 0 ∨ 120 ≤ (a0 : Int32).toNatClampNeg then none else (J121_22 n b (M.1 (b + 3) (a0 : Int32).toNatClampNeg) M)))
set_option maxRecDepth 100000 in
set_option maxHeartbeats 4000000 in
theorem F121_ev (sc : Option (Nat × (Nat → Int32))) (n : Nat) (b : Nat) (a0 : Int32) (hb : isD b) (M : Mem) (e : Nat) (he : 1 ≤ e) (r : Int32) (M' : Mem) (h : F121 n b a0 M = some (r, M')) : pm_ev pmT sc e 121 false (0, [some (.ref b), some (.int a0)], [], 129, 17845, hp M) (some (.int r), 129, 17845, hp M') := by
  unfold F121 at h
  refine pe_blk mm_121 1 (s' := (1, [some (.ref b), some (.int a0)], [.int a0], _, _, _)) rfl ?_
  by_cases q1 : a0 < 0
  · rw [if_pos q1] at h
    refine pe_blk mm_121 1 (s' := (if a0 < 0 then 21 else 4, [some (.ref b), some (.int a0)], [], _, _, _)) rfl ?_
    rw [if_pos q1]
    exact J121_21_ev sc n b hb e he _ _ _ _ _ h
  · rw [if_neg q1] at h
    refine pe_blk mm_121 1 (s' := (if a0 < 0 then 21 else 4, [some (.ref b), some (.int a0)], [], _, _, _)) rfl ?_
    rw [if_neg q1]
    refine pe_blk mm_121 2 (s' := (6, [some (.ref b), some (.int a0)], [.ref b, .int a0], _, _, _)) rfl ?_
    refine pe_get mm_121 rfl rfl (isD_0 hb _) (by have := isD_lt hb; omega) rfl ?_
    by_cases q2 : (M.1 b 6) ≤ a0
    · rw [if_pos q2] at h
      refine pe_blk mm_121 1 (s' := (if (M.1 b 6) ≤ a0 then 21 else 12, [some (.ref b), some (.int a0)], [], _, _, _)) rfl ?_
      rw [if_pos q2]
      exact J121_21_ev sc n b hb e he _ _ _ _ _ h
    · rw [if_neg q2] at h
      refine pe_blk mm_121 1 (s' := (if (M.1 b 6) ≤ a0 then 21 else 12, [some (.ref b), some (.int a0)], [], _, _, _)) rfl ?_
      rw [if_neg q2]
      refine pe_blk mm_121 1 (s' := (13, [some (.ref b), some (.int a0)], [.ref b], _, _, _)) rfl ?_
      refine pe_get mm_121 rfl rfl (isD_0 hb _) (by have := isD_lt hb; omega) rfl ?_
      refine pe_blk mm_121 1 (s' := (17, [some (.ref b), some (.int a0)], [.int a0, .ref (b + 3)], _, _, _)) rfl ?_
      by_cases q3 : a0 < 0 ∨ 120 ≤ (a0 : Int32).toNatClampNeg
      · rw [if_pos q3] at h
        cases h
      · rw [if_neg q3] at h
        refine pe_iald (f := M.1 (b + 3)) mm_121 rfl (isD_3 hb _) (by have := isD_lt hb; omega) q3 ?_
        refine pe_blk mm_121 1 (s' := (22, [some (.ref b), some (.int a0)], [.int (M.1 (b + 3) (a0 : Int32).toNatClampNeg)], _, _, _)) rfl ?_
        exact J121_22_ev sc n b hb e he (M.1 (b + 3) (a0 : Int32).toNatClampNeg) _ _ _ _ _ h
def J122_29 (n : Nat) (b : Nat) (s0 : Int32) (M : Mem) : Option (Int32 × Mem) :=
  some (s0, M)
set_option maxRecDepth 100000 in
set_option maxHeartbeats 4000000 in
theorem J122_29_ev (sc : Option (Nat × (Nat → Int32))) (n : Nat) (b : Nat) (hb : isD b) (e : Nat) (he : 2 ≤ e) : ∀ (s0 : Int32) (u0 : Option Value) (u1 : Option Value) (u2 : Option Value) (M : Mem) (r : Int32) (M' : Mem), J122_29 n b s0 M = some (r, M') → pm_ev pmT sc e 122 false (29, [u0, u1, u2], [.int s0], 129, 17845, hp M) (some (.int r), 129, 17845, hp M') := by
  intro s0 u0 u1 u2 M r M' h
  unfold J122_29 at h
  cases h
  exact pe_ret mm_122 rfl rfl
def J122_24 (n : Nat) (b : Nat) (M : Mem) : Option (Int32 × Mem) :=
  J122_29 n b 1 M
set_option maxRecDepth 100000 in
set_option maxHeartbeats 4000000 in
theorem J122_24_ev (sc : Option (Nat × (Nat → Int32))) (n : Nat) (b : Nat) (hb : isD b) (e : Nat) (he : 2 ≤ e) : ∀ (u0 : Option Value) (u1 : Option Value) (u2 : Option Value) (M : Mem) (r : Int32) (M' : Mem), J122_24 n b  M = some (r, M') → pm_ev pmT sc e 122 false (24, [u0, u1, u2], [], 129, 17845, hp M) (some (.int r), 129, 17845, hp M') := by
  intro u0 u1 u2 M r M' h
  unfold J122_24 at h
  refine pe_blk mm_122 2 (s' := (29, [u0, u1, u2], [.int 1], _, _, _)) rfl ?_
  exact J122_29_ev sc n b hb e he 1 _ _ _ _ _ _ h
def J122_28 (n : Nat) (b : Nat) (M : Mem) : Option (Int32 × Mem) :=
  J122_29 n b 2 M
set_option maxRecDepth 100000 in
set_option maxHeartbeats 4000000 in
theorem J122_28_ev (sc : Option (Nat × (Nat → Int32))) (n : Nat) (b : Nat) (hb : isD b) (e : Nat) (he : 2 ≤ e) : ∀ (u0 : Option Value) (u1 : Option Value) (u2 : Option Value) (M : Mem) (r : Int32) (M' : Mem), J122_28 n b  M = some (r, M') → pm_ev pmT sc e 122 false (28, [u0, u1, u2], [], 129, 17845, hp M) (some (.int r), 129, 17845, hp M') := by
  intro u0 u1 u2 M r M' h
  unfold J122_28 at h
  refine pe_blk mm_122 1 (s' := (29, [u0, u1, u2], [.int 2], _, _, _)) rfl ?_
  exact J122_29_ev sc n b hb e he 2 _ _ _ _ _ _ h
/-- ArmExpander$Definition.repetitionsAround -/
def F122 (n : Nat) (b : Nat) (a0 : Int32) (M : Mem) : Option (Int32 × Mem) :=
  match F121 n b a0 M with | some (v1, M2) => (if v1 = (-1) then (J122_29 n b 0 M2) else (match F121 n b v1 M2 with | some (v5, M6) => (if v5 = (-1) then (J122_24 n b M6) else (J122_28 n b M6)) | none => none)) | none => none
set_option maxRecDepth 100000 in
set_option maxHeartbeats 4000000 in
theorem F122_ev (sc : Option (Nat × (Nat → Int32))) (n : Nat) (b : Nat) (a0 : Int32) (hb : isD b) (M : Mem) (e : Nat) (he : 2 ≤ e) (r : Int32) (M' : Mem) (h : F122 n b a0 M = some (r, M')) : pm_ev pmT sc e 122 false (0, [some (.ref b), some (.int a0), none], [], 129, 17845, hp M) (some (.int r), 129, 17845, hp M') := by
  unfold F122 at h
  refine pe_blk mm_122 2 (s' := (2, [some (.ref b), some (.int a0), none], [.int a0, .ref b], _, _, _)) rfl ?_
  obtain ⟨e1, rfl⟩ : ∃ e1, e = e1 + 1 := ⟨e - 1, by omega⟩
  cases hc3 : F121 n b a0 M with
  | none => rw [hc3] at h; cases h
  | some w =>
    obtain ⟨v1, M2⟩ := w
    rw [hc3] at h
    dsimp only at h
    refine pe_virt (al := [.int a0]) (a := b) (L0 := [some (.ref b), some (.int a0)]) (r1 := (some (.int v1), 129, 17845, hp M2)) mm_122 rfl rfl rfl mm_121 (isD_0 hb _) (by have := isD_lt hb; omega) (by decide) rfl (Nat.le_of_ble_eq_true rfl) (Nat.le_of_ble_eq_true rfl) rfl rfl (F121_ev sc n b a0 hb _ e1 (by omega) _ _ hc3) ?_
    show pm_ev _ _ _ _ _ (5, [some (.ref b), some (.int a0), none], [.int v1], _, _, _) _
    refine pe_blk mm_122 3 (s' := (8, [some (.ref b), some (.int a0), some (.int v1)], [.int (-1), .int v1], _, _, _)) rfl ?_
    by_cases q4 : v1 = (-1)
    · rw [if_pos q4] at h
      refine pe_blk mm_122 1 (s' := (if v1 = (-1) then 11 else 15, [some (.ref b), some (.int a0), some (.int v1)], [], _, _, _)) rfl ?_
      rw [if_pos q4]
      refine pe_blk mm_122 2 (s' := (29, [some (.ref b), some (.int a0), some (.int v1)], [.int 0], _, _, _)) rfl ?_
      exact J122_29_ev sc n b hb (e1 + 1) he 0 _ _ _ _ _ _ h
    · rw [if_neg q4] at h
      refine pe_blk mm_122 1 (s' := (if v1 = (-1) then 11 else 15, [some (.ref b), some (.int a0), some (.int v1)], [], _, _, _)) rfl ?_
      rw [if_neg q4]
      refine pe_blk mm_122 2 (s' := (17, [some (.ref b), some (.int a0), some (.int v1)], [.int v1, .ref b], _, _, _)) rfl ?_
      skip
      cases hc7 : F121 n b v1 M2 with
      | none => rw [hc7] at h; cases h
      | some w =>
        obtain ⟨v5, M6⟩ := w
        rw [hc7] at h
        dsimp only at h
        refine pe_virt (al := [.int v1]) (a := b) (L0 := [some (.ref b), some (.int v1)]) (r1 := (some (.int v5), 129, 17845, hp M6)) mm_122 rfl rfl rfl mm_121 (isD_0 hb _) (by have := isD_lt hb; omega) (by decide) rfl (Nat.le_of_ble_eq_true rfl) (Nat.le_of_ble_eq_true rfl) rfl rfl (F121_ev sc n b v1 hb _ e1 (by omega) _ _ hc7) ?_
        show pm_ev _ _ _ _ _ (20, [some (.ref b), some (.int a0), some (.int v1)], [.int v5], _, _, _) _
        refine pe_blk mm_122 1 (s' := (21, [some (.ref b), some (.int a0), some (.int v1)], [.int (-1), .int v5], _, _, _)) rfl ?_
        by_cases q8 : v5 = (-1)
        · rw [if_pos q8] at h
          refine pe_blk mm_122 1 (s' := (if v5 = (-1) then 24 else 28, [some (.ref b), some (.int a0), some (.int v1)], [], _, _, _)) rfl ?_
          rw [if_pos q8]
          exact J122_24_ev sc n b hb (e1 + 1) he _ _ _ _ _ _ h
        · rw [if_neg q8] at h
          refine pe_blk mm_122 1 (s' := (if v5 = (-1) then 24 else 28, [some (.ref b), some (.int a0), some (.int v1)], [], _, _, _)) rfl ?_
          rw [if_neg q8]
          exact J122_28_ev sc n b hb (e1 + 1) he _ _ _ _ _ _ h
def J123_22 (n : Nat) (b : Nat) (M : Mem) : Option (Int32 × Mem) :=
  some ((-1), M)
set_option maxRecDepth 100000 in
set_option maxHeartbeats 4000000 in
theorem J123_22_ev (sc : Option (Nat × (Nat → Int32))) (n : Nat) (b : Nat) (hb : isD b) (e : Nat) (he : 1 ≤ e) : ∀ (u0 : Option Value) (u1 : Option Value) (M : Mem) (r : Int32) (M' : Mem), J123_22 n b  M = some (r, M') → pm_ev pmT sc e 123 false (22, [u0, u1], [], 129, 17845, hp M) (some (.int r), 129, 17845, hp M') := by
  intro u0 u1 M r M' h
  unfold J123_22 at h
  refine pe_blk mm_123 1 (s' := (23, [u0, u1], [.int (-1)], _, _, _)) rfl ?_
  cases h
  exact pe_ret mm_123 rfl rfl
def J123_24 (n : Nat) (b : Nat) (x1 : Int32) (M : Mem) : Option (Int32 × Mem) :=
  if x1 < 0 ∨ 120 ≤ (x1 : Int32).toNatClampNeg then none else (some (M.1 (b + 5) (x1 : Int32).toNatClampNeg, M))
set_option maxRecDepth 100000 in
set_option maxHeartbeats 4000000 in
theorem J123_24_ev (sc : Option (Nat × (Nat → Int32))) (n : Nat) (b : Nat) (hb : isD b) (e : Nat) (he : 1 ≤ e) : ∀ (x1 : Int32) (M : Mem) (r : Int32) (M' : Mem), J123_24 n b x1 M = some (r, M') → pm_ev pmT sc e 123 false (24, [some (.ref b), some (.int x1)], [], 129, 17845, hp M) (some (.int r), 129, 17845, hp M') := by
  intro x1  M r M' h
  unfold J123_24 at h
  refine pe_blk mm_123 1 (s' := (25, [some (.ref b), some (.int x1)], [.ref b], _, _, _)) rfl ?_
  refine pe_get mm_123 rfl rfl (isD_0 hb _) (by have := isD_lt hb; omega) rfl ?_
  refine pe_blk mm_123 1 (s' := (29, [some (.ref b), some (.int x1)], [.int x1, .ref (b + 5)], _, _, _)) rfl ?_
  by_cases q5 : x1 < 0 ∨ 120 ≤ (x1 : Int32).toNatClampNeg
  · rw [if_pos q5] at h
    cases h
  · rw [if_neg q5] at h
    refine pe_iald (f := M.1 (b + 5)) mm_123 rfl (isD_5 hb _) (by have := isD_lt hb; omega) q5 ?_
    cases h
    exact pe_ret mm_123 rfl rfl
/-- ArmExpander$Definition.outerOrder -/
def F123 (n : Nat) (b : Nat) (a0 : Int32) (M : Mem) : Option (Int32 × Mem) :=
  if a0 < 0 then (J123_22 n b M) else (if (M.1 b 6) ≤ a0 then (J123_22 n b M) else (if a0 < 0 ∨ 120 ≤ (a0 : Int32).toNatClampNeg then none else (if (M.1 (b + 3) (a0 : Int32).toNatClampNeg) = (-1) then (J123_24 n b a0 M) else (J123_22 n b M))))
set_option maxRecDepth 100000 in
set_option maxHeartbeats 4000000 in
theorem F123_ev (sc : Option (Nat × (Nat → Int32))) (n : Nat) (b : Nat) (a0 : Int32) (hb : isD b) (M : Mem) (e : Nat) (he : 1 ≤ e) (r : Int32) (M' : Mem) (h : F123 n b a0 M = some (r, M')) : pm_ev pmT sc e 123 false (0, [some (.ref b), some (.int a0)], [], 129, 17845, hp M) (some (.int r), 129, 17845, hp M') := by
  unfold F123 at h
  refine pe_blk mm_123 1 (s' := (1, [some (.ref b), some (.int a0)], [.int a0], _, _, _)) rfl ?_
  by_cases q1 : a0 < 0
  · rw [if_pos q1] at h
    refine pe_blk mm_123 1 (s' := (if a0 < 0 then 22 else 4, [some (.ref b), some (.int a0)], [], _, _, _)) rfl ?_
    rw [if_pos q1]
    exact J123_22_ev sc n b hb e he _ _ _ _ _ h
  · rw [if_neg q1] at h
    refine pe_blk mm_123 1 (s' := (if a0 < 0 then 22 else 4, [some (.ref b), some (.int a0)], [], _, _, _)) rfl ?_
    rw [if_neg q1]
    refine pe_blk mm_123 2 (s' := (6, [some (.ref b), some (.int a0)], [.ref b, .int a0], _, _, _)) rfl ?_
    refine pe_get mm_123 rfl rfl (isD_0 hb _) (by have := isD_lt hb; omega) rfl ?_
    by_cases q2 : (M.1 b 6) ≤ a0
    · rw [if_pos q2] at h
      refine pe_blk mm_123 1 (s' := (if (M.1 b 6) ≤ a0 then 22 else 12, [some (.ref b), some (.int a0)], [], _, _, _)) rfl ?_
      rw [if_pos q2]
      exact J123_22_ev sc n b hb e he _ _ _ _ _ h
    · rw [if_neg q2] at h
      refine pe_blk mm_123 1 (s' := (if (M.1 b 6) ≤ a0 then 22 else 12, [some (.ref b), some (.int a0)], [], _, _, _)) rfl ?_
      rw [if_neg q2]
      refine pe_blk mm_123 1 (s' := (13, [some (.ref b), some (.int a0)], [.ref b], _, _, _)) rfl ?_
      refine pe_get mm_123 rfl rfl (isD_0 hb _) (by have := isD_lt hb; omega) rfl ?_
      refine pe_blk mm_123 1 (s' := (17, [some (.ref b), some (.int a0)], [.int a0, .ref (b + 3)], _, _, _)) rfl ?_
      by_cases q3 : a0 < 0 ∨ 120 ≤ (a0 : Int32).toNatClampNeg
      · rw [if_pos q3] at h
        cases h
      · rw [if_neg q3] at h
        refine pe_iald (f := M.1 (b + 3)) mm_123 rfl (isD_3 hb _) (by have := isD_lt hb; omega) q3 ?_
        refine pe_blk mm_123 1 (s' := (19, [some (.ref b), some (.int a0)], [.int (-1), .int (M.1 (b + 3) (a0 : Int32).toNatClampNeg)], _, _, _)) rfl ?_
        by_cases q4 : (M.1 (b + 3) (a0 : Int32).toNatClampNeg) = (-1)
        · rw [if_pos q4] at h
          refine pe_blk mm_123 1 (s' := (if (M.1 (b + 3) (a0 : Int32).toNatClampNeg) = (-1) then 24 else 22, [some (.ref b), some (.int a0)], [], _, _, _)) rfl ?_
          rw [if_pos q4]
          exact J123_24_ev sc n b hb e he a0 _ _ _ h
        · rw [if_neg q4] at h
          refine pe_blk mm_123 1 (s' := (if (M.1 (b + 3) (a0 : Int32).toNatClampNeg) = (-1) then 24 else 22, [some (.ref b), some (.int a0)], [], _, _, _)) rfl ?_
          rw [if_neg q4]
          exact J123_22_ev sc n b hb e he _ _ _ _ _ h
def J124_21 (n : Nat) (b : Nat) (M : Mem) : Option (Int32 × Mem) :=
  some ((-1), M)
set_option maxRecDepth 100000 in
set_option maxHeartbeats 4000000 in
theorem J124_21_ev (sc : Option (Nat × (Nat → Int32))) (n : Nat) (b : Nat) (hb : isD b) (e : Nat) (he : 1 ≤ e) : ∀ (u0 : Option Value) (u1 : Option Value) (u2 : Option Value) (M : Mem) (r : Int32) (M' : Mem), J124_21 n b  M = some (r, M') → pm_ev pmT sc e 124 false (21, [u0, u1, u2], [], 129, 17845, hp M) (some (.int r), 129, 17845, hp M') := by
  intro u0 u1 u2 M r M' h
  unfold J124_21 at h
  refine pe_blk mm_124 1 (s' := (22, [u0, u1, u2], [.int (-1)], _, _, _)) rfl ?_
  cases h
  exact pe_ret mm_124 rfl rfl
def J124_59 (n : Nat) (b : Nat) (s0 : Int32) (M : Mem) : Option (Int32 × Mem) :=
  some (s0, M)
set_option maxRecDepth 100000 in
set_option maxHeartbeats 4000000 in
theorem J124_59_ev (sc : Option (Nat × (Nat → Int32))) (n : Nat) (b : Nat) (hb : isD b) (e : Nat) (he : 1 ≤ e) : ∀ (s0 : Int32) (u0 : Option Value) (u1 : Option Value) (u2 : Option Value) (M : Mem) (r : Int32) (M' : Mem), J124_59 n b s0 M = some (r, M') → pm_ev pmT sc e 124 false (59, [u0, u1, u2], [.int s0], 129, 17845, hp M) (some (.int r), 129, 17845, hp M') := by
  intro s0 u0 u1 u2 M r M' h
  unfold J124_59 at h
  cases h
  exact pe_ret mm_124 rfl rfl
def J124_23 (n : Nat) (b : Nat) (x1 : Int32) (M : Mem) : Option (Int32 × Mem) :=
  if x1 < 0 ∨ 120 ≤ (x1 : Int32).toNatClampNeg then none else (if (M.1 (b + 3) (x1 : Int32).toNatClampNeg) < 0 ∨ 120 ≤ (M.1 (b + 3) (x1 : Int32).toNatClampNeg : Int32).toNatClampNeg then none else (if 0 ≤ (M.1 (b + 3) (M.1 (b + 3) (x1 : Int32).toNatClampNeg : Int32).toNatClampNeg) then (if (M.1 (b + 3) (x1 : Int32).toNatClampNeg) < 0 ∨ 120 ≤ (M.1 (b + 3) (x1 : Int32).toNatClampNeg : Int32).toNatClampNeg then none else (if (M.1 (b + 3) (M.1 (b + 3) (x1 : Int32).toNatClampNeg : Int32).toNatClampNeg) < 0 ∨ 120 ≤ (M.1 (b + 3) (M.1 (b + 3) (x1 : Int32).toNatClampNeg : Int32).toNatClampNeg : Int32).toNatClampNeg then none else (J124_59 n b (M.1 (b + 5) (M.1 (b + 3) (M.1 (b + 3) (x1 : Int32).toNatClampNeg : Int32).toNatClampNeg : Int32).toNatClampNeg) M))) else (if (M.1 (b + 3) (x1 : Int32).toNatClampNeg) < 0 ∨ 120 ≤ (M.1 (b + 3) (x1 : Int32).toNatClampNeg : Int32).toNatClampNeg then none else (J124_59 n b (M.1 (b + 5) (M.1 (b + 3) (x1 : Int32).toNatClampNeg : Int32).toNatClampNeg) M))))
set_option maxRecDepth 100000 in
set_option maxHeartbeats 4000000 in
theorem J124_23_ev (sc : Option (Nat × (Nat → Int32))) (n : Nat) (b : Nat) (hb : isD b) (e : Nat) (he : 1 ≤ e) : ∀ (x1 : Int32) (u2 : Option Value) (M : Mem) (r : Int32) (M' : Mem), J124_23 n b x1 M = some (r, M') → pm_ev pmT sc e 124 false (23, [some (.ref b), some (.int x1), u2], [], 129, 17845, hp M) (some (.int r), 129, 17845, hp M') := by
  intro x1 u2 M r M' h
  unfold J124_23 at h
  refine pe_blk mm_124 1 (s' := (24, [some (.ref b), some (.int x1), u2], [.ref b], _, _, _)) rfl ?_
  refine pe_get mm_124 rfl rfl (isD_0 hb _) (by have := isD_lt hb; omega) rfl ?_
  refine pe_blk mm_124 1 (s' := (28, [some (.ref b), some (.int x1), u2], [.int x1, .ref (b + 3)], _, _, _)) rfl ?_
  by_cases q5 : x1 < 0 ∨ 120 ≤ (x1 : Int32).toNatClampNeg
  · rw [if_pos q5] at h
    cases h
  · rw [if_neg q5] at h
    refine pe_iald (f := M.1 (b + 3)) mm_124 rfl (isD_3 hb _) (by have := isD_lt hb; omega) q5 ?_
    refine pe_blk mm_124 2 (s' := (31, [some (.ref b), some (.int x1), some (.int (M.1 (b + 3) (x1 : Int32).toNatClampNeg))], [.ref b], _, _, _)) rfl ?_
    refine pe_get mm_124 rfl rfl (isD_0 hb _) (by have := isD_lt hb; omega) rfl ?_
    refine pe_blk mm_124 1 (s' := (35, [some (.ref b), some (.int x1), some (.int (M.1 (b + 3) (x1 : Int32).toNatClampNeg))], [.int (M.1 (b + 3) (x1 : Int32).toNatClampNeg), .ref (b + 3)], _, _, _)) rfl ?_
    by_cases q6 : (M.1 (b + 3) (x1 : Int32).toNatClampNeg) < 0 ∨ 120 ≤ (M.1 (b + 3) (x1 : Int32).toNatClampNeg : Int32).toNatClampNeg
    · rw [if_pos q6] at h
      cases h
    · rw [if_neg q6] at h
      refine pe_iald (f := M.1 (b + 3)) mm_124 rfl (isD_3 hb _) (by have := isD_lt hb; omega) q6 ?_
      by_cases q7 : 0 ≤ (M.1 (b + 3) (M.1 (b + 3) (x1 : Int32).toNatClampNeg : Int32).toNatClampNeg)
      · rw [if_pos q7] at h
        refine pe_blk mm_124 1 (s' := (if 0 ≤ (M.1 (b + 3) (M.1 (b + 3) (x1 : Int32).toNatClampNeg : Int32).toNatClampNeg) then 48 else 39, [some (.ref b), some (.int x1), some (.int (M.1 (b + 3) (x1 : Int32).toNatClampNeg))], [], _, _, _)) rfl ?_
        rw [if_pos q7]
        refine pe_blk mm_124 1 (s' := (49, [some (.ref b), some (.int x1), some (.int (M.1 (b + 3) (x1 : Int32).toNatClampNeg))], [.ref b], _, _, _)) rfl ?_
        refine pe_get mm_124 rfl rfl (isD_0 hb _) (by have := isD_lt hb; omega) rfl ?_
        refine pe_blk mm_124 1 (s' := (53, [some (.ref b), some (.int x1), some (.int (M.1 (b + 3) (x1 : Int32).toNatClampNeg))], [.ref b, .ref (b + 5)], _, _, _)) rfl ?_
        refine pe_get mm_124 rfl rfl (isD_0 hb _) (by have := isD_lt hb; omega) rfl ?_
        refine pe_blk mm_124 1 (s' := (57, [some (.ref b), some (.int x1), some (.int (M.1 (b + 3) (x1 : Int32).toNatClampNeg))], [.int (M.1 (b + 3) (x1 : Int32).toNatClampNeg), .ref (b + 3), .ref (b + 5)], _, _, _)) rfl ?_
        by_cases q8 : (M.1 (b + 3) (x1 : Int32).toNatClampNeg) < 0 ∨ 120 ≤ (M.1 (b + 3) (x1 : Int32).toNatClampNeg : Int32).toNatClampNeg
        · rw [if_pos q8] at h
          cases h
        · rw [if_neg q8] at h
          refine pe_iald (f := M.1 (b + 3)) mm_124 rfl (isD_3 hb _) (by have := isD_lt hb; omega) q8 ?_
          by_cases q9 : (M.1 (b + 3) (M.1 (b + 3) (x1 : Int32).toNatClampNeg : Int32).toNatClampNeg) < 0 ∨ 120 ≤ (M.1 (b + 3) (M.1 (b + 3) (x1 : Int32).toNatClampNeg : Int32).toNatClampNeg : Int32).toNatClampNeg
          · rw [if_pos q9] at h
            cases h
          · rw [if_neg q9] at h
            refine pe_iald (f := M.1 (b + 5)) mm_124 rfl (isD_5 hb _) (by have := isD_lt hb; omega) q9 ?_
            exact J124_59_ev sc n b hb e he (M.1 (b + 5) (M.1 (b + 3) (M.1 (b + 3) (x1 : Int32).toNatClampNeg : Int32).toNatClampNeg : Int32).toNatClampNeg) _ _ _ _ _ _ h
      · rw [if_neg q7] at h
        refine pe_blk mm_124 1 (s' := (if 0 ≤ (M.1 (b + 3) (M.1 (b + 3) (x1 : Int32).toNatClampNeg : Int32).toNatClampNeg) then 48 else 39, [some (.ref b), some (.int x1), some (.int (M.1 (b + 3) (x1 : Int32).toNatClampNeg))], [], _, _, _)) rfl ?_
        rw [if_neg q7]
        refine pe_blk mm_124 1 (s' := (40, [some (.ref b), some (.int x1), some (.int (M.1 (b + 3) (x1 : Int32).toNatClampNeg))], [.ref b], _, _, _)) rfl ?_
        refine pe_get mm_124 rfl rfl (isD_0 hb _) (by have := isD_lt hb; omega) rfl ?_
        refine pe_blk mm_124 1 (s' := (44, [some (.ref b), some (.int x1), some (.int (M.1 (b + 3) (x1 : Int32).toNatClampNeg))], [.int (M.1 (b + 3) (x1 : Int32).toNatClampNeg), .ref (b + 5)], _, _, _)) rfl ?_
        by_cases q10 : (M.1 (b + 3) (x1 : Int32).toNatClampNeg) < 0 ∨ 120 ≤ (M.1 (b + 3) (x1 : Int32).toNatClampNeg : Int32).toNatClampNeg
        · rw [if_pos q10] at h
          cases h
        · rw [if_neg q10] at h
          refine pe_iald (f := M.1 (b + 5)) mm_124 rfl (isD_5 hb _) (by have := isD_lt hb; omega) q10 ?_
          refine pe_blk mm_124 1 (s' := (59, [some (.ref b), some (.int x1), some (.int (M.1 (b + 3) (x1 : Int32).toNatClampNeg))], [.int (M.1 (b + 5) (M.1 (b + 3) (x1 : Int32).toNatClampNeg : Int32).toNatClampNeg)], _, _, _)) rfl ?_
          exact J124_59_ev sc n b hb e he (M.1 (b + 5) (M.1 (b + 3) (x1 : Int32).toNatClampNeg : Int32).toNatClampNeg) _ _ _ _ _ _ h
/-- ArmExpander$Definition.orderAround -/
def F124 (n : Nat) (b : Nat) (a0 : Int32) (M : Mem) : Option (Int32 × Mem) :=
  if a0 < 0 then (J124_21 n b M) else (if (M.1 b 6) ≤ a0 then (J124_21 n b M) else (if a0 < 0 ∨ 120 ≤ (a0 : Int32).toNatClampNeg then none else (if 0 ≤ (M.1 (b + 3) (a0 : Int32).toNatClampNeg) then (J124_23 n b a0 M) else (J124_21 n b M))))
set_option maxRecDepth 100000 in
set_option maxHeartbeats 4000000 in
theorem F124_ev (sc : Option (Nat × (Nat → Int32))) (n : Nat) (b : Nat) (a0 : Int32) (hb : isD b) (M : Mem) (e : Nat) (he : 1 ≤ e) (r : Int32) (M' : Mem) (h : F124 n b a0 M = some (r, M')) : pm_ev pmT sc e 124 false (0, [some (.ref b), some (.int a0), none], [], 129, 17845, hp M) (some (.int r), 129, 17845, hp M') := by
  unfold F124 at h
  refine pe_blk mm_124 1 (s' := (1, [some (.ref b), some (.int a0), none], [.int a0], _, _, _)) rfl ?_
  by_cases q1 : a0 < 0
  · rw [if_pos q1] at h
    refine pe_blk mm_124 1 (s' := (if a0 < 0 then 21 else 4, [some (.ref b), some (.int a0), none], [], _, _, _)) rfl ?_
    rw [if_pos q1]
    exact J124_21_ev sc n b hb e he _ _ _ _ _ _ h
  · rw [if_neg q1] at h
    refine pe_blk mm_124 1 (s' := (if a0 < 0 then 21 else 4, [some (.ref b), some (.int a0), none], [], _, _, _)) rfl ?_
    rw [if_neg q1]
    refine pe_blk mm_124 2 (s' := (6, [some (.ref b), some (.int a0), none], [.ref b, .int a0], _, _, _)) rfl ?_
    refine pe_get mm_124 rfl rfl (isD_0 hb _) (by have := isD_lt hb; omega) rfl ?_
    by_cases q2 : (M.1 b 6) ≤ a0
    · rw [if_pos q2] at h
      refine pe_blk mm_124 1 (s' := (if (M.1 b 6) ≤ a0 then 21 else 12, [some (.ref b), some (.int a0), none], [], _, _, _)) rfl ?_
      rw [if_pos q2]
      exact J124_21_ev sc n b hb e he _ _ _ _ _ _ h
    · rw [if_neg q2] at h
      refine pe_blk mm_124 1 (s' := (if (M.1 b 6) ≤ a0 then 21 else 12, [some (.ref b), some (.int a0), none], [], _, _, _)) rfl ?_
      rw [if_neg q2]
      refine pe_blk mm_124 1 (s' := (13, [some (.ref b), some (.int a0), none], [.ref b], _, _, _)) rfl ?_
      refine pe_get mm_124 rfl rfl (isD_0 hb _) (by have := isD_lt hb; omega) rfl ?_
      refine pe_blk mm_124 1 (s' := (17, [some (.ref b), some (.int a0), none], [.int a0, .ref (b + 3)], _, _, _)) rfl ?_
      by_cases q3 : a0 < 0 ∨ 120 ≤ (a0 : Int32).toNatClampNeg
      · rw [if_pos q3] at h
        cases h
      · rw [if_neg q3] at h
        refine pe_iald (f := M.1 (b + 3)) mm_124 rfl (isD_3 hb _) (by have := isD_lt hb; omega) q3 ?_
        by_cases q4 : 0 ≤ (M.1 (b + 3) (a0 : Int32).toNatClampNeg)
        · rw [if_pos q4] at h
          refine pe_blk mm_124 1 (s' := (if 0 ≤ (M.1 (b + 3) (a0 : Int32).toNatClampNeg) then 23 else 21, [some (.ref b), some (.int a0), none], [], _, _, _)) rfl ?_
          rw [if_pos q4]
          exact J124_23_ev sc n b hb e he a0 _ _ _ _ h
        · rw [if_neg q4] at h
          refine pe_blk mm_124 1 (s' := (if 0 ≤ (M.1 (b + 3) (a0 : Int32).toNatClampNeg) then 23 else 21, [some (.ref b), some (.int a0), none], [], _, _, _)) rfl ?_
          rw [if_neg q4]
          exact J124_21_ev sc n b hb e he _ _ _ _ _ _ h
def J125_12 (n : Nat) (b : Nat) (M : Mem) : Option (Int32 × Mem) :=
  some ((-1), M)
set_option maxRecDepth 100000 in
set_option maxHeartbeats 4000000 in
theorem J125_12_ev (sc : Option (Nat × (Nat → Int32))) (n : Nat) (b : Nat) (hb : isD b) (e : Nat) (he : 1 ≤ e) : ∀ (u0 : Option Value) (u1 : Option Value) (u2 : Option Value) (u3 : Option Value) (u4 : Option Value) (M : Mem) (r : Int32) (M' : Mem), J125_12 n b  M = some (r, M') → pm_ev pmT sc e 125 false (12, [u0, u1, u2, u3, u4], [], 129, 17845, hp M) (some (.int r), 129, 17845, hp M') := by
  intro u0 u1 u2 u3 u4 M r M' h
  unfold J125_12 at h
  refine pe_blk mm_125 1 (s' := (13, [u0, u1, u2, u3, u4], [.int (-1)], _, _, _)) rfl ?_
  cases h
  exact pe_ret mm_125 rfl rfl
def J125_85 (n : Nat) (b : Nat) (M : Mem) : Option (Int32 × Mem) :=
  some ((-1), M)
set_option maxRecDepth 100000 in
set_option maxHeartbeats 4000000 in
theorem J125_85_ev (sc : Option (Nat × (Nat → Int32))) (n : Nat) (b : Nat) (hb : isD b) (e : Nat) (he : 1 ≤ e) : ∀ (u0 : Option Value) (u1 : Option Value) (u2 : Option Value) (u3 : Option Value) (u4 : Option Value) (M : Mem) (r : Int32) (M' : Mem), J125_85 n b  M = some (r, M') → pm_ev pmT sc e 125 false (85, [u0, u1, u2, u3, u4], [], 129, 17845, hp M) (some (.int r), 129, 17845, hp M') := by
  intro u0 u1 u2 u3 u4 M r M' h
  unfold J125_85 at h
  refine pe_blk mm_125 1 (s' := (86, [u0, u1, u2, u3, u4], [.int (-1)], _, _, _)) rfl ?_
  cases h
  exact pe_ret mm_125 rfl rfl
def J125_79 (n : Nat) (b : Nat) (rec34 : Int32 → Int32 → Int32 → Mem → Option (Int32 × Mem)) (x2 : Int32) (x3 : Int32) (x4 : Int32) (M : Mem) : Option (Int32 × Mem) :=
  rec34 x2 x3 (x4 + 1) M
set_option maxRecDepth 100000 in
set_option maxHeartbeats 4000000 in
theorem J125_79_ev (sc : Option (Nat × (Nat → Int32))) (n : Nat) (b : Nat) (hb : isD b) (e : Nat) (he : 1 ≤ e) (rec34 : Int32 → Int32 → Int32 → Mem → Option (Int32 × Mem)) (hr34 : ∀ (x2 : Int32) (x3 : Int32) (x4 : Int32) (u1 : Option Value) (M : Mem) (r : Int32) (M' : Mem), rec34 x2 x3 x4 M = some (r, M') → pm_ev pmT sc e 125 false (34, [some (.ref b), u1, some (.int x2), some (.int x3), some (.int x4)], [], 129, 17845, hp M) (some (.int r), 129, 17845, hp M')) : ∀ (x2 : Int32) (x3 : Int32) (x4 : Int32) (u1 : Option Value) (M : Mem) (r : Int32) (M' : Mem), J125_79 n b rec34 x2 x3 x4 M = some (r, M') → pm_ev pmT sc e 125 false (79, [some (.ref b), u1, some (.int x2), some (.int x3), some (.int x4)], [], 129, 17845, hp M) (some (.int r), 129, 17845, hp M') := by
  intro x2 x3 x4 u1 M r M' h
  unfold J125_79 at h
  refine pe_blk mm_125 2 (s' := (34, [some (.ref b), u1, some (.int x2), some (.int x3), some (.int (x4 + 1))], [], _, _, _)) rfl ?_
  exact hr34 x2 x3 (x4 + 1) _ _ _ _ h
def J125_63 (n : Nat) (b : Nat) (rec34 : Int32 → Int32 → Int32 → Mem → Option (Int32 × Mem)) (x2 : Int32) (x3 : Int32) (x4 : Int32) (M : Mem) : Option (Int32 × Mem) :=
  if (x4 + 1) < 0 ∨ 120 ≤ (x4 + 1 : Int32).toNatClampNeg then none else (if (M.1 (b + 1) (x4 + 1 : Int32).toNatClampNeg) = x2 then (some (x4, M)) else (J125_79 n b rec34 x2 x3 x4 M))
set_option maxRecDepth 100000 in
set_option maxHeartbeats 4000000 in
theorem J125_63_ev (sc : Option (Nat × (Nat → Int32))) (n : Nat) (b : Nat) (hb : isD b) (e : Nat) (he : 1 ≤ e) (rec34 : Int32 → Int32 → Int32 → Mem → Option (Int32 × Mem)) (hr34 : ∀ (x2 : Int32) (x3 : Int32) (x4 : Int32) (u1 : Option Value) (M : Mem) (r : Int32) (M' : Mem), rec34 x2 x3 x4 M = some (r, M') → pm_ev pmT sc e 125 false (34, [some (.ref b), u1, some (.int x2), some (.int x3), some (.int x4)], [], 129, 17845, hp M) (some (.int r), 129, 17845, hp M')) : ∀ (x2 : Int32) (x3 : Int32) (x4 : Int32) (u1 : Option Value) (M : Mem) (r : Int32) (M' : Mem), J125_63 n b rec34 x2 x3 x4 M = some (r, M') → pm_ev pmT sc e 125 false (63, [some (.ref b), u1, some (.int x2), some (.int x3), some (.int x4)], [], 129, 17845, hp M) (some (.int r), 129, 17845, hp M') := by
  intro x2 x3 x4 u1 M r M' h
  unfold J125_63 at h
  refine pe_blk mm_125 1 (s' := (64, [some (.ref b), u1, some (.int x2), some (.int x3), some (.int x4)], [.ref b], _, _, _)) rfl ?_
  refine pe_get mm_125 rfl rfl (isD_0 hb _) (by have := isD_lt hb; omega) rfl ?_
  refine pe_blk mm_125 3 (s' := (71, [some (.ref b), u1, some (.int x2), some (.int x3), some (.int x4)], [.int (x4 + 1), .ref (b + 1)], _, _, _)) rfl ?_
  by_cases q10 : (x4 + 1) < 0 ∨ 120 ≤ (x4 + 1 : Int32).toNatClampNeg
  · rw [if_pos q10] at h
    cases h
  · rw [if_neg q10] at h
    refine pe_iald (f := M.1 (b + 1)) mm_125 rfl (isD_1 hb _) (by have := isD_lt hb; omega) q10 ?_
    refine pe_blk mm_125 1 (s' := (73, [some (.ref b), u1, some (.int x2), some (.int x3), some (.int x4)], [.int x2, .int (M.1 (b + 1) (x4 + 1 : Int32).toNatClampNeg)], _, _, _)) rfl ?_
    by_cases q11 : (M.1 (b + 1) (x4 + 1 : Int32).toNatClampNeg) = x2
    · rw [if_pos q11] at h
      refine pe_blk mm_125 1 (s' := (if (M.1 (b + 1) (x4 + 1 : Int32).toNatClampNeg) = x2 then 76 else 79, [some (.ref b), u1, some (.int x2), some (.int x3), some (.int x4)], [], _, _, _)) rfl ?_
      rw [if_pos q11]
      refine pe_blk mm_125 1 (s' := (78, [some (.ref b), u1, some (.int x2), some (.int x3), some (.int x4)], [.int x4], _, _, _)) rfl ?_
      cases h
      exact pe_ret mm_125 rfl rfl
    · rw [if_neg q11] at h
      refine pe_blk mm_125 1 (s' := (if (M.1 (b + 1) (x4 + 1 : Int32).toNatClampNeg) = x2 then 76 else 79, [some (.ref b), u1, some (.int x2), some (.int x3), some (.int x4)], [], _, _, _)) rfl ?_
      rw [if_neg q11]
      exact J125_79_ev sc n b hb e he rec34 hr34 x2 x3 x4 _ _ _ _ h
def L125_34 (n : Nat) (b : Nat) : Nat → Int32 → Int32 → Int32 → Mem → Option (Int32 × Mem)
  | 0, _, _, _, _ => none
  | k + 1, x2, x3, x4, M => if x3 ≤ x4 then (J125_85 n b M) else (if (M.1 b 6) ≤ (x4 + 1) then (J125_85 n b M) else (if x4 < 0 ∨ 120 ≤ (x4 : Int32).toNatClampNeg then none else (if (M.1 (b + 1) (x4 : Int32).toNatClampNeg) = 36 then (J125_63 n b (L125_34 n b k) x2 x3 x4 M) else (J125_79 n b (L125_34 n b k) x2 x3 x4 M))))
set_option maxRecDepth 100000 in
set_option maxHeartbeats 4000000 in
theorem L125_34_ev (sc : Option (Nat × (Nat → Int32))) (n : Nat) (b : Nat) (hb : isD b) (e : Nat) (he : 1 ≤ e) : ∀ k : Nat, ∀ (x2 : Int32) (x3 : Int32) (x4 : Int32) (u1 : Option Value) (M : Mem) (r : Int32) (M' : Mem), L125_34 n b k x2 x3 x4 M = some (r, M') → pm_ev pmT sc e 125 false (34, [some (.ref b), u1, some (.int x2), some (.int x3), some (.int x4)], [], 129, 17845, hp M) (some (.int r), 129, 17845, hp M') := by
  intro k
  induction k with
  | zero => intro x2 x3 x4 u1 M r M' h; cases h
  | succ k hr34 =>
    intro x2 x3 x4 u1 M r M' h
    rw [L125_34] at h
    refine pe_blk mm_125 2 (s' := (37, [some (.ref b), u1, some (.int x2), some (.int x3), some (.int x4)], [.int x3, .int x4], _, _, _)) rfl ?_
    by_cases q6 : x3 ≤ x4
    · rw [if_pos q6] at h
      refine pe_blk mm_125 1 (s' := (if x3 ≤ x4 then 85 else 40, [some (.ref b), u1, some (.int x2), some (.int x3), some (.int x4)], [], _, _, _)) rfl ?_
      rw [if_pos q6]
      exact J125_85_ev sc n b hb e he _ _ _ _ _ _ _ _ h
    · rw [if_neg q6] at h
      refine pe_blk mm_125 1 (s' := (if x3 ≤ x4 then 85 else 40, [some (.ref b), u1, some (.int x2), some (.int x3), some (.int x4)], [], _, _, _)) rfl ?_
      rw [if_neg q6]
      refine pe_blk mm_125 4 (s' := (45, [some (.ref b), u1, some (.int x2), some (.int x3), some (.int x4)], [.ref b, .int (x4 + 1)], _, _, _)) rfl ?_
      refine pe_get mm_125 rfl rfl (isD_0 hb _) (by have := isD_lt hb; omega) rfl ?_
      by_cases q7 : (M.1 b 6) ≤ (x4 + 1)
      · rw [if_pos q7] at h
        refine pe_blk mm_125 1 (s' := (if (M.1 b 6) ≤ (x4 + 1) then 85 else 51, [some (.ref b), u1, some (.int x2), some (.int x3), some (.int x4)], [], _, _, _)) rfl ?_
        rw [if_pos q7]
        exact J125_85_ev sc n b hb e he _ _ _ _ _ _ _ _ h
      · rw [if_neg q7] at h
        refine pe_blk mm_125 1 (s' := (if (M.1 b 6) ≤ (x4 + 1) then 85 else 51, [some (.ref b), u1, some (.int x2), some (.int x3), some (.int x4)], [], _, _, _)) rfl ?_
        rw [if_neg q7]
        refine pe_blk mm_125 1 (s' := (52, [some (.ref b), u1, some (.int x2), some (.int x3), some (.int x4)], [.ref b], _, _, _)) rfl ?_
        refine pe_get mm_125 rfl rfl (isD_0 hb _) (by have := isD_lt hb; omega) rfl ?_
        refine pe_blk mm_125 1 (s' := (57, [some (.ref b), u1, some (.int x2), some (.int x3), some (.int x4)], [.int x4, .ref (b + 1)], _, _, _)) rfl ?_
        by_cases q8 : x4 < 0 ∨ 120 ≤ (x4 : Int32).toNatClampNeg
        · rw [if_pos q8] at h
          cases h
        · rw [if_neg q8] at h
          refine pe_iald (f := M.1 (b + 1)) mm_125 rfl (isD_1 hb _) (by have := isD_lt hb; omega) q8 ?_
          refine pe_blk mm_125 1 (s' := (60, [some (.ref b), u1, some (.int x2), some (.int x3), some (.int x4)], [.int 36, .int (M.1 (b + 1) (x4 : Int32).toNatClampNeg)], _, _, _)) rfl ?_
          by_cases q9 : (M.1 (b + 1) (x4 : Int32).toNatClampNeg) = 36
          · rw [if_pos q9] at h
            refine pe_blk mm_125 1 (s' := (if (M.1 (b + 1) (x4 : Int32).toNatClampNeg) = 36 then 63 else 79, [some (.ref b), u1, some (.int x2), some (.int x3), some (.int x4)], [], _, _, _)) rfl ?_
            rw [if_pos q9]
            exact J125_63_ev sc n b hb e he (L125_34 n b k) hr34 x2 x3 x4 _ _ _ _ h
          · rw [if_neg q9] at h
            refine pe_blk mm_125 1 (s' := (if (M.1 (b + 1) (x4 : Int32).toNatClampNeg) = 36 then 63 else 79, [some (.ref b), u1, some (.int x2), some (.int x3), some (.int x4)], [], _, _, _)) rfl ?_
            rw [if_neg q9]
            exact J125_79_ev sc n b hb e he (L125_34 n b k) hr34 x2 x3 x4 _ _ _ _ h
def J125_26 (n : Nat) (b : Nat) (x1 : Int32) (x2 : Int32) (x3 : Int32) (M : Mem) : Option (Int32 × Mem) :=
  if x1 < 0 ∨ 3 ≤ (x1 : Int32).toNatClampNeg then none else (L125_34 n b n x2 x3 (M.1 (b + 6) (x1 : Int32).toNatClampNeg) M)
set_option maxRecDepth 100000 in
set_option maxHeartbeats 4000000 in
theorem J125_26_ev (sc : Option (Nat × (Nat → Int32))) (n : Nat) (b : Nat) (hb : isD b) (e : Nat) (he : 1 ≤ e) : ∀ (x1 : Int32) (x2 : Int32) (x3 : Int32) (u4 : Option Value) (M : Mem) (r : Int32) (M' : Mem), J125_26 n b x1 x2 x3 M = some (r, M') → pm_ev pmT sc e 125 false (26, [some (.ref b), some (.int x1), some (.int x2), some (.int x3), u4], [], 129, 17845, hp M) (some (.int r), 129, 17845, hp M') := by
  intro x1 x2 x3 u4 M r M' h
  unfold J125_26 at h
  refine pe_blk mm_125 1 (s' := (27, [some (.ref b), some (.int x1), some (.int x2), some (.int x3), u4], [.ref b], _, _, _)) rfl ?_
  refine pe_get mm_125 rfl rfl (isD_0 hb _) (by have := isD_lt hb; omega) rfl ?_
  refine pe_blk mm_125 1 (s' := (31, [some (.ref b), some (.int x1), some (.int x2), some (.int x3), u4], [.int x1, .ref (b + 6)], _, _, _)) rfl ?_
  by_cases q5 : x1 < 0 ∨ 3 ≤ (x1 : Int32).toNatClampNeg
  · rw [if_pos q5] at h
    cases h
  · rw [if_neg q5] at h
    refine pe_iald (f := M.1 (b + 6)) mm_125 rfl (isD_6 hb _) (by have := isD_lt hb; omega) q5 ?_
    refine pe_blk mm_125 1 (s' := (34, [some (.ref b), some (.int x1), some (.int x2), some (.int x3), some (.int (M.1 (b + 6) (x1 : Int32).toNatClampNeg))], [], _, _, _)) rfl ?_
    exact L125_34_ev sc n b hb e he n x2 x3 (M.1 (b + 6) (x1 : Int32).toNatClampNeg) _ _ _ _ h
/-- ArmExpander$Definition.fragmentOf -/
def F125 (n : Nat) (b : Nat) (a0 : Int32) (a1 : Int32) (M : Mem) : Option (Int32 × Mem) :=
  if a0 < 0 then (J125_12 n b M) else (if a0 < (M.1 b 7) then (if a0 < 0 ∨ 3 ≤ (a0 : Int32).toNatClampNeg then none else (if (M.1 (b + 6) (a0 : Int32).toNatClampNeg) < 0 ∨ 120 ≤ (M.1 (b + 6) (a0 : Int32).toNatClampNeg : Int32).toNatClampNeg then none else (J125_26 n b a0 a1 (M.1 (b + 2) (M.1 (b + 6) (a0 : Int32).toNatClampNeg : Int32).toNatClampNeg) M))) else (J125_12 n b M))
set_option maxRecDepth 100000 in
set_option maxHeartbeats 4000000 in
theorem F125_ev (sc : Option (Nat × (Nat → Int32))) (n : Nat) (b : Nat) (a0 : Int32) (a1 : Int32) (hb : isD b) (M : Mem) (e : Nat) (he : 1 ≤ e) (r : Int32) (M' : Mem) (h : F125 n b a0 a1 M = some (r, M')) : pm_ev pmT sc e 125 false (0, [some (.ref b), some (.int a0), some (.int a1), none, none], [], 129, 17845, hp M) (some (.int r), 129, 17845, hp M') := by
  unfold F125 at h
  refine pe_blk mm_125 1 (s' := (1, [some (.ref b), some (.int a0), some (.int a1), none, none], [.int a0], _, _, _)) rfl ?_
  by_cases q1 : a0 < 0
  · rw [if_pos q1] at h
    refine pe_blk mm_125 1 (s' := (if a0 < 0 then 12 else 4, [some (.ref b), some (.int a0), some (.int a1), none, none], [], _, _, _)) rfl ?_
    rw [if_pos q1]
    exact J125_12_ev sc n b hb e he _ _ _ _ _ _ _ _ h
  · rw [if_neg q1] at h
    refine pe_blk mm_125 1 (s' := (if a0 < 0 then 12 else 4, [some (.ref b), some (.int a0), some (.int a1), none, none], [], _, _, _)) rfl ?_
    rw [if_neg q1]
    refine pe_blk mm_125 2 (s' := (6, [some (.ref b), some (.int a0), some (.int a1), none, none], [.ref b, .int a0], _, _, _)) rfl ?_
    refine pe_get mm_125 rfl rfl (isD_0 hb _) (by have := isD_lt hb; omega) rfl ?_
    by_cases q2 : a0 < (M.1 b 7)
    · rw [if_pos q2] at h
      refine pe_blk mm_125 1 (s' := (if a0 < (M.1 b 7) then 14 else 12, [some (.ref b), some (.int a0), some (.int a1), none, none], [], _, _, _)) rfl ?_
      rw [if_pos q2]
      refine pe_blk mm_125 1 (s' := (15, [some (.ref b), some (.int a0), some (.int a1), none, none], [.ref b], _, _, _)) rfl ?_
      refine pe_get mm_125 rfl rfl (isD_0 hb _) (by have := isD_lt hb; omega) rfl ?_
      refine pe_blk mm_125 1 (s' := (19, [some (.ref b), some (.int a0), some (.int a1), none, none], [.ref b, .ref (b + 2)], _, _, _)) rfl ?_
      refine pe_get mm_125 rfl rfl (isD_0 hb _) (by have := isD_lt hb; omega) rfl ?_
      refine pe_blk mm_125 1 (s' := (23, [some (.ref b), some (.int a0), some (.int a1), none, none], [.int a0, .ref (b + 6), .ref (b + 2)], _, _, _)) rfl ?_
      by_cases q3 : a0 < 0 ∨ 3 ≤ (a0 : Int32).toNatClampNeg
      · rw [if_pos q3] at h
        cases h
      · rw [if_neg q3] at h
        refine pe_iald (f := M.1 (b + 6)) mm_125 rfl (isD_6 hb _) (by have := isD_lt hb; omega) q3 ?_
        by_cases q4 : (M.1 (b + 6) (a0 : Int32).toNatClampNeg) < 0 ∨ 120 ≤ (M.1 (b + 6) (a0 : Int32).toNatClampNeg : Int32).toNatClampNeg
        · rw [if_pos q4] at h
          cases h
        · rw [if_neg q4] at h
          refine pe_iald (f := M.1 (b + 2)) mm_125 rfl (isD_2 hb _) (by have := isD_lt hb; omega) q4 ?_
          refine pe_blk mm_125 1 (s' := (26, [some (.ref b), some (.int a0), some (.int a1), some (.int (M.1 (b + 2) (M.1 (b + 6) (a0 : Int32).toNatClampNeg : Int32).toNatClampNeg)), none], [], _, _, _)) rfl ?_
          exact J125_26_ev sc n b hb e he a0 a1 (M.1 (b + 2) (M.1 (b + 6) (a0 : Int32).toNatClampNeg : Int32).toNatClampNeg) _ _ _ _ h
    · rw [if_neg q2] at h
      refine pe_blk mm_125 1 (s' := (if a0 < (M.1 b 7) then 14 else 12, [some (.ref b), some (.int a0), some (.int a1), none, none], [], _, _, _)) rfl ?_
      rw [if_neg q2]
      exact J125_12_ev sc n b hb e he _ _ _ _ _ _ _ _ h
/-- ArmExpander$DefinitionReader.acceptsIf -/
def F129 (n : Nat) (a0 : Int32) (a1 : Int32) (M : Mem) : Option (Int32 × Mem) :=
  mlet (m_i M 3 2 a1) (fun M1 => if a0 = 0 ∨ a0 = 1 then some (a0, M1) else none)
set_option maxRecDepth 100000 in
set_option maxHeartbeats 4000000 in
theorem F129_ev (sc : Option (Nat × (Nat → Int32))) (n : Nat) (a0 : Int32) (a1 : Int32)  (M : Mem) (e : Nat) (he : 1 ≤ e) (r : Int32) (M' : Mem) (h : F129 n a0 a1 M = some (r, M')) : pm_ev pmT sc e 129 false (0, [some (.ref 3), some (.int a0), some (.int a1)], [], 129, 17845, hp M) (some (.int r), 129, 17845, hp M') := by
  unfold F129 at h
  refine pe_blk mm_129 2 (s' := (2, [some (.ref 3), some (.int a0), some (.int a1)], [.int a1, .ref 3], _, _, _)) rfl ?_
  refine pe_puti mm_129 rfl rfl rfl (by decide) (Nat.le_of_ble_eq_true rfl) rfl rfl ?_
  show pm_ev _ _ _ _ _ (5, [some (.ref 3), some (.int a0), some (.int a1)], [], _, _, hp (m_i M 3 2 a1)) _
  generalize m_i M 3 2 a1 = M1 at h ⊢
  rw [mlet] at h
  refine pe_blk mm_129 1 (s' := (6, [some (.ref 3), some (.int a0), some (.int a1)], [.int a0], _, _, _)) rfl ?_
  by_cases q2 : a0 = 0 ∨ a0 = 1
  · rw [if_pos q2] at h
    cases h
    exact pe_ret mm_129 rfl (if_pos q2)
  · rw [if_neg q2] at h
    cases h
/-- ArmExpander$Expander.done -/
def F137 (n : Nat) (M : Mem) : Option (Int32 × Mem) :=
  some (M.1 12 6, M)
set_option maxRecDepth 100000 in
set_option maxHeartbeats 4000000 in
theorem F137_ev (sc : Option (Nat × (Nat → Int32))) (n : Nat)  (M : Mem) (e : Nat) (he : 1 ≤ e) (r : Int32) (M' : Mem) (h : F137 n M = some (r, M')) : pm_ev pmT sc e 137 false (0, [some (.ref 12)], [], 129, 17845, hp M) (some (.int r), 129, 17845, hp M') := by
  unfold F137 at h
  refine pe_blk mm_137 1 (s' := (1, [some (.ref 12)], [.ref 12], _, _, _)) rfl ?_
  refine pe_get mm_137 rfl rfl rfl (by decide) rfl ?_
  cases h
  exact pe_ret mm_137 rfl rfl
def J138_25 (n : Nat) (s0 : Int32) (M : Mem) : Option (Int32 × Mem) :=
  some (s0, M)
set_option maxRecDepth 100000 in
set_option maxHeartbeats 4000000 in
theorem J138_25_ev (sc : Option (Nat × (Nat → Int32))) (n : Nat)  (e : Nat) (he : 1 ≤ e) : ∀ (s0 : Int32) (u0 : Option Value) (u1 : Option Value) (M : Mem) (r : Int32) (M' : Mem), J138_25 n s0 M = some (r, M') → pm_ev pmT sc e 138 false (25, [u0, u1], [.int s0], 129, 17845, hp M) (some (.int r), 129, 17845, hp M') := by
  intro s0 u0 u1 M r M' h
  unfold J138_25 at h
  cases h
  exact pe_ret mm_138 rfl rfl
def J138_24 (n : Nat) (M : Mem) : Option (Int32 × Mem) :=
  J138_25 n (-1) M
set_option maxRecDepth 100000 in
set_option maxHeartbeats 4000000 in
theorem J138_24_ev (sc : Option (Nat × (Nat → Int32))) (n : Nat)  (e : Nat) (he : 1 ≤ e) : ∀ (u0 : Option Value) (u1 : Option Value) (M : Mem) (r : Int32) (M' : Mem), J138_24 n  M = some (r, M') → pm_ev pmT sc e 138 false (24, [u0, u1], [], 129, 17845, hp M) (some (.int r), 129, 17845, hp M') := by
  intro u0 u1 M r M' h
  unfold J138_24 at h
  refine pe_blk mm_138 1 (s' := (25, [u0, u1], [.int (-1)], _, _, _)) rfl ?_
  exact J138_25_ev sc n e he (-1) _ _ _ _ _ h
/-- ArmExpander$Expander.armOf -/
def F138 (n : Nat) (a0 : Int32) (M : Mem) : Option (Int32 × Mem) :=
  if a0 < 1 then (J138_24 n M) else (if (M.1 12 6) < a0 then (J138_24 n M) else (if (a0 - 1) < 0 ∨ 10 ≤ (a0 - 1 : Int32).toNatClampNeg then none else (J138_25 n (M.1 33 (a0 - 1 : Int32).toNatClampNeg) M)))
set_option maxRecDepth 100000 in
set_option maxHeartbeats 4000000 in
theorem F138_ev (sc : Option (Nat × (Nat → Int32))) (n : Nat) (a0 : Int32)  (M : Mem) (e : Nat) (he : 1 ≤ e) (r : Int32) (M' : Mem) (h : F138 n a0 M = some (r, M')) : pm_ev pmT sc e 138 false (0, [some (.ref 12), some (.int a0)], [], 129, 17845, hp M) (some (.int r), 129, 17845, hp M') := by
  unfold F138 at h
  refine pe_blk mm_138 2 (s' := (2, [some (.ref 12), some (.int a0)], [.int 1, .int a0], _, _, _)) rfl ?_
  by_cases q1 : a0 < 1
  · rw [if_pos q1] at h
    refine pe_blk mm_138 1 (s' := (if a0 < 1 then 24 else 5, [some (.ref 12), some (.int a0)], [], _, _, _)) rfl ?_
    rw [if_pos q1]
    exact J138_24_ev sc n e he _ _ _ _ _ h
  · rw [if_neg q1] at h
    refine pe_blk mm_138 1 (s' := (if a0 < 1 then 24 else 5, [some (.ref 12), some (.int a0)], [], _, _, _)) rfl ?_
    rw [if_neg q1]
    refine pe_blk mm_138 2 (s' := (7, [some (.ref 12), some (.int a0)], [.ref 12, .int a0], _, _, _)) rfl ?_
    refine pe_get mm_138 rfl rfl rfl (by decide) rfl ?_
    by_cases q2 : (M.1 12 6) < a0
    · rw [if_pos q2] at h
      refine pe_blk mm_138 1 (s' := (if (M.1 12 6) < a0 then 24 else 13, [some (.ref 12), some (.int a0)], [], _, _, _)) rfl ?_
      rw [if_pos q2]
      exact J138_24_ev sc n e he _ _ _ _ _ h
    · rw [if_neg q2] at h
      refine pe_blk mm_138 1 (s' := (if (M.1 12 6) < a0 then 24 else 13, [some (.ref 12), some (.int a0)], [], _, _, _)) rfl ?_
      rw [if_neg q2]
      refine pe_blk mm_138 1 (s' := (14, [some (.ref 12), some (.int a0)], [.ref 12], _, _, _)) rfl ?_
      refine pe_get mm_138 rfl rfl rfl (by decide) rfl ?_
      refine pe_blk mm_138 3 (s' := (20, [some (.ref 12), some (.int a0)], [.int (a0 - 1), .ref 33], _, _, _)) rfl ?_
      by_cases q3 : (a0 - 1) < 0 ∨ 10 ≤ (a0 - 1 : Int32).toNatClampNeg
      · rw [if_pos q3] at h
        cases h
      · rw [if_neg q3] at h
        refine pe_iald (f := M.1 33) mm_138 rfl rfl (by decide) q3 ?_
        refine pe_blk mm_138 1 (s' := (25, [some (.ref 12), some (.int a0)], [.int (M.1 33 (a0 - 1 : Int32).toNatClampNeg)], _, _, _)) rfl ?_
        exact J138_25_ev sc n e he (M.1 33 (a0 - 1 : Int32).toNatClampNeg) _ _ _ _ _ h
/-- ArmExpander$Nesting.clear -/
def F160 (n : Nat) (b : Nat) (M : Mem) : Option (Unit × Mem) :=
  mlet (m_i M b 2 0) (fun M1 => some ((), M1))
set_option maxRecDepth 100000 in
set_option maxHeartbeats 4000000 in
theorem F160_ev (sc : Option (Nat × (Nat → Int32))) (n : Nat) (b : Nat) (hb : isN b) (M : Mem) (e : Nat) (he : 1 ≤ e) (r : Unit) (M' : Mem) (h : F160 n b M = some (r, M')) : pm_ev pmT sc e 160 false (0, [some (.ref b)], [], 129, 17845, hp M) (none, 129, 17845, hp M') := by
  unfold F160 at h
  refine pe_blk mm_160 2 (s' := (2, [some (.ref b)], [.int 0, .ref b], _, _, _)) rfl ?_
  refine pe_puti mm_160 rfl rfl (isN_0 hb _) (by have := isN_lt hb; omega) (Nat.le_of_ble_eq_true rfl) rfl ((isN_0 hb _).trans (by simp [m_i, upd])) ?_
  show pm_ev _ _ _ _ _ (5, [some (.ref b)], [], _, _, hp (m_i M b 2 0)) _
  generalize m_i M b 2 0 = M1 at h ⊢
  rw [mlet] at h
  cases h
  exact pe_ret mm_160 rfl rfl
def J161_12 (n : Nat) (b : Nat) (s0 : Int32) (M : Mem) : Option (Int32 × Mem) :=
  if s0 = 0 ∨ s0 = 1 then some (s0, M) else none
set_option maxRecDepth 100000 in
set_option maxHeartbeats 4000000 in
theorem J161_12_ev (sc : Option (Nat × (Nat → Int32))) (n : Nat) (b : Nat) (hb : isN b) (e : Nat) (he : 1 ≤ e) : ∀ (s0 : Int32) (u0 : Option Value) (M : Mem) (r : Int32) (M' : Mem), J161_12 n b s0 M = some (r, M') → pm_ev pmT sc e 161 false (12, [u0], [.int s0], 129, 17845, hp M) (some (.int r), 129, 17845, hp M') := by
  intro s0 u0 M r M' h
  unfold J161_12 at h
  by_cases q2 : s0 = 0 ∨ s0 = 1
  · rw [if_pos q2] at h
    cases h
    exact pe_ret mm_161 rfl (if_pos q2)
  · rw [if_neg q2] at h
    cases h
/-- ArmExpander$Nesting.isEmpty -/
def F161 (n : Nat) (b : Nat) (M : Mem) : Option (Int32 × Mem) :=
  if (M.1 b 2) = 0 then (J161_12 n b 1 M) else (J161_12 n b 0 M)
set_option maxRecDepth 100000 in
set_option maxHeartbeats 4000000 in
theorem F161_ev (sc : Option (Nat × (Nat → Int32))) (n : Nat) (b : Nat) (hb : isN b) (M : Mem) (e : Nat) (he : 1 ≤ e) (r : Int32) (M' : Mem) (h : F161 n b M = some (r, M')) : pm_ev pmT sc e 161 false (0, [some (.ref b)], [], 129, 17845, hp M) (some (.int r), 129, 17845, hp M') := by
  unfold F161 at h
  refine pe_blk mm_161 1 (s' := (1, [some (.ref b)], [.ref b], _, _, _)) rfl ?_
  refine pe_get mm_161 rfl rfl (isN_0 hb _) (by have := isN_lt hb; omega) rfl ?_
  by_cases q1 : (M.1 b 2) = 0
  · rw [if_pos q1] at h
    refine pe_blk mm_161 1 (s' := (if (M.1 b 2) = 0 then 7 else 11, [some (.ref b)], [], _, _, _)) rfl ?_
    rw [if_pos q1]
    refine pe_blk mm_161 2 (s' := (12, [some (.ref b)], [.int 1], _, _, _)) rfl ?_
    exact J161_12_ev sc n b hb e he 1 _ _ _ _ h
  · rw [if_neg q1] at h
    refine pe_blk mm_161 1 (s' := (if (M.1 b 2) = 0 then 7 else 11, [some (.ref b)], [], _, _, _)) rfl ?_
    rw [if_neg q1]
    refine pe_blk mm_161 1 (s' := (12, [some (.ref b)], [.int 0], _, _, _)) rfl ?_
    exact J161_12_ev sc n b hb e he 0 _ _ _ _ h
def J162_34 (n : Nat) (b : Nat) (M : Mem) : Option (Int32 × Mem) :=
  mlet (m_i M b 2 ((M.1 b 2) + 1)) (fun M9 => some (1, M9))
set_option maxRecDepth 100000 in
set_option maxHeartbeats 4000000 in
theorem J162_34_ev (sc : Option (Nat × (Nat → Int32))) (n : Nat) (b : Nat) (hb : isN b) (e : Nat) (he : 2 ≤ e) : ∀ (u1 : Option Value) (u2 : Option Value) (M : Mem) (r : Int32) (M' : Mem), J162_34 n b  M = some (r, M') → pm_ev pmT sc e 162 false (34, [some (.ref b), u1, u2], [], 129, 17845, hp M) (some (.int r), 129, 17845, hp M') := by
  intro u1 u2 M r M' h
  unfold J162_34 at h
  refine pe_blk mm_162 2 (s' := (36, [some (.ref b), u1, u2], [.ref b, .ref b], _, _, _)) rfl ?_
  refine pe_get mm_162 rfl rfl (isN_0 hb _) (by have := isN_lt hb; omega) rfl ?_
  refine pe_blk mm_162 2 (s' := (41, [some (.ref b), u1, u2], [.int ((M.1 b 2) + 1), .ref b], _, _, _)) rfl ?_
  refine pe_puti mm_162 rfl rfl (isN_0 hb _) (by have := isN_lt hb; omega) (Nat.le_of_ble_eq_true rfl) rfl ((isN_0 hb _).trans (by simp [m_i, upd])) ?_
  show pm_ev _ _ _ _ _ (44, [some (.ref b), u1, u2], [], _, _, hp (m_i M b 2 ((M.1 b 2) + 1))) _
  generalize m_i M b 2 ((M.1 b 2) + 1) = M9 at h ⊢
  rw [mlet] at h
  refine pe_blk mm_162 1 (s' := (45, [some (.ref b), u1, u2], [.int 1], _, _, _)) rfl ?_
  cases h
  exact pe_ret mm_162 rfl rfl
def J162_21 (n : Nat) (b : Nat) (x2 : Int32) (M : Mem) : Option (Int32 × Mem) :=
  match F17 n x2 M with | some (v4, M5) => (if (M.1 b 2) < 0 ∨ 10 ≤ (M.1 b 2 : Int32).toNatClampNeg then none else (mlet (m_i M5 (b + 2) (M.1 b 2 : Int32).toNatClampNeg v4) (fun M8 => J162_34 n b M8))) | none => none
set_option maxRecDepth 100000 in
set_option maxHeartbeats 4000000 in
theorem J162_21_ev (sc : Option (Nat × (Nat → Int32))) (n : Nat) (b : Nat) (hb : isN b) (e : Nat) (he : 2 ≤ e) : ∀ (x2 : Int32) (u1 : Option Value) (M : Mem) (r : Int32) (M' : Mem), J162_21 n b x2 M = some (r, M') → pm_ev pmT sc e 162 false (21, [some (.ref b), u1, some (.int x2)], [], 129, 17845, hp M) (some (.int r), 129, 17845, hp M') := by
  intro x2 u1 M r M' h
  unfold J162_21 at h
  refine pe_blk mm_162 1 (s' := (22, [some (.ref b), u1, some (.int x2)], [.ref b], _, _, _)) rfl ?_
  refine pe_get mm_162 rfl rfl (isN_0 hb _) (by have := isN_lt hb; omega) rfl ?_
  refine pe_blk mm_162 1 (s' := (26, [some (.ref b), u1, some (.int x2)], [.ref b, .ref (b + 2)], _, _, _)) rfl ?_
  refine pe_get mm_162 rfl rfl (isN_0 hb _) (by have := isN_lt hb; omega) rfl ?_
  refine pe_blk mm_162 1 (s' := (30, [some (.ref b), u1, some (.int x2)], [.int x2, .int (M.1 b 2), .ref (b + 2)], _, _, _)) rfl ?_
  obtain ⟨e1, rfl⟩ : ∃ e1, e = e1 + 1 := ⟨e - 1, by omega⟩
  cases hc6 : F17 n x2 M with
  | none => rw [hc6] at h; cases h
  | some w =>
    obtain ⟨v4, M5⟩ := w
    rw [hc6] at h
    dsimp only at h
    refine pe_stat (al := [.int x2]) (L0 := [some (.int x2)]) (r1 := (some (.int v4), 129, 17845, hp M5)) mm_162 rfl rfl rfl mm_17 rfl (Nat.le_of_ble_eq_true rfl) (Nat.le_of_ble_eq_true rfl) rfl rfl (F17_ev sc n x2 _ e1 (by omega) _ _ hc6) ?_
    show pm_ev _ _ _ _ _ (33, [some (.ref b), u1, some (.int x2)], [.int v4, .int (M.1 b 2), .ref (b + 2)], _, _, _) _
    by_cases q7 : (M.1 b 2) < 0 ∨ 10 ≤ (M.1 b 2 : Int32).toNatClampNeg
    · rw [if_pos q7] at h
      cases h
    · rw [if_neg q7] at h
      refine pe_iasti mm_162 rfl (isN_2 hb _) (by have := isN_lt hb; omega) q7 ((isN_2 hb _).trans (by simp [m_i])) ?_
      show pm_ev _ _ _ _ _ (34, [some (.ref b), u1, some (.int x2)], [], _, _, hp (m_i M5 (b + 2) (M.1 b 2 : Int32).toNatClampNeg v4)) _
      generalize m_i M5 (b + 2) (M.1 b 2 : Int32).toNatClampNeg v4 = M8 at h ⊢
      rw [mlet] at h
      exact J162_34_ev sc n b hb (e1 + 1) he _ _ _ _ _ h
/-- ArmExpander$Nesting.open -/
def F162 (n : Nat) (b : Nat) (a0 : Int32) (a1 : Int32) (M : Mem) : Option (Int32 × Mem) :=
  if (M.1 b 2) < 10 then (if (M.1 b 2) < 0 ∨ 10 ≤ (M.1 b 2 : Int32).toNatClampNeg then none else (mlet (m_i M (b + 1) (M.1 b 2 : Int32).toNatClampNeg a0) (fun M3 => J162_21 n b a1 M3))) else (some (0, M))
set_option maxRecDepth 100000 in
set_option maxHeartbeats 4000000 in
theorem F162_ev (sc : Option (Nat × (Nat → Int32))) (n : Nat) (b : Nat) (a0 : Int32) (a1 : Int32) (hb : isN b) (M : Mem) (e : Nat) (he : 2 ≤ e) (r : Int32) (M' : Mem) (h : F162 n b a0 a1 M = some (r, M')) : pm_ev pmT sc e 162 false (0, [some (.ref b), some (.int a0), some (.int a1)], [], 129, 17845, hp M) (some (.int r), 129, 17845, hp M') := by
  unfold F162 at h
  refine pe_blk mm_162 1 (s' := (1, [some (.ref b), some (.int a0), some (.int a1)], [.ref b], _, _, _)) rfl ?_
  refine pe_get mm_162 rfl rfl (isN_0 hb _) (by have := isN_lt hb; omega) rfl ?_
  refine pe_blk mm_162 1 (s' := (6, [some (.ref b), some (.int a0), some (.int a1)], [.int 10, .int (M.1 b 2)], _, _, _)) rfl ?_
  by_cases q1 : (M.1 b 2) < 10
  · rw [if_pos q1] at h
    refine pe_blk mm_162 1 (s' := (if (M.1 b 2) < 10 then 11 else 9, [some (.ref b), some (.int a0), some (.int a1)], [], _, _, _)) rfl ?_
    rw [if_pos q1]
    refine pe_blk mm_162 1 (s' := (12, [some (.ref b), some (.int a0), some (.int a1)], [.ref b], _, _, _)) rfl ?_
    refine pe_get mm_162 rfl rfl (isN_0 hb _) (by have := isN_lt hb; omega) rfl ?_
    refine pe_blk mm_162 1 (s' := (16, [some (.ref b), some (.int a0), some (.int a1)], [.ref b, .ref (b + 1)], _, _, _)) rfl ?_
    refine pe_get mm_162 rfl rfl (isN_0 hb _) (by have := isN_lt hb; omega) rfl ?_
    refine pe_blk mm_162 1 (s' := (20, [some (.ref b), some (.int a0), some (.int a1)], [.int a0, .int (M.1 b 2), .ref (b + 1)], _, _, _)) rfl ?_
    by_cases q2 : (M.1 b 2) < 0 ∨ 10 ≤ (M.1 b 2 : Int32).toNatClampNeg
    · rw [if_pos q2] at h
      cases h
    · rw [if_neg q2] at h
      refine pe_iasti mm_162 rfl (isN_1 hb _) (by have := isN_lt hb; omega) q2 ((isN_1 hb _).trans (by simp [m_i])) ?_
      show pm_ev _ _ _ _ _ (21, [some (.ref b), some (.int a0), some (.int a1)], [], _, _, hp (m_i M (b + 1) (M.1 b 2 : Int32).toNatClampNeg a0)) _
      generalize m_i M (b + 1) (M.1 b 2 : Int32).toNatClampNeg a0 = M3 at h ⊢
      rw [mlet] at h
      exact J162_21_ev sc n b hb e he a1 _ _ _ _ h
  · rw [if_neg q1] at h
    refine pe_blk mm_162 1 (s' := (if (M.1 b 2) < 10 then 11 else 9, [some (.ref b), some (.int a0), some (.int a1)], [], _, _, _)) rfl ?_
    rw [if_neg q1]
    refine pe_blk mm_162 1 (s' := (10, [some (.ref b), some (.int a0), some (.int a1)], [.int 0], _, _, _)) rfl ?_
    cases h
    exact pe_ret mm_162 rfl rfl
def J163_22 (n : Nat) (b : Nat) (M : Mem) : Option (Int32 × Mem) :=
  some ((-1), M)
set_option maxRecDepth 100000 in
set_option maxHeartbeats 4000000 in
theorem J163_22_ev (sc : Option (Nat × (Nat → Int32))) (n : Nat) (b : Nat) (hb : isN b) (e : Nat) (he : 1 ≤ e) : ∀ (u0 : Option Value) (u1 : Option Value) (M : Mem) (r : Int32) (M' : Mem), J163_22 n b  M = some (r, M') → pm_ev pmT sc e 163 false (22, [u0, u1], [], 129, 17845, hp M) (some (.int r), 129, 17845, hp M') := by
  intro u0 u1 M r M' h
  unfold J163_22 at h
  refine pe_blk mm_163 1 (s' := (23, [u0, u1], [.int (-1)], _, _, _)) rfl ?_
  cases h
  exact pe_ret mm_163 rfl rfl
def J163_24 (n : Nat) (b : Nat) (M : Mem) : Option (Int32 × Mem) :=
  mlet (m_i M b 2 ((M.1 b 2) - 1)) (fun M4 => if (M4.1 b 2) < 0 ∨ 10 ≤ (M4.1 b 2 : Int32).toNatClampNeg then none else (some (M4.1 (b + 1) (M4.1 b 2 : Int32).toNatClampNeg, M4)))
set_option maxRecDepth 100000 in
set_option maxHeartbeats 4000000 in
theorem J163_24_ev (sc : Option (Nat × (Nat → Int32))) (n : Nat) (b : Nat) (hb : isN b) (e : Nat) (he : 1 ≤ e) : ∀ (u1 : Option Value) (M : Mem) (r : Int32) (M' : Mem), J163_24 n b  M = some (r, M') → pm_ev pmT sc e 163 false (24, [some (.ref b), u1], [], 129, 17845, hp M) (some (.int r), 129, 17845, hp M') := by
  intro u1 M r M' h
  unfold J163_24 at h
  refine pe_blk mm_163 2 (s' := (26, [some (.ref b), u1], [.ref b, .ref b], _, _, _)) rfl ?_
  refine pe_get mm_163 rfl rfl (isN_0 hb _) (by have := isN_lt hb; omega) rfl ?_
  refine pe_blk mm_163 2 (s' := (31, [some (.ref b), u1], [.int ((M.1 b 2) - 1), .ref b], _, _, _)) rfl ?_
  refine pe_puti mm_163 rfl rfl (isN_0 hb _) (by have := isN_lt hb; omega) (Nat.le_of_ble_eq_true rfl) rfl ((isN_0 hb _).trans (by simp [m_i, upd])) ?_
  show pm_ev _ _ _ _ _ (34, [some (.ref b), u1], [], _, _, hp (m_i M b 2 ((M.1 b 2) - 1))) _
  generalize m_i M b 2 ((M.1 b 2) - 1) = M4 at h ⊢
  rw [mlet] at h
  refine pe_blk mm_163 1 (s' := (35, [some (.ref b), u1], [.ref b], _, _, _)) rfl ?_
  refine pe_get mm_163 rfl rfl (isN_0 hb _) (by have := isN_lt hb; omega) rfl ?_
  refine pe_blk mm_163 1 (s' := (39, [some (.ref b), u1], [.ref b, .ref (b + 1)], _, _, _)) rfl ?_
  refine pe_get mm_163 rfl rfl (isN_0 hb _) (by have := isN_lt hb; omega) rfl ?_
  by_cases q5 : (M4.1 b 2) < 0 ∨ 10 ≤ (M4.1 b 2 : Int32).toNatClampNeg
  · rw [if_pos q5] at h
    cases h
  · rw [if_neg q5] at h
    refine pe_iald (f := M4.1 (b + 1)) mm_163 rfl (isN_1 hb _) (by have := isN_lt hb; omega) q5 ?_
    cases h
    exact pe_ret mm_163 rfl rfl
/-- ArmExpander$Nesting.close -/
def F163 (n : Nat) (b : Nat) (a0 : Int32) (M : Mem) : Option (Int32 × Mem) :=
  if (M.1 b 2) ≤ 0 then (J163_22 n b M) else (if ((M.1 b 2) - 1) < 0 ∨ 10 ≤ ((M.1 b 2) - 1 : Int32).toNatClampNeg then none else (if (M.1 (b + 2) ((M.1 b 2) - 1 : Int32).toNatClampNeg) = a0 then (J163_24 n b M) else (J163_22 n b M)))
set_option maxRecDepth 100000 in
set_option maxHeartbeats 4000000 in
theorem F163_ev (sc : Option (Nat × (Nat → Int32))) (n : Nat) (b : Nat) (a0 : Int32) (hb : isN b) (M : Mem) (e : Nat) (he : 1 ≤ e) (r : Int32) (M' : Mem) (h : F163 n b a0 M = some (r, M')) : pm_ev pmT sc e 163 false (0, [some (.ref b), some (.int a0)], [], 129, 17845, hp M) (some (.int r), 129, 17845, hp M') := by
  unfold F163 at h
  refine pe_blk mm_163 1 (s' := (1, [some (.ref b), some (.int a0)], [.ref b], _, _, _)) rfl ?_
  refine pe_get mm_163 rfl rfl (isN_0 hb _) (by have := isN_lt hb; omega) rfl ?_
  by_cases q1 : (M.1 b 2) ≤ 0
  · rw [if_pos q1] at h
    refine pe_blk mm_163 1 (s' := (if (M.1 b 2) ≤ 0 then 22 else 7, [some (.ref b), some (.int a0)], [], _, _, _)) rfl ?_
    rw [if_pos q1]
    exact J163_22_ev sc n b hb e he _ _ _ _ _ h
  · rw [if_neg q1] at h
    refine pe_blk mm_163 1 (s' := (if (M.1 b 2) ≤ 0 then 22 else 7, [some (.ref b), some (.int a0)], [], _, _, _)) rfl ?_
    rw [if_neg q1]
    refine pe_blk mm_163 1 (s' := (8, [some (.ref b), some (.int a0)], [.ref b], _, _, _)) rfl ?_
    refine pe_get mm_163 rfl rfl (isN_0 hb _) (by have := isN_lt hb; omega) rfl ?_
    refine pe_blk mm_163 1 (s' := (12, [some (.ref b), some (.int a0)], [.ref b, .ref (b + 2)], _, _, _)) rfl ?_
    refine pe_get mm_163 rfl rfl (isN_0 hb _) (by have := isN_lt hb; omega) rfl ?_
    refine pe_blk mm_163 2 (s' := (17, [some (.ref b), some (.int a0)], [.int ((M.1 b 2) - 1), .ref (b + 2)], _, _, _)) rfl ?_
    by_cases q2 : ((M.1 b 2) - 1) < 0 ∨ 10 ≤ ((M.1 b 2) - 1 : Int32).toNatClampNeg
    · rw [if_pos q2] at h
      cases h
    · rw [if_neg q2] at h
      refine pe_iald (f := M.1 (b + 2)) mm_163 rfl (isN_2 hb _) (by have := isN_lt hb; omega) q2 ?_
      refine pe_blk mm_163 1 (s' := (19, [some (.ref b), some (.int a0)], [.int a0, .int (M.1 (b + 2) ((M.1 b 2) - 1 : Int32).toNatClampNeg)], _, _, _)) rfl ?_
      by_cases q3 : (M.1 (b + 2) ((M.1 b 2) - 1 : Int32).toNatClampNeg) = a0
      · rw [if_pos q3] at h
        refine pe_blk mm_163 1 (s' := (if (M.1 (b + 2) ((M.1 b 2) - 1 : Int32).toNatClampNeg) = a0 then 24 else 22, [some (.ref b), some (.int a0)], [], _, _, _)) rfl ?_
        rw [if_pos q3]
        exact J163_24_ev sc n b hb e he _ _ _ _ h
      · rw [if_neg q3] at h
        refine pe_blk mm_163 1 (s' := (if (M.1 (b + 2) ((M.1 b 2) - 1 : Int32).toNatClampNeg) = a0 then 24 else 22, [some (.ref b), some (.int a0)], [], _, _, _)) rfl ?_
        rw [if_neg q3]
        exact J163_22_ev sc n b hb e he _ _ _ _ _ h
/-- ArmExpander$Row.clear -/
def F165 (n : Nat) (b : Nat) (M : Mem) : Option (Unit × Mem) :=
  mlet (m_i M b 2 0) (fun M1 => mlet (m_i M1 b 3 0) (fun M2 => some ((), M2)))
set_option maxRecDepth 100000 in
set_option maxHeartbeats 4000000 in
theorem F165_ev (sc : Option (Nat × (Nat → Int32))) (n : Nat) (b : Nat) (hb : isR b) (M : Mem) (e : Nat) (he : 1 ≤ e) (r : Unit) (M' : Mem) (h : F165 n b M = some (r, M')) : pm_ev pmT sc e 165 false (0, [some (.ref b)], [], 129, 17845, hp M) (none, 129, 17845, hp M') := by
  unfold F165 at h
  refine pe_blk mm_165 2 (s' := (2, [some (.ref b)], [.int 0, .ref b], _, _, _)) rfl ?_
  refine pe_puti mm_165 rfl rfl (isR_0 hb _) (by have := isR_lt hb; omega) (Nat.le_of_ble_eq_true rfl) rfl ((isR_0 hb _).trans (by simp [m_i, upd])) ?_
  show pm_ev _ _ _ _ _ (5, [some (.ref b)], [], _, _, hp (m_i M b 2 0)) _
  generalize m_i M b 2 0 = M1 at h ⊢
  rw [mlet] at h
  refine pe_blk mm_165 2 (s' := (7, [some (.ref b)], [.int 0, .ref b], _, _, _)) rfl ?_
  refine pe_puti mm_165 rfl rfl (isR_0 hb _) (by have := isR_lt hb; omega) (Nat.le_of_ble_eq_true rfl) rfl ((isR_0 hb _).trans (by simp [m_i, upd])) ?_
  show pm_ev _ _ _ _ _ (10, [some (.ref b)], [], _, _, hp (m_i M1 b 3 0)) _
  generalize m_i M1 b 3 0 = M2 at h ⊢
  rw [mlet] at h
  cases h
  exact pe_ret mm_165 rfl rfl
/-- ArmExpander$Row.size -/
def F166 (n : Nat) (b : Nat) (M : Mem) : Option (Int32 × Mem) :=
  some (M.1 b 2, M)
set_option maxRecDepth 100000 in
set_option maxHeartbeats 4000000 in
theorem F166_ev (sc : Option (Nat × (Nat → Int32))) (n : Nat) (b : Nat) (hb : isR b) (M : Mem) (e : Nat) (he : 1 ≤ e) (r : Int32) (M' : Mem) (h : F166 n b M = some (r, M')) : pm_ev pmT sc e 166 false (0, [some (.ref b)], [], 129, 17845, hp M) (some (.int r), 129, 17845, hp M') := by
  unfold F166 at h
  refine pe_blk mm_166 1 (s' := (1, [some (.ref b)], [.ref b], _, _, _)) rfl ?_
  refine pe_get mm_166 rfl rfl (isR_0 hb _) (by have := isR_lt hb; omega) rfl ?_
  cases h
  exact pe_ret mm_166 rfl rfl
/-- ArmExpander$Row.isOverfull -/
def F167 (n : Nat) (b : Nat) (M : Mem) : Option (Int32 × Mem) :=
  if (M.1 b 3) = 0 ∨ (M.1 b 3) = 1 then some (M.1 b 3, M) else none
set_option maxRecDepth 100000 in
set_option maxHeartbeats 4000000 in
theorem F167_ev (sc : Option (Nat × (Nat → Int32))) (n : Nat) (b : Nat) (hb : isR b) (M : Mem) (e : Nat) (he : 1 ≤ e) (r : Int32) (M' : Mem) (h : F167 n b M = some (r, M')) : pm_ev pmT sc e 167 false (0, [some (.ref b)], [], 129, 17845, hp M) (some (.int r), 129, 17845, hp M') := by
  unfold F167 at h
  refine pe_blk mm_167 1 (s' := (1, [some (.ref b)], [.ref b], _, _, _)) rfl ?_
  refine pe_get mm_167 rfl rfl (isR_0 hb _) (by have := isR_lt hb; omega) rfl ?_
  by_cases q1 : (M.1 b 3) = 0 ∨ (M.1 b 3) = 1
  · rw [if_pos q1] at h
    cases h
    exact pe_ret mm_167 rfl (if_pos q1)
  · rw [if_neg q1] at h
    cases h
