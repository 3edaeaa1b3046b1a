/-! The methods as functions over Mem; written by program. -/
def J57_128 (n : Nat) (rec4 : Int32 → Int32 → Mem → Option (Int32 × Mem)) (x2 : Int32) (s0 : Int32) (M : Mem) : Option (Int32 × Mem) :=
  rec4 s0 (x2 + 1) M
set_option maxRecDepth 100000 in
set_option maxHeartbeats 4000000 in
theorem J57_128_ev (sc : Option (Nat × (Nat → Int32))) (n : Nat)  (e : Nat) (he : 2 ≤ e) (rec4 : Int32 → Int32 → Mem → Option (Int32 × Mem)) (hr4 : ∀ (x1 : Int32) (x2 : Int32) (u3 : Option Value) (u4 : Option Value) (M : Mem) (r : Int32) (M' : Mem), rec4 x1 x2 M = some (r, M') → pm_ev pmT sc e 57 false (4, [some (.ref 83), some (.int x1), some (.int x2), u3, u4], [], 129, 17845, hp M) (some (.int r), 129, 17845, hp M')) : ∀ (x2 : Int32) (s0 : Int32) (u1 : Option Value) (u3 : Option Value) (u4 : Option Value) (M : Mem) (r : Int32) (M' : Mem), J57_128 n rec4 x2 s0 M = some (r, M') → pm_ev pmT sc e 57 false (128, [some (.ref 83), u1, some (.int x2), u3, u4], [.int s0], 129, 17845, hp M) (some (.int r), 129, 17845, hp M') := by
  intro x2 s0 u1 u3 u4 M r M' h
  unfold J57_128 at h
  refine pe_blk mm_57 3 (s' := (4, [some (.ref 83), some (.int s0), some (.int (x2 + 1)), u3, u4], [], _, _, _)) rfl ?_
  exact hr4 s0 (x2 + 1) _ _ _ _ _ h
def J57_127 (n : Nat) (rec4 : Int32 → Int32 → Mem → Option (Int32 × Mem)) (x2 : Int32) (M : Mem) : Option (Int32 × Mem) :=
  J57_128 n rec4 x2 0 M
set_option maxRecDepth 100000 in
set_option maxHeartbeats 4000000 in
theorem J57_127_ev (sc : Option (Nat × (Nat → Int32))) (n : Nat)  (e : Nat) (he : 2 ≤ e) (rec4 : Int32 → Int32 → Mem → Option (Int32 × Mem)) (hr4 : ∀ (x1 : Int32) (x2 : Int32) (u3 : Option Value) (u4 : Option Value) (M : Mem) (r : Int32) (M' : Mem), rec4 x1 x2 M = some (r, M') → pm_ev pmT sc e 57 false (4, [some (.ref 83), some (.int x1), some (.int x2), u3, u4], [], 129, 17845, hp M) (some (.int r), 129, 17845, hp M')) : ∀ (x2 : Int32) (u1 : Option Value) (u3 : Option Value) (u4 : Option Value) (M : Mem) (r : Int32) (M' : Mem), J57_127 n rec4 x2 M = some (r, M') → pm_ev pmT sc e 57 false (127, [some (.ref 83), u1, some (.int x2), u3, u4], [], 129, 17845, hp M) (some (.int r), 129, 17845, hp M') := by
  intro x2 u1 u3 u4 M r M' h
  unfold J57_127 at h
  refine pe_blk mm_57 1 (s' := (128, [some (.ref 83), u1, some (.int x2), u3, u4], [.int 0], _, _, _)) rfl ?_
  exact J57_128_ev sc n e he rec4 hr4 x2 0 _ _ _ _ _ _ h
def J57_123 (n : Nat) (rec4 : Int32 → Int32 → Mem → Option (Int32 × Mem)) (x2 : Int32) (M : Mem) : Option (Int32 × Mem) :=
  J57_128 n rec4 x2 1 M
set_option maxRecDepth 100000 in
set_option maxHeartbeats 4000000 in
theorem J57_123_ev (sc : Option (Nat × (Nat → Int32))) (n : Nat)  (e : Nat) (he : 2 ≤ e) (rec4 : Int32 → Int32 → Mem → Option (Int32 × Mem)) (hr4 : ∀ (x1 : Int32) (x2 : Int32) (u3 : Option Value) (u4 : Option Value) (M : Mem) (r : Int32) (M' : Mem), rec4 x1 x2 M = some (r, M') → pm_ev pmT sc e 57 false (4, [some (.ref 83), some (.int x1), some (.int x2), u3, u4], [], 129, 17845, hp M) (some (.int r), 129, 17845, hp M')) : ∀ (x2 : Int32) (u1 : Option Value) (u3 : Option Value) (u4 : Option Value) (M : Mem) (r : Int32) (M' : Mem), J57_123 n rec4 x2 M = some (r, M') → pm_ev pmT sc e 57 false (123, [some (.ref 83), u1, some (.int x2), u3, u4], [], 129, 17845, hp M) (some (.int r), 129, 17845, hp M') := by
  intro x2 u1 u3 u4 M r M' h
  unfold J57_123 at h
  refine pe_blk mm_57 2 (s' := (128, [some (.ref 83), u1, some (.int x2), u3, u4], [.int 1], _, _, _)) rfl ?_
  exact J57_128_ev sc n e he rec4 hr4 x2 1 _ _ _ _ _ _ h
def J57_105 (n : Nat) (rec4 : Int32 → Int32 → Mem → Option (Int32 × Mem)) (x2 : Int32) (M : Mem) : Option (Int32 × Mem) :=
  if x2 < 0 ∨ 128 ≤ (x2 : Int32).toNatClampNeg then none else (if (M.1 97 (x2 : Int32).toNatClampNeg) = 4 then (match F55 n x2 M with | some (v17, M18) => (if v17 = 0 then (J57_127 n rec4 x2 M18) else (J57_123 n rec4 x2 M18)) | none => none) else (J57_123 n rec4 x2 M))
set_option maxRecDepth 100000 in
set_option maxHeartbeats 4000000 in
theorem J57_105_ev (sc : Option (Nat × (Nat → Int32))) (n : Nat)  (e : Nat) (he : 2 ≤ e) (rec4 : Int32 → Int32 → Mem → Option (Int32 × Mem)) (hr4 : ∀ (x1 : Int32) (x2 : Int32) (u3 : Option Value) (u4 : Option Value) (M : Mem) (r : Int32) (M' : Mem), rec4 x1 x2 M = some (r, M') → pm_ev pmT sc e 57 false (4, [some (.ref 83), some (.int x1), some (.int x2), u3, u4], [], 129, 17845, hp M) (some (.int r), 129, 17845, hp M')) : ∀ (x2 : Int32) (u1 : Option Value) (u3 : Option Value) (u4 : Option Value) (M : Mem) (r : Int32) (M' : Mem), J57_105 n rec4 x2 M = some (r, M') → pm_ev pmT sc e 57 false (105, [some (.ref 83), u1, some (.int x2), u3, u4], [], 129, 17845, hp M) (some (.int r), 129, 17845, hp M') := by
  intro x2 u1 u3 u4 M r M' h
  unfold J57_105 at h
  refine pe_blk mm_57 1 (s' := (106, [some (.ref 83), u1, some (.int x2), u3, u4], [.ref 83], _, _, _)) rfl ?_
  refine pe_get mm_57 rfl rfl rfl (by decide) rfl ?_
  refine pe_blk mm_57 1 (s' := (110, [some (.ref 83), u1, some (.int x2), u3, u4], [.int x2, .ref 97], _, _, _)) rfl ?_
  by_cases q15 : x2 < 0 ∨ 128 ≤ (x2 : Int32).toNatClampNeg
  · rw [if_pos q15] at h
    cases h
  · rw [if_neg q15] at h
    refine pe_iald (f := M.1 97) mm_57 rfl rfl (by decide) q15 ?_
    refine pe_blk mm_57 1 (s' := (112, [some (.ref 83), u1, some (.int x2), u3, u4], [.int 4, .int (M.1 97 (x2 : Int32).toNatClampNeg)], _, _, _)) rfl ?_
    by_cases q16 : (M.1 97 (x2 : Int32).toNatClampNeg) = 4
    · rw [if_pos q16] at h
      refine pe_blk mm_57 1 (s' := (if (M.1 97 (x2 : Int32).toNatClampNeg) = 4 then 115 else 123, [some (.ref 83), u1, some (.int x2), u3, u4], [], _, _, _)) rfl ?_
      rw [if_pos q16]
      refine pe_blk mm_57 2 (s' := (117, [some (.ref 83), u1, some (.int x2), u3, u4], [.int x2, .ref 83], _, _, _)) rfl ?_
      obtain ⟨e1, rfl⟩ : ∃ e1, e = e1 + 1 := ⟨e - 1, by omega⟩
      cases hc19 : F55 n x2 M with
      | none => rw [hc19] at h; cases h
      | some w =>
        obtain ⟨v17, M18⟩ := w
        rw [hc19] at h
        dsimp only at h
        refine pe_virt (al := [.int x2]) (a := 83) (L0 := [some (.ref 83), some (.int x2), none, none]) (r1 := (some (.int v17), 129, 17845, hp M18)) mm_57 rfl rfl rfl mm_55 rfl (by decide) (by decide) rfl (Nat.le_of_ble_eq_true rfl) (Nat.le_of_ble_eq_true rfl) rfl rfl (F55_ev sc n x2 _ e1 (by omega) _ _ hc19) ?_
        show pm_ev _ _ _ _ _ (120, [some (.ref 83), u1, some (.int x2), u3, u4], [.int v17], _, _, _) _
        by_cases q20 : v17 = 0
        · rw [if_pos q20] at h
          refine pe_blk mm_57 1 (s' := (if v17 = 0 then 127 else 123, [some (.ref 83), u1, some (.int x2), u3, u4], [], _, _, _)) rfl ?_
          rw [if_pos q20]
          exact J57_127_ev sc n (e1 + 1) he rec4 hr4 x2 _ _ _ _ _ _ h
        · rw [if_neg q20] at h
          refine pe_blk mm_57 1 (s' := (if v17 = 0 then 127 else 123, [some (.ref 83), u1, some (.int x2), u3, u4], [], _, _, _)) rfl ?_
          rw [if_neg q20]
          exact J57_123_ev sc n (e1 + 1) he rec4 hr4 x2 _ _ _ _ _ _ h
    · rw [if_neg q16] at h
      refine pe_blk mm_57 1 (s' := (if (M.1 97 (x2 : Int32).toNatClampNeg) = 4 then 115 else 123, [some (.ref 83), u1, some (.int x2), u3, u4], [], _, _, _)) rfl ?_
      rw [if_neg q16]
      exact J57_123_ev sc n e he rec4 hr4 x2 _ _ _ _ _ _ h
def J57_83 (n : Nat) (rec4 : Int32 → Int32 → Mem → Option (Int32 × Mem)) (x1 : Int32) (x2 : Int32) (s0 : Int32) (M : Mem) : Option (Int32 × Mem) :=
  if x1 = 0 then (J57_127 n rec4 x2 M) else (if x2 < 0 ∨ 128 ≤ (x2 : Int32).toNatClampNeg then none else (if (M.1 97 (x2 : Int32).toNatClampNeg) = 7 then (if s0 = 0 then (J57_127 n rec4 x2 M) else (J57_105 n rec4 x2 M)) else (J57_105 n rec4 x2 M)))
set_option maxRecDepth 100000 in
set_option maxHeartbeats 4000000 in
theorem J57_83_ev (sc : Option (Nat × (Nat → Int32))) (n : Nat)  (e : Nat) (he : 2 ≤ e) (rec4 : Int32 → Int32 → Mem → Option (Int32 × Mem)) (hr4 : ∀ (x1 : Int32) (x2 : Int32) (u3 : Option Value) (u4 : Option Value) (M : Mem) (r : Int32) (M' : Mem), rec4 x1 x2 M = some (r, M') → pm_ev pmT sc e 57 false (4, [some (.ref 83), some (.int x1), some (.int x2), u3, u4], [], 129, 17845, hp M) (some (.int r), 129, 17845, hp M')) : ∀ (x1 : Int32) (x2 : Int32) (s0 : Int32) (u3 : Option Value) (u4 : Option Value) (M : Mem) (r : Int32) (M' : Mem), J57_83 n rec4 x1 x2 s0 M = some (r, M') → pm_ev pmT sc e 57 false (83, [some (.ref 83), some (.int x1), some (.int x2), u3, u4], [.int s0], 129, 17845, hp M) (some (.int r), 129, 17845, hp M') := by
  intro x1 x2 s0 u3 u4 M r M' h
  unfold J57_83 at h
  refine pe_blk mm_57 2 (s' := (86, [some (.ref 83), some (.int x1), some (.int x2), u3, some (.int s0)], [.int x1], _, _, _)) rfl ?_
  by_cases q11 : x1 = 0
  · rw [if_pos q11] at h
    refine pe_blk mm_57 1 (s' := (if x1 = 0 then 127 else 89, [some (.ref 83), some (.int x1), some (.int x2), u3, some (.int s0)], [], _, _, _)) rfl ?_
    rw [if_pos q11]
    exact J57_127_ev sc n e he rec4 hr4 x2 _ _ _ _ _ _ h
  · rw [if_neg q11] at h
    refine pe_blk mm_57 1 (s' := (if x1 = 0 then 127 else 89, [some (.ref 83), some (.int x1), some (.int x2), u3, some (.int s0)], [], _, _, _)) rfl ?_
    rw [if_neg q11]
    refine pe_blk mm_57 1 (s' := (90, [some (.ref 83), some (.int x1), some (.int x2), u3, some (.int s0)], [.ref 83], _, _, _)) rfl ?_
    refine pe_get mm_57 rfl rfl rfl (by decide) rfl ?_
    refine pe_blk mm_57 1 (s' := (94, [some (.ref 83), some (.int x1), some (.int x2), u3, some (.int s0)], [.int x2, .ref 97], _, _, _)) rfl ?_
    by_cases q12 : x2 < 0 ∨ 128 ≤ (x2 : Int32).toNatClampNeg
    · rw [if_pos q12] at h
      cases h
    · rw [if_neg q12] at h
      refine pe_iald (f := M.1 97) mm_57 rfl rfl (by decide) q12 ?_
      refine pe_blk mm_57 1 (s' := (97, [some (.ref 83), some (.int x1), some (.int x2), u3, some (.int s0)], [.int 7, .int (M.1 97 (x2 : Int32).toNatClampNeg)], _, _, _)) rfl ?_
      by_cases q13 : (M.1 97 (x2 : Int32).toNatClampNeg) = 7
      · rw [if_pos q13] at h
        refine pe_blk mm_57 1 (s' := (if (M.1 97 (x2 : Int32).toNatClampNeg) = 7 then 100 else 105, [some (.ref 83), some (.int x1), some (.int x2), u3, some (.int s0)], [], _, _, _)) rfl ?_
        rw [if_pos q13]
        refine pe_blk mm_57 1 (s' := (102, [some (.ref 83), some (.int x1), some (.int x2), u3, some (.int s0)], [.int s0], _, _, _)) rfl ?_
        by_cases q14 : s0 = 0
        · rw [if_pos q14] at h
          refine pe_blk mm_57 1 (s' := (if s0 = 0 then 127 else 105, [some (.ref 83), some (.int x1), some (.int x2), u3, some (.int s0)], [], _, _, _)) rfl ?_
          rw [if_pos q14]
          exact J57_127_ev sc n e he rec4 hr4 x2 _ _ _ _ _ _ h
        · rw [if_neg q14] at h
          refine pe_blk mm_57 1 (s' := (if s0 = 0 then 127 else 105, [some (.ref 83), some (.int x1), some (.int x2), u3, some (.int s0)], [], _, _, _)) rfl ?_
          rw [if_neg q14]
          exact J57_105_ev sc n e he rec4 hr4 x2 _ _ _ _ _ _ h
      · rw [if_neg q13] at h
        refine pe_blk mm_57 1 (s' := (if (M.1 97 (x2 : Int32).toNatClampNeg) = 7 then 100 else 105, [some (.ref 83), some (.int x1), some (.int x2), u3, some (.int s0)], [], _, _, _)) rfl ?_
        rw [if_neg q13]
        exact J57_105_ev sc n e he rec4 hr4 x2 _ _ _ _ _ _ h
def J57_82 (n : Nat) (rec4 : Int32 → Int32 → Mem → Option (Int32 × Mem)) (x1 : Int32) (x2 : Int32) (M : Mem) : Option (Int32 × Mem) :=
  J57_83 n rec4 x1 x2 0 M
set_option maxRecDepth 100000 in
set_option maxHeartbeats 4000000 in
theorem J57_82_ev (sc : Option (Nat × (Nat → Int32))) (n : Nat)  (e : Nat) (he : 2 ≤ e) (rec4 : Int32 → Int32 → Mem → Option (Int32 × Mem)) (hr4 : ∀ (x1 : Int32) (x2 : Int32) (u3 : Option Value) (u4 : Option Value) (M : Mem) (r : Int32) (M' : Mem), rec4 x1 x2 M = some (r, M') → pm_ev pmT sc e 57 false (4, [some (.ref 83), some (.int x1), some (.int x2), u3, u4], [], 129, 17845, hp M) (some (.int r), 129, 17845, hp M')) : ∀ (x1 : Int32) (x2 : Int32) (u3 : Option Value) (u4 : Option Value) (M : Mem) (r : Int32) (M' : Mem), J57_82 n rec4 x1 x2 M = some (r, M') → pm_ev pmT sc e 57 false (82, [some (.ref 83), some (.int x1), some (.int x2), u3, u4], [], 129, 17845, hp M) (some (.int r), 129, 17845, hp M') := by
  intro x1 x2 u3 u4 M r M' h
  unfold J57_82 at h
  refine pe_blk mm_57 1 (s' := (83, [some (.ref 83), some (.int x1), some (.int x2), u3, u4], [.int 0], _, _, _)) rfl ?_
  exact J57_83_ev sc n e he rec4 hr4 x1 x2 0 _ _ _ _ _ h
def J57_40 (n : Nat) (rec4 : Int32 → Int32 → Mem → Option (Int32 × Mem)) (x1 : Int32) (x2 : Int32) (s0 : Int32) (M : Mem) : Option (Int32 × Mem) :=
  if s0 < 0 then (J57_82 n rec4 x1 x2 M) else (if s0 < 0 ∨ 128 ≤ (s0 : Int32).toNatClampNeg then none else (if s0 < 0 ∨ 128 ≤ (s0 : Int32).toNatClampNeg then none else (match F56 n (M.1 95 (s0 : Int32).toNatClampNeg) (M.1 96 (s0 : Int32).toNatClampNeg) M with | some (v23, M24) => (if x2 < 0 ∨ 128 ≤ (x2 : Int32).toNatClampNeg then none else (if x2 < 0 ∨ 128 ≤ (x2 : Int32).toNatClampNeg then none else (match F56 n (M24.1 101 (x2 : Int32).toNatClampNeg) (M24.1 102 (x2 : Int32).toNatClampNeg) M24 with | some (v28, M29) => (if v23 = v28 then (J57_83 n rec4 x1 x2 1 M29) else (J57_82 n rec4 x1 x2 M29)) | none => none))) | none => none)))
set_option maxRecDepth 100000 in
set_option maxHeartbeats 4000000 in
theorem J57_40_ev (sc : Option (Nat × (Nat → Int32))) (n : Nat)  (e : Nat) (he : 2 ≤ e) (rec4 : Int32 → Int32 → Mem → Option (Int32 × Mem)) (hr4 : ∀ (x1 : Int32) (x2 : Int32) (u3 : Option Value) (u4 : Option Value) (M : Mem) (r : Int32) (M' : Mem), rec4 x1 x2 M = some (r, M') → pm_ev pmT sc e 57 false (4, [some (.ref 83), some (.int x1), some (.int x2), u3, u4], [], 129, 17845, hp M) (some (.int r), 129, 17845, hp M')) : ∀ (x1 : Int32) (x2 : Int32) (s0 : Int32) (u3 : Option Value) (u4 : Option Value) (M : Mem) (r : Int32) (M' : Mem), J57_40 n rec4 x1 x2 s0 M = some (r, M') → pm_ev pmT sc e 57 false (40, [some (.ref 83), some (.int x1), some (.int x2), u3, u4], [.int s0], 129, 17845, hp M) (some (.int r), 129, 17845, hp M') := by
  intro x1 x2 s0 u3 u4 M r M' h
  unfold J57_40 at h
  refine pe_blk mm_57 2 (s' := (42, [some (.ref 83), some (.int x1), some (.int x2), some (.int s0), u4], [.int s0], _, _, _)) rfl ?_
  by_cases q10 : s0 < 0
  · rw [if_pos q10] at h
    refine pe_blk mm_57 1 (s' := (if s0 < 0 then 82 else 45, [some (.ref 83), some (.int x1), some (.int x2), some (.int s0), u4], [], _, _, _)) rfl ?_
    rw [if_pos q10]
    exact J57_82_ev sc n e he rec4 hr4 x1 x2 _ _ _ _ _ h
  · rw [if_neg q10] at h
    refine pe_blk mm_57 1 (s' := (if s0 < 0 then 82 else 45, [some (.ref 83), some (.int x1), some (.int x2), some (.int s0), u4], [], _, _, _)) rfl ?_
    rw [if_neg q10]
    refine pe_blk mm_57 1 (s' := (46, [some (.ref 83), some (.int x1), some (.int x2), some (.int s0), u4], [.ref 83], _, _, _)) rfl ?_
    refine pe_get mm_57 rfl rfl rfl (by decide) rfl ?_
    refine pe_blk mm_57 1 (s' := (50, [some (.ref 83), some (.int x1), some (.int x2), some (.int s0), u4], [.int s0, .ref 95], _, _, _)) rfl ?_
    by_cases q21 : s0 < 0 ∨ 128 ≤ (s0 : Int32).toNatClampNeg
    · rw [if_pos q21] at h
      cases h
    · rw [if_neg q21] at h
      refine pe_iald (f := M.1 95) mm_57 rfl rfl (by decide) q21 ?_
      refine pe_blk mm_57 1 (s' := (52, [some (.ref 83), some (.int x1), some (.int x2), some (.int s0), u4], [.ref 83, .int (M.1 95 (s0 : Int32).toNatClampNeg)], _, _, _)) rfl ?_
      refine pe_get mm_57 rfl rfl rfl (by decide) rfl ?_
      refine pe_blk mm_57 1 (s' := (56, [some (.ref 83), some (.int x1), some (.int x2), some (.int s0), u4], [.int s0, .ref 96, .int (M.1 95 (s0 : Int32).toNatClampNeg)], _, _, _)) rfl ?_
      by_cases q22 : s0 < 0 ∨ 128 ≤ (s0 : Int32).toNatClampNeg
      · rw [if_pos q22] at h
        cases h
      · rw [if_neg q22] at h
        refine pe_iald (f := M.1 96) mm_57 rfl rfl (by decide) q22 ?_
        obtain ⟨e1, rfl⟩ : ∃ e1, e = e1 + 1 := ⟨e - 1, by omega⟩
        cases hc25 : F56 n (M.1 95 (s0 : Int32).toNatClampNeg) (M.1 96 (s0 : Int32).toNatClampNeg) M with
        | none => rw [hc25] at h; cases h
        | some w =>
          obtain ⟨v23, M24⟩ := w
          rw [hc25] at h
          dsimp only at h
          refine pe_stat (al := [.int (M.1 96 (s0 : Int32).toNatClampNeg), .int (M.1 95 (s0 : Int32).toNatClampNeg)]) (L0 := [some (.int (M.1 95 (s0 : Int32).toNatClampNeg)), some (.int (M.1 96 (s0 : Int32).toNatClampNeg))]) (r1 := (some (.int v23), 129, 17845, hp M24)) mm_57 rfl rfl rfl mm_56 rfl (Nat.le_of_ble_eq_true rfl) (Nat.le_of_ble_eq_true rfl) rfl rfl (F56_ev sc n (M.1 95 (s0 : Int32).toNatClampNeg) (M.1 96 (s0 : Int32).toNatClampNeg) _ e1 (by omega) _ _ hc25) ?_
          show pm_ev _ _ _ _ _ (60, [some (.ref 83), some (.int x1), some (.int x2), some (.int s0), u4], [.int v23], _, _, _) _
          refine pe_blk mm_57 1 (s' := (61, [some (.ref 83), some (.int x1), some (.int x2), some (.int s0), u4], [.ref 83, .int v23], _, _, _)) rfl ?_
          refine pe_get mm_57 rfl rfl rfl (by decide) rfl ?_
          refine pe_blk mm_57 1 (s' := (65, [some (.ref 83), some (.int x1), some (.int x2), some (.int s0), u4], [.int x2, .ref 101, .int v23], _, _, _)) rfl ?_
          by_cases q26 : x2 < 0 ∨ 128 ≤ (x2 : Int32).toNatClampNeg
          · rw [if_pos q26] at h
            cases h
          · rw [if_neg q26] at h
            refine pe_iald (f := M24.1 101) mm_57 rfl rfl (by decide) q26 ?_
            refine pe_blk mm_57 1 (s' := (67, [some (.ref 83), some (.int x1), some (.int x2), some (.int s0), u4], [.ref 83, .int (M24.1 101 (x2 : Int32).toNatClampNeg), .int v23], _, _, _)) rfl ?_
            refine pe_get mm_57 rfl rfl rfl (by decide) rfl ?_
            refine pe_blk mm_57 1 (s' := (71, [some (.ref 83), some (.int x1), some (.int x2), some (.int s0), u4], [.int x2, .ref 102, .int (M24.1 101 (x2 : Int32).toNatClampNeg), .int v23], _, _, _)) rfl ?_
            by_cases q27 : x2 < 0 ∨ 128 ≤ (x2 : Int32).toNatClampNeg
            · rw [if_pos q27] at h
              cases h
            · rw [if_neg q27] at h
              refine pe_iald (f := M24.1 102) mm_57 rfl rfl (by decide) q27 ?_
              skip
              cases hc30 : F56 n (M24.1 101 (x2 : Int32).toNatClampNeg) (M24.1 102 (x2 : Int32).toNatClampNeg) M24 with
              | none => rw [hc30] at h; cases h
              | some w =>
                obtain ⟨v28, M29⟩ := w
                rw [hc30] at h
                dsimp only at h
                refine pe_stat (al := [.int (M24.1 102 (x2 : Int32).toNatClampNeg), .int (M24.1 101 (x2 : Int32).toNatClampNeg)]) (L0 := [some (.int (M24.1 101 (x2 : Int32).toNatClampNeg)), some (.int (M24.1 102 (x2 : Int32).toNatClampNeg))]) (r1 := (some (.int v28), 129, 17845, hp M29)) mm_57 rfl rfl rfl mm_56 rfl (Nat.le_of_ble_eq_true rfl) (Nat.le_of_ble_eq_true rfl) rfl rfl (F56_ev sc n (M24.1 101 (x2 : Int32).toNatClampNeg) (M24.1 102 (x2 : Int32).toNatClampNeg) _ e1 (by omega) _ _ hc30) ?_
                show pm_ev _ _ _ _ _ (75, [some (.ref 83), some (.int x1), some (.int x2), some (.int s0), u4], [.int v28, .int v23], _, _, _) _
                by_cases q31 : v23 = v28
                · rw [if_pos q31] at h
                  refine pe_blk mm_57 1 (s' := (if v23 = v28 then 78 else 82, [some (.ref 83), some (.int x1), some (.int x2), some (.int s0), u4], [], _, _, _)) rfl ?_
                  rw [if_pos q31]
                  refine pe_blk mm_57 2 (s' := (83, [some (.ref 83), some (.int x1), some (.int x2), some (.int s0), u4], [.int 1], _, _, _)) rfl ?_
                  exact J57_83_ev sc n (e1 + 1) he rec4 hr4 x1 x2 1 _ _ _ _ _ h
                · rw [if_neg q31] at h
                  refine pe_blk mm_57 1 (s' := (if v23 = v28 then 78 else 82, [some (.ref 83), some (.int x1), some (.int x2), some (.int s0), u4], [], _, _, _)) rfl ?_
                  rw [if_neg q31]
                  exact J57_82_ev sc n (e1 + 1) he rec4 hr4 x1 x2 _ _ _ _ _ h
def L57_4 (n : Nat) : Nat → Int32 → Int32 → Mem → Option (Int32 × Mem)
  | 0, _, _, _ => none
  | k + 1, x1, x2, M => if x2 < 0 ∨ 128 ≤ (x2 : Int32).toNatClampNeg then none else (if (M.1 97 (x2 : Int32).toNatClampNeg) = 6 then (if x1 = 0 ∨ x1 = 1 then some (x1, M) else none) else (if x2 < 0 ∨ 128 ≤ (x2 : Int32).toNatClampNeg then none else (if (M.1 97 (x2 : Int32).toNatClampNeg) = 7 then (if x2 < 0 ∨ 128 ≤ (x2 : Int32).toNatClampNeg then none else (match F46 n (M.1 98 (x2 : Int32).toNatClampNeg) M with | some (v7, M8) => (J57_40 n (L57_4 n k) x1 x2 v7 M8) | none => none)) else (J57_40 n (L57_4 n k) x1 x2 (-1) M))))
set_option maxRecDepth 100000 in
set_option maxHeartbeats 4000000 in
theorem L57_4_ev (sc : Option (Nat × (Nat → Int32))) (n : Nat)  (e : Nat) (he : 2 ≤ e) : ∀ k : Nat, ∀ (x1 : Int32) (x2 : Int32) (u3 : Option Value) (u4 : Option Value) (M : Mem) (r : Int32) (M' : Mem), L57_4 n k x1 x2 M = some (r, M') → pm_ev pmT sc e 57 false (4, [some (.ref 83), some (.int x1), some (.int x2), u3, u4], [], 129, 17845, hp M) (some (.int r), 129, 17845, hp M') := by
  intro k
  induction k with
  | zero => intro x1 x2 u3 u4 M r M' h; cases h
  | succ k hr4 =>
    intro x1 x2 u3 u4 M r M' h
    rw [L57_4] at h
    refine pe_blk mm_57 1 (s' := (5, [some (.ref 83), some (.int x1), some (.int x2), u3, u4], [.ref 83], _, _, _)) rfl ?_
    refine pe_get mm_57 rfl rfl rfl (by decide) rfl ?_
    refine pe_blk mm_57 1 (s' := (9, [some (.ref 83), some (.int x1), some (.int x2), u3, u4], [.int x2, .ref 97], _, _, _)) rfl ?_
    by_cases q1 : x2 < 0 ∨ 128 ≤ (x2 : Int32).toNatClampNeg
    · rw [if_pos q1] at h
      cases h
    · rw [if_neg q1] at h
      refine pe_iald (f := M.1 97) mm_57 rfl rfl (by decide) q1 ?_
      refine pe_blk mm_57 1 (s' := (12, [some (.ref 83), some (.int x1), some (.int x2), u3, u4], [.int 6, .int (M.1 97 (x2 : Int32).toNatClampNeg)], _, _, _)) rfl ?_
      by_cases q2 : (M.1 97 (x2 : Int32).toNatClampNeg) = 6
      · rw [if_pos q2] at h
        refine pe_blk mm_57 1 (s' := (if (M.1 97 (x2 : Int32).toNatClampNeg) = 6 then 135 else 15, [some (.ref 83), some (.int x1), some (.int x2), u3, u4], [], _, _, _)) rfl ?_
        rw [if_pos q2]
        refine pe_blk mm_57 1 (s' := (136, [some (.ref 83), some (.int x1), some (.int x2), u3, u4], [.int x1], _, _, _)) rfl ?_
        by_cases q3 : x1 = 0 ∨ x1 = 1
        · rw [if_pos q3] at h
          cases h
          exact pe_ret mm_57 rfl (if_pos q3)
        · rw [if_neg q3] at h
          cases h
      · rw [if_neg q2] at h
        refine pe_blk mm_57 1 (s' := (if (M.1 97 (x2 : Int32).toNatClampNeg) = 6 then 135 else 15, [some (.ref 83), some (.int x1), some (.int x2), u3, u4], [], _, _, _)) rfl ?_
        rw [if_neg q2]
        refine pe_blk mm_57 1 (s' := (16, [some (.ref 83), some (.int x1), some (.int x2), u3, u4], [.ref 83], _, _, _)) rfl ?_
        refine pe_get mm_57 rfl rfl rfl (by decide) rfl ?_
        refine pe_blk mm_57 1 (s' := (20, [some (.ref 83), some (.int x1), some (.int x2), u3, u4], [.int x2, .ref 97], _, _, _)) rfl ?_
        by_cases q4 : x2 < 0 ∨ 128 ≤ (x2 : Int32).toNatClampNeg
        · rw [if_pos q4] at h
          cases h
        · rw [if_neg q4] at h
          refine pe_iald (f := M.1 97) mm_57 rfl rfl (by decide) q4 ?_
          refine pe_blk mm_57 1 (s' := (23, [some (.ref 83), some (.int x1), some (.int x2), u3, u4], [.int 7, .int (M.1 97 (x2 : Int32).toNatClampNeg)], _, _, _)) rfl ?_
          by_cases q5 : (M.1 97 (x2 : Int32).toNatClampNeg) = 7
          · rw [if_pos q5] at h
            refine pe_blk mm_57 1 (s' := (if (M.1 97 (x2 : Int32).toNatClampNeg) = 7 then 26 else 39, [some (.ref 83), some (.int x1), some (.int x2), u3, u4], [], _, _, _)) rfl ?_
            rw [if_pos q5]
            refine pe_blk mm_57 2 (s' := (28, [some (.ref 83), some (.int x1), some (.int x2), u3, u4], [.ref 83, .ref 83], _, _, _)) rfl ?_
            refine pe_get mm_57 rfl rfl rfl (by decide) rfl ?_
            refine pe_blk mm_57 1 (s' := (32, [some (.ref 83), some (.int x1), some (.int x2), u3, u4], [.int x2, .ref 98, .ref 83], _, _, _)) rfl ?_
            by_cases q6 : x2 < 0 ∨ 128 ≤ (x2 : Int32).toNatClampNeg
            · rw [if_pos q6] at h
              cases h
            · rw [if_neg q6] at h
              refine pe_iald (f := M.1 98) mm_57 rfl rfl (by decide) q6 ?_
              obtain ⟨e1, rfl⟩ : ∃ e1, e = e1 + 1 := ⟨e - 1, by omega⟩
              cases hc9 : F46 n (M.1 98 (x2 : Int32).toNatClampNeg) M with
              | none => rw [hc9] at h; cases h
              | some w =>
                obtain ⟨v7, M8⟩ := w
                rw [hc9] at h
                dsimp only at h
                refine pe_virt (al := [.int (M.1 98 (x2 : Int32).toNatClampNeg)]) (a := 83) (L0 := [some (.ref 83), some (.int (M.1 98 (x2 : Int32).toNatClampNeg)), none, none]) (r1 := (some (.int v7), 129, 17845, hp M8)) mm_57 rfl rfl rfl mm_46 rfl (by decide) (by decide) rfl (Nat.le_of_ble_eq_true rfl) (Nat.le_of_ble_eq_true rfl) rfl rfl (F46_ev sc n (M.1 98 (x2 : Int32).toNatClampNeg) _ e1 (by omega) _ _ hc9) ?_
                show pm_ev _ _ _ _ _ (36, [some (.ref 83), some (.int x1), some (.int x2), u3, u4], [.int v7], _, _, _) _
                refine pe_blk mm_57 1 (s' := (40, [some (.ref 83), some (.int x1), some (.int x2), u3, u4], [.int v7], _, _, _)) rfl ?_
                exact J57_40_ev sc n (e1 + 1) he (L57_4 n k) hr4 x1 x2 v7 _ _ _ _ _ h
          · rw [if_neg q5] at h
            refine pe_blk mm_57 1 (s' := (if (M.1 97 (x2 : Int32).toNatClampNeg) = 7 then 26 else 39, [some (.ref 83), some (.int x1), some (.int x2), u3, u4], [], _, _, _)) rfl ?_
            rw [if_neg q5]
            refine pe_blk mm_57 1 (s' := (40, [some (.ref 83), some (.int x1), some (.int x2), u3, u4], [.int (-1)], _, _, _)) rfl ?_
            exact J57_40_ev sc n e he (L57_4 n k) hr4 x1 x2 (-1) _ _ _ _ _ h
/-- ArmExpanderModel.usesRight -/
def F57 (n : Nat) (M : Mem) : Option (Int32 × Mem) :=
  L57_4 n n 1 0 M
set_option maxRecDepth 100000 in
set_option maxHeartbeats 4000000 in
theorem F57_ev (sc : Option (Nat × (Nat → Int32))) (n : Nat)  (M : Mem) (e : Nat) (he : 2 ≤ e) (r : Int32) (M' : Mem) (h : F57 n M = some (r, M')) : pm_ev pmT sc e 57 false (0, [some (.ref 83), none, none, none, none], [], 129, 17845, hp M) (some (.int r), 129, 17845, hp M') := by
  unfold F57 at h
  refine pe_blk mm_57 4 (s' := (4, [some (.ref 83), some (.int 1), some (.int 0), none, none], [], _, _, _)) rfl ?_
  exact L57_4_ev sc n e he n 1 0 _ _ _ _ _ h
/-- ArmExpanderModel.definitions -/
def F59 (n : Nat) (M : Mem) : Option (Int32 × Mem) :=
  some (M.1 83 9, M)
set_option maxRecDepth 100000 in
set_option maxHeartbeats 4000000 in
theorem F59_ev (sc : Option (Nat × (Nat → Int32))) (n : Nat)  (M : Mem) (e : Nat) (he : 1 ≤ e) (r : Int32) (M' : Mem) (h : F59 n M = some (r, M')) : pm_ev pmT sc e 59 false (0, [some (.ref 83)], [], 129, 17845, hp M) (some (.int r), 129, 17845, hp M') := by
  unfold F59 at h
  refine pe_blk mm_59 1 (s' := (1, [some (.ref 83)], [.ref 83], _, _, _)) rfl ?_
  refine pe_get mm_59 rfl rfl rfl (by decide) rfl ?_
  cases h
  exact pe_ret mm_59 rfl rfl
def J60_24 (n : Nat) (s0 : Int32) (M : Mem) : Option (Int32 × Mem) :=
  some (s0, M)
set_option maxRecDepth 100000 in
set_option maxHeartbeats 4000000 in
theorem J60_24_ev (sc : Option (Nat × (Nat → Int32))) (n : Nat)  (e : Nat) (he : 2 ≤ e) : ∀ (s0 : Int32) (u0 : Option Value) (u1 : Option Value) (M : Mem) (r : Int32) (M' : Mem), J60_24 n s0 M = some (r, M') → pm_ev pmT sc e 60 false (24, [u0, u1], [.int s0], 129, 17845, hp M) (some (.int r), 129, 17845, hp M') := by
  intro s0 u0 u1 M r M' h
  unfold J60_24 at h
  cases h
  exact pe_ret mm_60 rfl rfl
/-- ArmExpanderModel.arms -/
def F60 (n : Nat) (a0 : Int32) (M : Mem) : Option (Int32 × Mem) :=
  match F19 n a0 0 ((M.1 83 9) - 1) M with | some (v1, M2) => (if v1 = 0 then (J60_24 n (-1) M2) else (if a0 < 0 ∨ 6 ≤ (a0 : Int32).toNatClampNeg then none else (J60_24 n (M2.1 89 (a0 : Int32).toNatClampNeg) M2))) | none => none
set_option maxRecDepth 100000 in
set_option maxHeartbeats 4000000 in
theorem F60_ev (sc : Option (Nat × (Nat → Int32))) (n : Nat) (a0 : Int32)  (M : Mem) (e : Nat) (he : 2 ≤ e) (r : Int32) (M' : Mem) (h : F60 n a0 M = some (r, M')) : pm_ev pmT sc e 60 false (0, [some (.ref 83), some (.int a0)], [], 129, 17845, hp M) (some (.int r), 129, 17845, hp M') := by
  unfold F60 at h
  refine pe_blk mm_60 3 (s' := (3, [some (.ref 83), some (.int a0)], [.ref 83, .int 0, .int a0], _, _, _)) rfl ?_
  refine pe_get mm_60 rfl rfl rfl (by decide) rfl ?_
  refine pe_blk mm_60 2 (s' := (8, [some (.ref 83), some (.int a0)], [.int ((M.1 83 9) - 1), .int 0, .int a0], _, _, _)) rfl ?_
  obtain ⟨e1, rfl⟩ : ∃ e1, e = e1 + 1 := ⟨e - 1, by omega⟩
  cases hc3 : F19 n a0 0 ((M.1 83 9) - 1) M with
  | none => rw [hc3] at h; cases h
  | some w =>
    obtain ⟨v1, M2⟩ := w
    rw [hc3] at h
    dsimp only at h
    refine pe_stat (al := [.int ((M.1 83 9) - 1), .int 0, .int a0]) (L0 := [some (.int a0), some (.int 0), some (.int ((M.1 83 9) - 1))]) (r1 := (some (.int v1), 129, 17845, hp M2)) mm_60 rfl rfl rfl mm_19 rfl (Nat.le_of_ble_eq_true rfl) (Nat.le_of_ble_eq_true rfl) rfl rfl (F19_ev sc n a0 0 ((M.1 83 9) - 1) _ e1 (by omega) _ _ hc3) ?_
    show pm_ev _ _ _ _ _ (11, [some (.ref 83), some (.int a0)], [.int v1], _, _, _) _
    by_cases q4 : v1 = 0
    · rw [if_pos q4] at h
      refine pe_blk mm_60 1 (s' := (if v1 = 0 then 23 else 14, [some (.ref 83), some (.int a0)], [], _, _, _)) rfl ?_
      rw [if_pos q4]
      refine pe_blk mm_60 1 (s' := (24, [some (.ref 83), some (.int a0)], [.int (-1)], _, _, _)) rfl ?_
      exact J60_24_ev sc n (e1 + 1) he (-1) _ _ _ _ _ h
    · rw [if_neg q4] at h
      refine pe_blk mm_60 1 (s' := (if v1 = 0 then 23 else 14, [some (.ref 83), some (.int a0)], [], _, _, _)) rfl ?_
      rw [if_neg q4]
      refine pe_blk mm_60 1 (s' := (15, [some (.ref 83), some (.int a0)], [.ref 83], _, _, _)) rfl ?_
      refine pe_get mm_60 rfl rfl rfl (by decide) rfl ?_
      refine pe_blk mm_60 1 (s' := (19, [some (.ref 83), some (.int a0)], [.int a0, .ref 89], _, _, _)) rfl ?_
      by_cases q5 : a0 < 0 ∨ 6 ≤ (a0 : Int32).toNatClampNeg
      · rw [if_pos q5] at h
        cases h
      · rw [if_neg q5] at h
        refine pe_iald (f := M2.1 89) mm_60 rfl rfl (by decide) q5 ?_
        refine pe_blk mm_60 1 (s' := (24, [some (.ref 83), some (.int a0)], [.int (M2.1 89 (a0 : Int32).toNatClampNeg)], _, _, _)) rfl ?_
        exact J60_24_ev sc n (e1 + 1) he (M2.1 89 (a0 : Int32).toNatClampNeg) _ _ _ _ _ h
def J61_49 (n : Nat) (rec4 : Int32 → Int32 → Mem → Option (Int32 × Mem)) (x3 : Int32) (s0 : Int32) (M : Mem) : Option (Int32 × Mem) :=
  rec4 s0 x3 M
set_option maxRecDepth 100000 in
set_option maxHeartbeats 4000000 in
theorem J61_49_ev (sc : Option (Nat × (Nat → Int32))) (n : Nat)  (e : Nat) (he : 2 ≤ e) (rec4 : Int32 → Int32 → Mem → Option (Int32 × Mem)) (hr4 : ∀ (x2 : Int32) (x3 : Int32) (u1 : Option Value) (M : Mem) (r : Int32) (M' : Mem), rec4 x2 x3 M = some (r, M') → pm_ev pmT sc e 61 false (4, [some (.ref 83), u1, some (.int x2), some (.int x3)], [], 129, 17845, hp M) (some (.int r), 129, 17845, hp M')) : ∀ (x3 : Int32) (s0 : Int32) (u1 : Option Value) (u2 : Option Value) (M : Mem) (r : Int32) (M' : Mem), J61_49 n rec4 x3 s0 M = some (r, M') → pm_ev pmT sc e 61 false (49, [some (.ref 83), u1, u2, some (.int x3)], [.int s0], 129, 17845, hp M) (some (.int r), 129, 17845, hp M') := by
  intro x3 s0 u1 u2 M r M' h
  unfold J61_49 at h
  refine pe_blk mm_61 2 (s' := (4, [some (.ref 83), u1, some (.int s0), some (.int x3)], [], _, _, _)) rfl ?_
  exact hr4 s0 x3 _ _ _ _ h
def L61_4 (n : Nat) : Nat → Int32 → Int32 → Mem → Option (Int32 × Mem)
  | 0, _, _, _ => none
  | k + 1, x2, x3, M => if x2 ≤ 0 then (some (x3, M)) else (if (x3 + 1) < 0 ∨ 320 ≤ (x3 + 1 : Int32).toNatClampNeg then none else (match F21 n (M.1 105 (x3 + 1 : Int32).toNatClampNeg) M with | some (v3, M4) => (if v3 = 0 then (if (x3 + 1) < 0 ∨ 320 ≤ (x3 + 1 : Int32).toNatClampNeg then none else (match F22 n (M4.1 105 (x3 + 1 : Int32).toNatClampNeg) M4 with | some (v8, M9) => (if v8 = 0 then (J61_49 n (L61_4 n k) (x3 + 1) x2 M9) else (J61_49 n (L61_4 n k) (x3 + 1) (x2 - 1) M9)) | none => none)) else (J61_49 n (L61_4 n k) (x3 + 1) (x2 + 1) M4)) | none => none))
set_option maxRecDepth 100000 in
set_option maxHeartbeats 4000000 in
theorem L61_4_ev (sc : Option (Nat × (Nat → Int32))) (n : Nat)  (e : Nat) (he : 2 ≤ e) : ∀ k : Nat, ∀ (x2 : Int32) (x3 : Int32) (u1 : Option Value) (M : Mem) (r : Int32) (M' : Mem), L61_4 n k x2 x3 M = some (r, M') → pm_ev pmT sc e 61 false (4, [some (.ref 83), u1, some (.int x2), some (.int x3)], [], 129, 17845, hp M) (some (.int r), 129, 17845, hp M') := by
  intro k
  induction k with
  | zero => intro x2 x3 u1 M r M' h; cases h
  | succ k hr4 =>
    intro x2 x3 u1 M r M' h
    rw [L61_4] at h
    refine pe_blk mm_61 1 (s' := (5, [some (.ref 83), u1, some (.int x2), some (.int x3)], [.int x2], _, _, _)) rfl ?_
    by_cases q1 : x2 ≤ 0
    · rw [if_pos q1] at h
      refine pe_blk mm_61 1 (s' := (if x2 ≤ 0 then 53 else 8, [some (.ref 83), u1, some (.int x2), some (.int x3)], [], _, _, _)) rfl ?_
      rw [if_pos q1]
      refine pe_blk mm_61 1 (s' := (54, [some (.ref 83), u1, some (.int x2), some (.int x3)], [.int x3], _, _, _)) rfl ?_
      cases h
      exact pe_ret mm_61 rfl rfl
    · rw [if_neg q1] at h
      refine pe_blk mm_61 1 (s' := (if x2 ≤ 0 then 53 else 8, [some (.ref 83), u1, some (.int x2), some (.int x3)], [], _, _, _)) rfl ?_
      rw [if_neg q1]
      refine pe_blk mm_61 5 (s' := (13, [some (.ref 83), u1, some (.int x2), some (.int (x3 + 1))], [.ref 83], _, _, _)) rfl ?_
      refine pe_get mm_61 rfl rfl rfl (by decide) rfl ?_
      refine pe_blk mm_61 1 (s' := (17, [some (.ref 83), u1, some (.int x2), some (.int (x3 + 1))], [.int (x3 + 1), .ref 105], _, _, _)) rfl ?_
      by_cases q2 : (x3 + 1) < 0 ∨ 320 ≤ (x3 + 1 : Int32).toNatClampNeg
      · rw [if_pos q2] at h
        cases h
      · rw [if_neg q2] at h
        refine pe_iald (f := M.1 105) mm_61 rfl rfl (by decide) q2 ?_
        obtain ⟨e1, rfl⟩ : ∃ e1, e = e1 + 1 := ⟨e - 1, by omega⟩
        cases hc5 : F21 n (M.1 105 (x3 + 1 : Int32).toNatClampNeg) M with
        | none => rw [hc5] at h; cases h
        | some w =>
          obtain ⟨v3, M4⟩ := w
          rw [hc5] at h
          dsimp only at h
          refine pe_stat (al := [.int (M.1 105 (x3 + 1 : Int32).toNatClampNeg)]) (L0 := [some (.int (M.1 105 (x3 + 1 : Int32).toNatClampNeg))]) (r1 := (some (.int v3), 129, 17845, hp M4)) mm_61 rfl rfl rfl mm_21 rfl (Nat.le_of_ble_eq_true rfl) (Nat.le_of_ble_eq_true rfl) rfl rfl (F21_ev sc n (M.1 105 (x3 + 1 : Int32).toNatClampNeg) _ e1 (by omega) _ _ hc5) ?_
          show pm_ev _ _ _ _ _ (21, [some (.ref 83), u1, some (.int x2), some (.int (x3 + 1))], [.int v3], _, _, _) _
          by_cases q6 : v3 = 0
          · rw [if_pos q6] at h
            refine pe_blk mm_61 1 (s' := (if v3 = 0 then 30 else 24, [some (.ref 83), u1, some (.int x2), some (.int (x3 + 1))], [], _, _, _)) rfl ?_
            rw [if_pos q6]
            refine pe_blk mm_61 1 (s' := (31, [some (.ref 83), u1, some (.int x2), some (.int (x3 + 1))], [.ref 83], _, _, _)) rfl ?_
            refine pe_get mm_61 rfl rfl rfl (by decide) rfl ?_
            refine pe_blk mm_61 1 (s' := (35, [some (.ref 83), u1, some (.int x2), some (.int (x3 + 1))], [.int (x3 + 1), .ref 105], _, _, _)) rfl ?_
            by_cases q7 : (x3 + 1) < 0 ∨ 320 ≤ (x3 + 1 : Int32).toNatClampNeg
            · rw [if_pos q7] at h
              cases h
            · rw [if_neg q7] at h
              refine pe_iald (f := M4.1 105) mm_61 rfl rfl (by decide) q7 ?_
              skip
              cases hc10 : F22 n (M4.1 105 (x3 + 1 : Int32).toNatClampNeg) M4 with
              | none => rw [hc10] at h; cases h
              | some w =>
                obtain ⟨v8, M9⟩ := w
                rw [hc10] at h
                dsimp only at h
                refine pe_stat (al := [.int (M4.1 105 (x3 + 1 : Int32).toNatClampNeg)]) (L0 := [some (.int (M4.1 105 (x3 + 1 : Int32).toNatClampNeg))]) (r1 := (some (.int v8), 129, 17845, hp M9)) mm_61 rfl rfl rfl mm_22 rfl (Nat.le_of_ble_eq_true rfl) (Nat.le_of_ble_eq_true rfl) rfl rfl (F22_ev sc n (M4.1 105 (x3 + 1 : Int32).toNatClampNeg) _ e1 (by omega) _ _ hc10) ?_
                show pm_ev _ _ _ _ _ (39, [some (.ref 83), u1, some (.int x2), some (.int (x3 + 1))], [.int v8], _, _, _) _
                by_cases q11 : v8 = 0
                · rw [if_pos q11] at h
                  refine pe_blk mm_61 1 (s' := (if v8 = 0 then 48 else 42, [some (.ref 83), u1, some (.int x2), some (.int (x3 + 1))], [], _, _, _)) rfl ?_
                  rw [if_pos q11]
                  refine pe_blk mm_61 1 (s' := (49, [some (.ref 83), u1, some (.int x2), some (.int (x3 + 1))], [.int x2], _, _, _)) rfl ?_
                  exact J61_49_ev sc n (e1 + 1) he (L61_4 n k) hr4 (x3 + 1) x2 _ _ _ _ _ h
                · rw [if_neg q11] at h
                  refine pe_blk mm_61 1 (s' := (if v8 = 0 then 48 else 42, [some (.ref 83), u1, some (.int x2), some (.int (x3 + 1))], [], _, _, _)) rfl ?_
                  rw [if_neg q11]
                  refine pe_blk mm_61 4 (s' := (49, [some (.ref 83), u1, some (.int x2), some (.int (x3 + 1))], [.int (x2 - 1)], _, _, _)) rfl ?_
                  exact J61_49_ev sc n (e1 + 1) he (L61_4 n k) hr4 (x3 + 1) (x2 - 1) _ _ _ _ _ h
          · rw [if_neg q6] at h
            refine pe_blk mm_61 1 (s' := (if v3 = 0 then 30 else 24, [some (.ref 83), u1, some (.int x2), some (.int (x3 + 1))], [], _, _, _)) rfl ?_
            rw [if_neg q6]
            refine pe_blk mm_61 4 (s' := (49, [some (.ref 83), u1, some (.int x2), some (.int (x3 + 1))], [.int (x2 + 1)], _, _, _)) rfl ?_
            exact J61_49_ev sc n (e1 + 1) he (L61_4 n k) hr4 (x3 + 1) (x2 + 1) _ _ _ _ _ h
/-- ArmExpanderModel.close -/
def F61 (n : Nat) (a0 : Int32) (M : Mem) : Option (Int32 × Mem) :=
  L61_4 n n 1 a0 M
set_option maxRecDepth 100000 in
set_option maxHeartbeats 4000000 in
theorem F61_ev (sc : Option (Nat × (Nat → Int32))) (n : Nat) (a0 : Int32)  (M : Mem) (e : Nat) (he : 2 ≤ e) (r : Int32) (M' : Mem) (h : F61 n a0 M = some (r, M')) : pm_ev pmT sc e 61 false (0, [some (.ref 83), some (.int a0), none, none], [], 129, 17845, hp M) (some (.int r), 129, 17845, hp M') := by
  unfold F61 at h
  refine pe_blk mm_61 4 (s' := (4, [some (.ref 83), some (.int a0), some (.int 1), some (.int a0)], [], _, _, _)) rfl ?_
  exact L61_4_ev sc n e he n 1 a0 _ _ _ _ h
def J62_202 (n : Nat) (s0 : Int32) (M : Mem) : Option (Int32 × Mem) :=
  some (s0, M)
set_option maxRecDepth 100000 in
set_option maxHeartbeats 4000000 in
theorem J62_202_ev (sc : Option (Nat × (Nat → Int32))) (n : Nat)  (e : Nat) (he : 3 ≤ e) : ∀ (s0 : Int32) (u0 : Option Value) (u1 : Option Value) (u2 : Option Value) (u3 : Option Value) (u4 : Option Value) (u5 : Option Value) (u6 : Option Value) (u7 : Option Value) (u8 : Option Value) (M : Mem) (r : Int32) (M' : Mem), J62_202 n s0 M = some (r, M') → pm_ev pmT sc e 62 false (202, [u0, u1, u2, u3, u4, u5, u6, u7, u8], [.int s0], 129, 17845, hp M) (some (.int r), 129, 17845, hp M') := by
  intro s0 u0 u1 u2 u3 u4 u5 u6 u7 u8 M r M' h
  unfold J62_202 at h
  cases h
  exact pe_ret mm_62 rfl rfl
def J62_190 (n : Nat) (x3 : Int32) (x6 : Int32) (M : Mem) : Option (Int32 × Mem) :=
  if x6 = 0 then (J62_202 n (-1) M) else (J62_202 n (x3 + 1) M)
set_option maxRecDepth 100000 in
set_option maxHeartbeats 4000000 in
theorem J62_190_ev (sc : Option (Nat × (Nat → Int32))) (n : Nat)  (e : Nat) (he : 3 ≤ e) : ∀ (x3 : Int32) (x6 : Int32) (u0 : Option Value) (u1 : Option Value) (u2 : Option Value) (u4 : Option Value) (u5 : Option Value) (u7 : Option Value) (u8 : Option Value) (M : Mem) (r : Int32) (M' : Mem), J62_190 n x3 x6 M = some (r, M') → pm_ev pmT sc e 62 false (190, [u0, u1, u2, some (.int x3), u4, u5, some (.int x6), u7, u8], [], 129, 17845, hp M) (some (.int r), 129, 17845, hp M') := by
  intro x3 x6 u0 u1 u2 u4 u5 u7 u8 M r M' h
  unfold J62_190 at h
  refine pe_blk mm_62 1 (s' := (192, [u0, u1, u2, some (.int x3), u4, u5, some (.int x6), u7, u8], [.int x6], _, _, _)) rfl ?_
  by_cases q10 : x6 = 0
  · rw [if_pos q10] at h
    refine pe_blk mm_62 1 (s' := (if x6 = 0 then 201 else 195, [u0, u1, u2, some (.int x3), u4, u5, some (.int x6), u7, u8], [], _, _, _)) rfl ?_
    rw [if_pos q10]
    refine pe_blk mm_62 1 (s' := (202, [u0, u1, u2, some (.int x3), u4, u5, some (.int x6), u7, u8], [.int (-1)], _, _, _)) rfl ?_
    exact J62_202_ev sc n e he (-1) _ _ _ _ _ _ _ _ _ _ _ _ h
  · rw [if_neg q10] at h
    refine pe_blk mm_62 1 (s' := (if x6 = 0 then 201 else 195, [u0, u1, u2, some (.int x3), u4, u5, some (.int x6), u7, u8], [], _, _, _)) rfl ?_
    rw [if_neg q10]
    refine pe_blk mm_62 4 (s' := (202, [u0, u1, u2, some (.int x3), u4, u5, some (.int x6), u7, u8], [.int (x3 + 1)], _, _, _)) rfl ?_
    exact J62_202_ev sc n e he (x3 + 1) _ _ _ _ _ _ _ _ _ _ _ _ h
def J62_184 (n : Nat) (rec54 : Int32 → Int32 → Int32 → Int32 → Int32 → Mem → Option (Int32 × Mem)) (x3 : Int32) (x4 : Int32) (x5 : Int32) (x6 : Int32) (x7 : Int32) (M : Mem) : Option (Int32 × Mem) :=
  rec54 x3 x4 x5 x6 (x7 + 1) M
set_option maxRecDepth 100000 in
set_option maxHeartbeats 4000000 in
theorem J62_184_ev (sc : Option (Nat × (Nat → Int32))) (n : Nat)  (e : Nat) (he : 3 ≤ e) (rec54 : Int32 → Int32 → Int32 → Int32 → Int32 → Mem → Option (Int32 × Mem)) (hr54 : ∀ (x3 : Int32) (x4 : Int32) (x5 : Int32) (x6 : Int32) (x7 : Int32) (u1 : Option Value) (u2 : Option Value) (u8 : Option Value) (M : Mem) (r : Int32) (M' : Mem), rec54 x3 x4 x5 x6 x7 M = some (r, M') → pm_ev pmT sc e 62 false (54, [some (.ref 83), u1, u2, some (.int x3), some (.int x4), some (.int x5), some (.int x6), some (.int x7), u8], [], 129, 17845, hp M) (some (.int r), 129, 17845, hp M')) : ∀ (x3 : Int32) (x4 : Int32) (x5 : Int32) (x6 : Int32) (x7 : Int32) (u1 : Option Value) (u2 : Option Value) (u8 : Option Value) (M : Mem) (r : Int32) (M' : Mem), J62_184 n rec54 x3 x4 x5 x6 x7 M = some (r, M') → pm_ev pmT sc e 62 false (184, [some (.ref 83), u1, u2, some (.int x3), some (.int x4), some (.int x5), some (.int x6), some (.int x7), u8], [], 129, 17845, hp M) (some (.int r), 129, 17845, hp M') := by
  intro x3 x4 x5 x6 x7 u1 u2 u8 M r M' h
  unfold J62_184 at h
  refine pe_blk mm_62 2 (s' := (54, [some (.ref 83), u1, u2, some (.int x3), some (.int x4), some (.int x5), some (.int x6), some (.int (x7 + 1)), u8], [], _, _, _)) rfl ?_
  exact hr54 x3 x4 x5 x6 (x7 + 1) _ _ _ _ _ _ h
def J62_122 (n : Nat) (rec54 : Int32 → Int32 → Int32 → Int32 → Int32 → Mem → Option (Int32 × Mem)) (x3 : Int32) (x4 : Int32) (x5 : Int32) (x7 : Int32) (s0 : Int32) (M : Mem) : Option (Int32 × Mem) :=
  J62_184 n rec54 x3 x4 x5 s0 x7 M
set_option maxRecDepth 100000 in
set_option maxHeartbeats 4000000 in
theorem J62_122_ev (sc : Option (Nat × (Nat → Int32))) (n : Nat)  (e : Nat) (he : 3 ≤ e) (rec54 : Int32 → Int32 → Int32 → Int32 → Int32 → Mem → Option (Int32 × Mem)) (hr54 : ∀ (x3 : Int32) (x4 : Int32) (x5 : Int32) (x6 : Int32) (x7 : Int32) (u1 : Option Value) (u2 : Option Value) (u8 : Option Value) (M : Mem) (r : Int32) (M' : Mem), rec54 x3 x4 x5 x6 x7 M = some (r, M') → pm_ev pmT sc e 62 false (54, [some (.ref 83), u1, u2, some (.int x3), some (.int x4), some (.int x5), some (.int x6), some (.int x7), u8], [], 129, 17845, hp M) (some (.int r), 129, 17845, hp M')) : ∀ (x3 : Int32) (x4 : Int32) (x5 : Int32) (x7 : Int32) (s0 : Int32) (u1 : Option Value) (u2 : Option Value) (u6 : Option Value) (u8 : Option Value) (M : Mem) (r : Int32) (M' : Mem), J62_122 n rec54 x3 x4 x5 x7 s0 M = some (r, M') → pm_ev pmT sc e 62 false (122, [some (.ref 83), u1, u2, some (.int x3), some (.int x4), some (.int x5), u6, some (.int x7), u8], [.int s0], 129, 17845, hp M) (some (.int r), 129, 17845, hp M') := by
  intro x3 x4 x5 x7 s0 u1 u2 u6 u8 M r M' h
  unfold J62_122 at h
  refine pe_blk mm_62 2 (s' := (184, [some (.ref 83), u1, u2, some (.int x3), some (.int x4), some (.int x5), some (.int s0), some (.int x7), u8], [], _, _, _)) rfl ?_
  exact J62_184_ev sc n e he rec54 hr54 x3 x4 x5 s0 x7 _ _ _ _ _ _ h
def J62_121 (n : Nat) (rec54 : Int32 → Int32 → Int32 → Int32 → Int32 → Mem → Option (Int32 × Mem)) (x3 : Int32) (x4 : Int32) (x5 : Int32) (x7 : Int32) (M : Mem) : Option (Int32 × Mem) :=
  J62_122 n rec54 x3 x4 x5 x7 0 M
set_option maxRecDepth 100000 in
set_option maxHeartbeats 4000000 in
theorem J62_121_ev (sc : Option (Nat × (Nat → Int32))) (n : Nat)  (e : Nat) (he : 3 ≤ e) (rec54 : Int32 → Int32 → Int32 → Int32 → Int32 → Mem → Option (Int32 × Mem)) (hr54 : ∀ (x3 : Int32) (x4 : Int32) (x5 : Int32) (x6 : Int32) (x7 : Int32) (u1 : Option Value) (u2 : Option Value) (u8 : Option Value) (M : Mem) (r : Int32) (M' : Mem), rec54 x3 x4 x5 x6 x7 M = some (r, M') → pm_ev pmT sc e 62 false (54, [some (.ref 83), u1, u2, some (.int x3), some (.int x4), some (.int x5), some (.int x6), some (.int x7), u8], [], 129, 17845, hp M) (some (.int r), 129, 17845, hp M')) : ∀ (x3 : Int32) (x4 : Int32) (x5 : Int32) (x7 : Int32) (u1 : Option Value) (u2 : Option Value) (u6 : Option Value) (u8 : Option Value) (M : Mem) (r : Int32) (M' : Mem), J62_121 n rec54 x3 x4 x5 x7 M = some (r, M') → pm_ev pmT sc e 62 false (121, [some (.ref 83), u1, u2, some (.int x3), some (.int x4), some (.int x5), u6, some (.int x7), u8], [], 129, 17845, hp M) (some (.int r), 129, 17845, hp M') := by
  intro x3 x4 x5 x7 u1 u2 u6 u8 M r M' h
  unfold J62_121 at h
  refine pe_blk mm_62 1 (s' := (122, [some (.ref 83), u1, u2, some (.int x3), some (.int x4), some (.int x5), u6, some (.int x7), u8], [.int 0], _, _, _)) rfl ?_
  exact J62_122_ev sc n e he rec54 hr54 x3 x4 x5 x7 0 _ _ _ _ _ _ _ h
def J62_150 (n : Nat) (rec54 : Int32 → Int32 → Int32 → Int32 → Int32 → Mem → Option (Int32 × Mem)) (x3 : Int32) (x4 : Int32) (x5 : Int32) (x7 : Int32) (s0 : Int32) (M : Mem) : Option (Int32 × Mem) :=
  J62_184 n rec54 x3 x4 x5 s0 x7 M
set_option maxRecDepth 100000 in
set_option maxHeartbeats 4000000 in
theorem J62_150_ev (sc : Option (Nat × (Nat → Int32))) (n : Nat)  (e : Nat) (he : 3 ≤ e) (rec54 : Int32 → Int32 → Int32 → Int32 → Int32 → Mem → Option (Int32 × Mem)) (hr54 : ∀ (x3 : Int32) (x4 : Int32) (x5 : Int32) (x6 : Int32) (x7 : Int32) (u1 : Option Value) (u2 : Option Value) (u8 : Option Value) (M : Mem) (r : Int32) (M' : Mem), rec54 x3 x4 x5 x6 x7 M = some (r, M') → pm_ev pmT sc e 62 false (54, [some (.ref 83), u1, u2, some (.int x3), some (.int x4), some (.int x5), some (.int x6), some (.int x7), u8], [], 129, 17845, hp M) (some (.int r), 129, 17845, hp M')) : ∀ (x3 : Int32) (x4 : Int32) (x5 : Int32) (x7 : Int32) (s0 : Int32) (u1 : Option Value) (u2 : Option Value) (u6 : Option Value) (u8 : Option Value) (M : Mem) (r : Int32) (M' : Mem), J62_150 n rec54 x3 x4 x5 x7 s0 M = some (r, M') → pm_ev pmT sc e 62 false (150, [some (.ref 83), u1, u2, some (.int x3), some (.int x4), some (.int x5), u6, some (.int x7), u8], [.int s0], 129, 17845, hp M) (some (.int r), 129, 17845, hp M') := by
  intro x3 x4 x5 x7 s0 u1 u2 u6 u8 M r M' h
  unfold J62_150 at h
  refine pe_blk mm_62 2 (s' := (184, [some (.ref 83), u1, u2, some (.int x3), some (.int x4), some (.int x5), some (.int s0), some (.int x7), u8], [], _, _, _)) rfl ?_
  exact J62_184_ev sc n e he rec54 hr54 x3 x4 x5 s0 x7 _ _ _ _ _ _ h
def J62_179 (n : Nat) (rec54 : Int32 → Int32 → Int32 → Int32 → Int32 → Mem → Option (Int32 × Mem)) (x3 : Int32) (x4 : Int32) (x7 : Int32) (s0 : Int32) (M : Mem) : Option (Int32 × Mem) :=
  J62_184 n rec54 x3 x4 1 s0 x7 M
set_option maxRecDepth 100000 in
set_option maxHeartbeats 4000000 in
theorem J62_179_ev (sc : Option (Nat × (Nat → Int32))) (n : Nat)  (e : Nat) (he : 3 ≤ e) (rec54 : Int32 → Int32 → Int32 → Int32 → Int32 → Mem → Option (Int32 × Mem)) (hr54 : ∀ (x3 : Int32) (x4 : Int32) (x5 : Int32) (x6 : Int32) (x7 : Int32) (u1 : Option Value) (u2 : Option Value) (u8 : Option Value) (M : Mem) (r : Int32) (M' : Mem), rec54 x3 x4 x5 x6 x7 M = some (r, M') → pm_ev pmT sc e 62 false (54, [some (.ref 83), u1, u2, some (.int x3), some (.int x4), some (.int x5), some (.int x6), some (.int x7), u8], [], 129, 17845, hp M) (some (.int r), 129, 17845, hp M')) : ∀ (x3 : Int32) (x4 : Int32) (x7 : Int32) (s0 : Int32) (u1 : Option Value) (u2 : Option Value) (u5 : Option Value) (u6 : Option Value) (u8 : Option Value) (M : Mem) (r : Int32) (M' : Mem), J62_179 n rec54 x3 x4 x7 s0 M = some (r, M') → pm_ev pmT sc e 62 false (179, [some (.ref 83), u1, u2, some (.int x3), some (.int x4), u5, u6, some (.int x7), u8], [.int s0], 129, 17845, hp M) (some (.int r), 129, 17845, hp M') := by
  intro x3 x4 x7 s0 u1 u2 u5 u6 u8 M r M' h
  unfold J62_179 at h
  refine pe_blk mm_62 3 (s' := (184, [some (.ref 83), u1, u2, some (.int x3), some (.int x4), some (.int 1), some (.int s0), some (.int x7), u8], [], _, _, _)) rfl ?_
  exact J62_184_ev sc n e he rec54 hr54 x3 x4 1 s0 x7 _ _ _ _ _ _ h
def J62_174 (n : Nat) (rec54 : Int32 → Int32 → Int32 → Int32 → Int32 → Mem → Option (Int32 × Mem)) (x3 : Int32) (x4 : Int32) (x7 : Int32) (M : Mem) : Option (Int32 × Mem) :=
  J62_179 n rec54 x3 x4 x7 1 M
set_option maxRecDepth 100000 in
set_option maxHeartbeats 4000000 in
theorem J62_174_ev (sc : Option (Nat × (Nat → Int32))) (n : Nat)  (e : Nat) (he : 3 ≤ e) (rec54 : Int32 → Int32 → Int32 → Int32 → Int32 → Mem → Option (Int32 × Mem)) (hr54 : ∀ (x3 : Int32) (x4 : Int32) (x5 : Int32) (x6 : Int32) (x7 : Int32) (u1 : Option Value) (u2 : Option Value) (u8 : Option Value) (M : Mem) (r : Int32) (M' : Mem), rec54 x3 x4 x5 x6 x7 M = some (r, M') → pm_ev pmT sc e 62 false (54, [some (.ref 83), u1, u2, some (.int x3), some (.int x4), some (.int x5), some (.int x6), some (.int x7), u8], [], 129, 17845, hp M) (some (.int r), 129, 17845, hp M')) : ∀ (x3 : Int32) (x4 : Int32) (x7 : Int32) (u1 : Option Value) (u2 : Option Value) (u5 : Option Value) (u6 : Option Value) (u8 : Option Value) (M : Mem) (r : Int32) (M' : Mem), J62_174 n rec54 x3 x4 x7 M = some (r, M') → pm_ev pmT sc e 62 false (174, [some (.ref 83), u1, u2, some (.int x3), some (.int x4), u5, u6, some (.int x7), u8], [], 129, 17845, hp M) (some (.int r), 129, 17845, hp M') := by
  intro x3 x4 x7 u1 u2 u5 u6 u8 M r M' h
  unfold J62_174 at h
  refine pe_blk mm_62 2 (s' := (179, [some (.ref 83), u1, u2, some (.int x3), some (.int x4), u5, u6, some (.int x7), u8], [.int 1], _, _, _)) rfl ?_
  exact J62_179_ev sc n e he rec54 hr54 x3 x4 x7 1 _ _ _ _ _ _ _ _ h
def J62_178 (n : Nat) (rec54 : Int32 → Int32 → Int32 → Int32 → Int32 → Mem → Option (Int32 × Mem)) (x3 : Int32) (x4 : Int32) (x7 : Int32) (M : Mem) : Option (Int32 × Mem) :=
  J62_179 n rec54 x3 x4 x7 0 M
set_option maxRecDepth 100000 in
set_option maxHeartbeats 4000000 in
theorem J62_178_ev (sc : Option (Nat × (Nat → Int32))) (n : Nat)  (e : Nat) (he : 3 ≤ e) (rec54 : Int32 → Int32 → Int32 → Int32 → Int32 → Mem → Option (Int32 × Mem)) (hr54 : ∀ (x3 : Int32) (x4 : Int32) (x5 : Int32) (x6 : Int32) (x7 : Int32) (u1 : Option Value) (u2 : Option Value) (u8 : Option Value) (M : Mem) (r : Int32) (M' : Mem), rec54 x3 x4 x5 x6 x7 M = some (r, M') → pm_ev pmT sc e 62 false (54, [some (.ref 83), u1, u2, some (.int x3), some (.int x4), some (.int x5), some (.int x6), some (.int x7), u8], [], 129, 17845, hp M) (some (.int r), 129, 17845, hp M')) : ∀ (x3 : Int32) (x4 : Int32) (x7 : Int32) (u1 : Option Value) (u2 : Option Value) (u5 : Option Value) (u6 : Option Value) (u8 : Option Value) (M : Mem) (r : Int32) (M' : Mem), J62_178 n rec54 x3 x4 x7 M = some (r, M') → pm_ev pmT sc e 62 false (178, [some (.ref 83), u1, u2, some (.int x3), some (.int x4), u5, u6, some (.int x7), u8], [], 129, 17845, hp M) (some (.int r), 129, 17845, hp M') := by
  intro x3 x4 x7 u1 u2 u5 u6 u8 M r M' h
  unfold J62_178 at h
  refine pe_blk mm_62 1 (s' := (179, [some (.ref 83), u1, u2, some (.int x3), some (.int x4), u5, u6, some (.int x7), u8], [.int 0], _, _, _)) rfl ?_
  exact J62_179_ev sc n e he rec54 hr54 x3 x4 x7 0 _ _ _ _ _ _ _ _ h
def L62_54 (n : Nat) : Nat → Int32 → Int32 → Int32 → Int32 → Int32 → Mem → Option (Int32 × Mem)
  | 0, _, _, _, _, _, _ => none
  | k + 1, x3, x4, x5, x6, x7, M => if x3 < x7 then (J62_190 n x3 x6 M) else (if x6 = 0 then (J62_190 n x3 x6 M) else (if x7 < 0 ∨ 320 ≤ (x7 : Int32).toNatClampNeg then none else (if (M.1 105 (x7 : Int32).toNatClampNeg) < 300 then (if (M.1 105 (x7 : Int32).toNatClampNeg) = 40 then (if x5 = 0 then (J62_121 n (L62_54 n k) x3 (x4 + 1) x5 x7 M) else (if 6 < (x4 + 1) then (J62_121 n (L62_54 n k) x3 (x4 + 1) x5 x7 M) else (J62_122 n (L62_54 n k) x3 (x4 + 1) x5 x7 1 M))) else (if (M.1 105 (x7 : Int32).toNatClampNeg) = 41 then (if x5 = 0 then (J62_150 n (L62_54 n k) x3 (x4 - 1) x5 x7 1 M) else (J62_150 n (L62_54 n k) x3 (x4 - 1) x5 x7 0 M)) else (if x5 = 0 then (if (M.1 105 (x7 : Int32).toNatClampNeg) = 43 then (J62_174 n (L62_54 n k) x3 x4 x7 M) else (if (M.1 105 (x7 : Int32).toNatClampNeg) = 42 then (J62_174 n (L62_54 n k) x3 x4 x7 M) else (J62_178 n (L62_54 n k) x3 x4 x7 M))) else (J62_178 n (L62_54 n k) x3 x4 x7 M)))) else (J62_184 n (L62_54 n k) x3 x4 0 x5 x7 M))))
set_option maxRecDepth 100000 in
set_option maxHeartbeats 4000000 in
theorem L62_54_ev (sc : Option (Nat × (Nat → Int32))) (n : Nat)  (e : Nat) (he : 3 ≤ e) : ∀ k : Nat, ∀ (x3 : Int32) (x4 : Int32) (x5 : Int32) (x6 : Int32) (x7 : Int32) (u1 : Option Value) (u2 : Option Value) (u8 : Option Value) (M : Mem) (r : Int32) (M' : Mem), L62_54 n k x3 x4 x5 x6 x7 M = some (r, M') → pm_ev pmT sc e 62 false (54, [some (.ref 83), u1, u2, some (.int x3), some (.int x4), some (.int x5), some (.int x6), some (.int x7), u8], [], 129, 17845, hp M) (some (.int r), 129, 17845, hp M') := by
  intro k
  induction k with
  | zero => intro x3 x4 x5 x6 x7 u1 u2 u8 M r M' h; cases h
  | succ k hr54 =>
    intro x3 x4 x5 x6 x7 u1 u2 u8 M r M' h
    rw [L62_54] at h
    refine pe_blk mm_62 2 (s' := (57, [some (.ref 83), u1, u2, some (.int x3), some (.int x4), some (.int x5), some (.int x6), some (.int x7), u8], [.int x3, .int x7], _, _, _)) rfl ?_
    by_cases q9 : x3 < x7
    · rw [if_pos q9] at h
      refine pe_blk mm_62 1 (s' := (if x3 < x7 then 190 else 60, [some (.ref 83), u1, u2, some (.int x3), some (.int x4), some (.int x5), some (.int x6), some (.int x7), u8], [], _, _, _)) rfl ?_
      rw [if_pos q9]
      exact J62_190_ev sc n e he x3 x6 _ _ _ _ _ _ _ _ _ _ h
    · rw [if_neg q9] at h
      refine pe_blk mm_62 1 (s' := (if x3 < x7 then 190 else 60, [some (.ref 83), u1, u2, some (.int x3), some (.int x4), some (.int x5), some (.int x6), some (.int x7), u8], [], _, _, _)) rfl ?_
      rw [if_neg q9]
      refine pe_blk mm_62 1 (s' := (62, [some (.ref 83), u1, u2, some (.int x3), some (.int x4), some (.int x5), some (.int x6), some (.int x7), u8], [.int x6], _, _, _)) rfl ?_
      by_cases q11 : x6 = 0
      · rw [if_pos q11] at h
        refine pe_blk mm_62 1 (s' := (if x6 = 0 then 190 else 65, [some (.ref 83), u1, u2, some (.int x3), some (.int x4), some (.int x5), some (.int x6), some (.int x7), u8], [], _, _, _)) rfl ?_
        rw [if_pos q11]
        exact J62_190_ev sc n e he x3 x6 _ _ _ _ _ _ _ _ _ _ h
      · rw [if_neg q11] at h
        refine pe_blk mm_62 1 (s' := (if x6 = 0 then 190 else 65, [some (.ref 83), u1, u2, some (.int x3), some (.int x4), some (.int x5), some (.int x6), some (.int x7), u8], [], _, _, _)) rfl ?_
        rw [if_neg q11]
        refine pe_blk mm_62 1 (s' := (66, [some (.ref 83), u1, u2, some (.int x3), some (.int x4), some (.int x5), some (.int x6), some (.int x7), u8], [.ref 83], _, _, _)) rfl ?_
        refine pe_get mm_62 rfl rfl rfl (by decide) rfl ?_
        refine pe_blk mm_62 1 (s' := (71, [some (.ref 83), u1, u2, some (.int x3), some (.int x4), some (.int x5), some (.int x6), some (.int x7), u8], [.int x7, .ref 105], _, _, _)) rfl ?_
        by_cases q12 : x7 < 0 ∨ 320 ≤ (x7 : Int32).toNatClampNeg
        · rw [if_pos q12] at h
          cases h
        · rw [if_neg q12] at h
          refine pe_iald (f := M.1 105) mm_62 rfl rfl (by decide) q12 ?_
          refine pe_blk mm_62 3 (s' := (79, [some (.ref 83), u1, u2, some (.int x3), some (.int x4), some (.int x5), some (.int x6), some (.int x7), some (.int (M.1 105 (x7 : Int32).toNatClampNeg))], [.int 300, .int (M.1 105 (x7 : Int32).toNatClampNeg)], _, _, _)) rfl ?_
          by_cases q13 : (M.1 105 (x7 : Int32).toNatClampNeg) < 300
          · rw [if_pos q13] at h
            refine pe_blk mm_62 1 (s' := (if (M.1 105 (x7 : Int32).toNatClampNeg) < 300 then 92 else 82, [some (.ref 83), u1, u2, some (.int x3), some (.int x4), some (.int x5), some (.int x6), some (.int x7), some (.int (M.1 105 (x7 : Int32).toNatClampNeg))], [], _, _, _)) rfl ?_
            rw [if_pos q13]
            refine pe_blk mm_62 2 (s' := (96, [some (.ref 83), u1, u2, some (.int x3), some (.int x4), some (.int x5), some (.int x6), some (.int x7), some (.int (M.1 105 (x7 : Int32).toNatClampNeg))], [.int 40, .int (M.1 105 (x7 : Int32).toNatClampNeg)], _, _, _)) rfl ?_
            by_cases q14 : (M.1 105 (x7 : Int32).toNatClampNeg) = 40
            · rw [if_pos q14] at h
              refine pe_blk mm_62 1 (s' := (if (M.1 105 (x7 : Int32).toNatClampNeg) = 40 then 99 else 127, [some (.ref 83), u1, u2, some (.int x3), some (.int x4), some (.int x5), some (.int x6), some (.int x7), some (.int (M.1 105 (x7 : Int32).toNatClampNeg))], [], _, _, _)) rfl ?_
              rw [if_pos q14]
              refine pe_blk mm_62 5 (s' := (107, [some (.ref 83), u1, u2, some (.int x3), some (.int (x4 + 1)), some (.int x5), some (.int x6), some (.int x7), some (.int (M.1 105 (x7 : Int32).toNatClampNeg))], [.int x5], _, _, _)) rfl ?_
              by_cases q15 : x5 = 0
              · rw [if_pos q15] at h
                refine pe_blk mm_62 1 (s' := (if x5 = 0 then 121 else 110, [some (.ref 83), u1, u2, some (.int x3), some (.int (x4 + 1)), some (.int x5), some (.int x6), some (.int x7), some (.int (M.1 105 (x7 : Int32).toNatClampNeg))], [], _, _, _)) rfl ?_
                rw [if_pos q15]
                exact J62_121_ev sc n e he (L62_54 n k) hr54 x3 (x4 + 1) x5 x7 _ _ _ _ _ _ _ h
              · rw [if_neg q15] at h
                refine pe_blk mm_62 1 (s' := (if x5 = 0 then 121 else 110, [some (.ref 83), u1, u2, some (.int x3), some (.int (x4 + 1)), some (.int x5), some (.int x6), some (.int x7), some (.int (M.1 105 (x7 : Int32).toNatClampNeg))], [], _, _, _)) rfl ?_
                rw [if_neg q15]
                refine pe_blk mm_62 2 (s' := (114, [some (.ref 83), u1, u2, some (.int x3), some (.int (x4 + 1)), some (.int x5), some (.int x6), some (.int x7), some (.int (M.1 105 (x7 : Int32).toNatClampNeg))], [.int 6, .int (x4 + 1)], _, _, _)) rfl ?_
                by_cases q16 : 6 < (x4 + 1)
                · rw [if_pos q16] at h
                  refine pe_blk mm_62 1 (s' := (if 6 < (x4 + 1) then 121 else 117, [some (.ref 83), u1, u2, some (.int x3), some (.int (x4 + 1)), some (.int x5), some (.int x6), some (.int x7), some (.int (M.1 105 (x7 : Int32).toNatClampNeg))], [], _, _, _)) rfl ?_
                  rw [if_pos q16]
                  exact J62_121_ev sc n e he (L62_54 n k) hr54 x3 (x4 + 1) x5 x7 _ _ _ _ _ _ _ h
                · rw [if_neg q16] at h
                  refine pe_blk mm_62 1 (s' := (if 6 < (x4 + 1) then 121 else 117, [some (.ref 83), u1, u2, some (.int x3), some (.int (x4 + 1)), some (.int x5), some (.int x6), some (.int x7), some (.int (M.1 105 (x7 : Int32).toNatClampNeg))], [], _, _, _)) rfl ?_
                  rw [if_neg q16]
                  refine pe_blk mm_62 2 (s' := (122, [some (.ref 83), u1, u2, some (.int x3), some (.int (x4 + 1)), some (.int x5), some (.int x6), some (.int x7), some (.int (M.1 105 (x7 : Int32).toNatClampNeg))], [.int 1], _, _, _)) rfl ?_
                  exact J62_122_ev sc n e he (L62_54 n k) hr54 x3 (x4 + 1) x5 x7 1 _ _ _ _ _ _ _ h
            · rw [if_neg q14] at h
              refine pe_blk mm_62 1 (s' := (if (M.1 105 (x7 : Int32).toNatClampNeg) = 40 then 99 else 127, [some (.ref 83), u1, u2, some (.int x3), some (.int x4), some (.int x5), some (.int x6), some (.int x7), some (.int (M.1 105 (x7 : Int32).toNatClampNeg))], [], _, _, _)) rfl ?_
              rw [if_neg q14]
              refine pe_blk mm_62 2 (s' := (131, [some (.ref 83), u1, u2, some (.int x3), some (.int x4), some (.int x5), some (.int x6), some (.int x7), some (.int (M.1 105 (x7 : Int32).toNatClampNeg))], [.int 41, .int (M.1 105 (x7 : Int32).toNatClampNeg)], _, _, _)) rfl ?_
              by_cases q17 : (M.1 105 (x7 : Int32).toNatClampNeg) = 41
              · rw [if_pos q17] at h
                refine pe_blk mm_62 1 (s' := (if (M.1 105 (x7 : Int32).toNatClampNeg) = 41 then 134 else 155, [some (.ref 83), u1, u2, some (.int x3), some (.int x4), some (.int x5), some (.int x6), some (.int x7), some (.int (M.1 105 (x7 : Int32).toNatClampNeg))], [], _, _, _)) rfl ?_
                rw [if_pos q17]
                refine pe_blk mm_62 5 (s' := (142, [some (.ref 83), u1, u2, some (.int x3), some (.int (x4 - 1)), some (.int x5), some (.int x6), some (.int x7), some (.int (M.1 105 (x7 : Int32).toNatClampNeg))], [.int x5], _, _, _)) rfl ?_
                by_cases q18 : x5 = 0
                · rw [if_pos q18] at h
                  refine pe_blk mm_62 1 (s' := (if x5 = 0 then 145 else 149, [some (.ref 83), u1, u2, some (.int x3), some (.int (x4 - 1)), some (.int x5), some (.int x6), some (.int x7), some (.int (M.1 105 (x7 : Int32).toNatClampNeg))], [], _, _, _)) rfl ?_
                  rw [if_pos q18]
                  refine pe_blk mm_62 2 (s' := (150, [some (.ref 83), u1, u2, some (.int x3), some (.int (x4 - 1)), some (.int x5), some (.int x6), some (.int x7), some (.int (M.1 105 (x7 : Int32).toNatClampNeg))], [.int 1], _, _, _)) rfl ?_
                  exact J62_150_ev sc n e he (L62_54 n k) hr54 x3 (x4 - 1) x5 x7 1 _ _ _ _ _ _ _ h
                · rw [if_neg q18] at h
                  refine pe_blk mm_62 1 (s' := (if x5 = 0 then 145 else 149, [some (.ref 83), u1, u2, some (.int x3), some (.int (x4 - 1)), some (.int x5), some (.int x6), some (.int x7), some (.int (M.1 105 (x7 : Int32).toNatClampNeg))], [], _, _, _)) rfl ?_
                  rw [if_neg q18]
                  refine pe_blk mm_62 1 (s' := (150, [some (.ref 83), u1, u2, some (.int x3), some (.int (x4 - 1)), some (.int x5), some (.int x6), some (.int x7), some (.int (M.1 105 (x7 : Int32).toNatClampNeg))], [.int 0], _, _, _)) rfl ?_
                  exact J62_150_ev sc n e he (L62_54 n k) hr54 x3 (x4 - 1) x5 x7 0 _ _ _ _ _ _ _ h
              · rw [if_neg q17] at h
                refine pe_blk mm_62 1 (s' := (if (M.1 105 (x7 : Int32).toNatClampNeg) = 41 then 134 else 155, [some (.ref 83), u1, u2, some (.int x3), some (.int x4), some (.int x5), some (.int x6), some (.int x7), some (.int (M.1 105 (x7 : Int32).toNatClampNeg))], [], _, _, _)) rfl ?_
                rw [if_neg q17]
                refine pe_blk mm_62 1 (s' := (157, [some (.ref 83), u1, u2, some (.int x3), some (.int x4), some (.int x5), some (.int x6), some (.int x7), some (.int (M.1 105 (x7 : Int32).toNatClampNeg))], [.int x5], _, _, _)) rfl ?_
                by_cases q19 : x5 = 0
                · rw [if_pos q19] at h
                  refine pe_blk mm_62 1 (s' := (if x5 = 0 then 160 else 178, [some (.ref 83), u1, u2, some (.int x3), some (.int x4), some (.int x5), some (.int x6), some (.int x7), some (.int (M.1 105 (x7 : Int32).toNatClampNeg))], [], _, _, _)) rfl ?_
                  rw [if_pos q19]
                  refine pe_blk mm_62 2 (s' := (164, [some (.ref 83), u1, u2, some (.int x3), some (.int x4), some (.int x5), some (.int x6), some (.int x7), some (.int (M.1 105 (x7 : Int32).toNatClampNeg))], [.int 43, .int (M.1 105 (x7 : Int32).toNatClampNeg)], _, _, _)) rfl ?_
                  by_cases q20 : (M.1 105 (x7 : Int32).toNatClampNeg) = 43
                  · rw [if_pos q20] at h
                    refine pe_blk mm_62 1 (s' := (if (M.1 105 (x7 : Int32).toNatClampNeg) = 43 then 174 else 167, [some (.ref 83), u1, u2, some (.int x3), some (.int x4), some (.int x5), some (.int x6), some (.int x7), some (.int (M.1 105 (x7 : Int32).toNatClampNeg))], [], _, _, _)) rfl ?_
                    rw [if_pos q20]
                    exact J62_174_ev sc n e he (L62_54 n k) hr54 x3 x4 x7 _ _ _ _ _ _ _ _ h
                  · rw [if_neg q20] at h
                    refine pe_blk mm_62 1 (s' := (if (M.1 105 (x7 : Int32).toNatClampNeg) = 43 then 174 else 167, [some (.ref 83), u1, u2, some (.int x3), some (.int x4), some (.int x5), some (.int x6), some (.int x7), some (.int (M.1 105 (x7 : Int32).toNatClampNeg))], [], _, _, _)) rfl ?_
                    rw [if_neg q20]
                    refine pe_blk mm_62 2 (s' := (171, [some (.ref 83), u1, u2, some (.int x3), some (.int x4), some (.int x5), some (.int x6), some (.int x7), some (.int (M.1 105 (x7 : Int32).toNatClampNeg))], [.int 42, .int (M.1 105 (x7 : Int32).toNatClampNeg)], _, _, _)) rfl ?_
                    by_cases q21 : (M.1 105 (x7 : Int32).toNatClampNeg) = 42
                    · rw [if_pos q21] at h
                      refine pe_blk mm_62 1 (s' := (if (M.1 105 (x7 : Int32).toNatClampNeg) = 42 then 174 else 178, [some (.ref 83), u1, u2, some (.int x3), some (.int x4), some (.int x5), some (.int x6), some (.int x7), some (.int (M.1 105 (x7 : Int32).toNatClampNeg))], [], _, _, _)) rfl ?_
                      rw [if_pos q21]
                      exact J62_174_ev sc n e he (L62_54 n k) hr54 x3 x4 x7 _ _ _ _ _ _ _ _ h
                    · rw [if_neg q21] at h
                      refine pe_blk mm_62 1 (s' := (if (M.1 105 (x7 : Int32).toNatClampNeg) = 42 then 174 else 178, [some (.ref 83), u1, u2, some (.int x3), some (.int x4), some (.int x5), some (.int x6), some (.int x7), some (.int (M.1 105 (x7 : Int32).toNatClampNeg))], [], _, _, _)) rfl ?_
                      rw [if_neg q21]
                      exact J62_178_ev sc n e he (L62_54 n k) hr54 x3 x4 x7 _ _ _ _ _ _ _ _ h
                · rw [if_neg q19] at h
                  refine pe_blk mm_62 1 (s' := (if x5 = 0 then 160 else 178, [some (.ref 83), u1, u2, some (.int x3), some (.int x4), some (.int x5), some (.int x6), some (.int x7), some (.int (M.1 105 (x7 : Int32).toNatClampNeg))], [], _, _, _)) rfl ?_
                  rw [if_neg q19]
                  exact J62_178_ev sc n e he (L62_54 n k) hr54 x3 x4 x7 _ _ _ _ _ _ _ _ h
          · rw [if_neg q13] at h
            refine pe_blk mm_62 1 (s' := (if (M.1 105 (x7 : Int32).toNatClampNeg) < 300 then 92 else 82, [some (.ref 83), u1, u2, some (.int x3), some (.int x4), some (.int x5), some (.int x6), some (.int x7), some (.int (M.1 105 (x7 : Int32).toNatClampNeg))], [], _, _, _)) rfl ?_
            rw [if_neg q13]
            refine pe_blk mm_62 5 (s' := (184, [some (.ref 83), u1, u2, some (.int x3), some (.int x4), some (.int 0), some (.int x5), some (.int x7), some (.int (M.1 105 (x7 : Int32).toNatClampNeg))], [], _, _, _)) rfl ?_
            exact J62_184_ev sc n e he (L62_54 n k) hr54 x3 x4 0 x5 x7 _ _ _ _ _ _ h
/-- ArmExpanderModel.operand -/
def F62 (n : Nat) (a0 : Int32) (a1 : Int32) (M : Mem) : Option (Int32 × Mem) :=
  if a0 < a1 then (if a0 < 0 ∨ 320 ≤ (a0 : Int32).toNatClampNeg then none else (if (M.1 105 (a0 : Int32).toNatClampNeg) < 300 then (if a0 < 0 ∨ 320 ≤ (a0 : Int32).toNatClampNeg then none else (if (M.1 105 (a0 : Int32).toNatClampNeg) = 40 then (match F61 n a0 M with | some (v6, M7) => (L62_54 n n v6 0 1 1 a0 M7) | none => none) else (some ((-1), M)))) else (some (a0 + 1, M)))) else (some ((-1), M))
set_option maxRecDepth 100000 in
set_option maxHeartbeats 4000000 in
theorem F62_ev (sc : Option (Nat × (Nat → Int32))) (n : Nat) (a0 : Int32) (a1 : Int32)  (M : Mem) (e : Nat) (he : 3 ≤ e) (r : Int32) (M' : Mem) (h : F62 n a0 a1 M = some (r, M')) : pm_ev pmT sc e 62 false (0, [some (.ref 83), some (.int a0), some (.int a1), none, none, none, none, none, none], [], 129, 17845, hp M) (some (.int r), 129, 17845, hp M') := by
  unfold F62 at h
  refine pe_blk mm_62 2 (s' := (2, [some (.ref 83), some (.int a0), some (.int a1), none, none, none, none, none, none], [.int a1, .int a0], _, _, _)) rfl ?_
  by_cases q1 : a0 < a1
  · rw [if_pos q1] at h
    refine pe_blk mm_62 1 (s' := (if a0 < a1 then 7 else 5, [some (.ref 83), some (.int a0), some (.int a1), none, none, none, none, none, none], [], _, _, _)) rfl ?_
    rw [if_pos q1]
    refine pe_blk mm_62 1 (s' := (8, [some (.ref 83), some (.int a0), some (.int a1), none, none, none, none, none, none], [.ref 83], _, _, _)) rfl ?_
    refine pe_get mm_62 rfl rfl rfl (by decide) rfl ?_
    refine pe_blk mm_62 1 (s' := (12, [some (.ref 83), some (.int a0), some (.int a1), none, none, none, none, none, none], [.int a0, .ref 105], _, _, _)) rfl ?_
    by_cases q2 : a0 < 0 ∨ 320 ≤ (a0 : Int32).toNatClampNeg
    · rw [if_pos q2] at h
      cases h
    · rw [if_neg q2] at h
      refine pe_iald (f := M.1 105) mm_62 rfl rfl (by decide) q2 ?_
      refine pe_blk mm_62 1 (s' := (16, [some (.ref 83), some (.int a0), some (.int a1), none, none, none, none, none, none], [.int 300, .int (M.1 105 (a0 : Int32).toNatClampNeg)], _, _, _)) rfl ?_
      by_cases q3 : (M.1 105 (a0 : Int32).toNatClampNeg) < 300
      · rw [if_pos q3] at h
        refine pe_blk mm_62 1 (s' := (if (M.1 105 (a0 : Int32).toNatClampNeg) < 300 then 23 else 19, [some (.ref 83), some (.int a0), some (.int a1), none, none, none, none, none, none], [], _, _, _)) rfl ?_
        rw [if_pos q3]
        refine pe_blk mm_62 1 (s' := (24, [some (.ref 83), some (.int a0), some (.int a1), none, none, none, none, none, none], [.ref 83], _, _, _)) rfl ?_
        refine pe_get mm_62 rfl rfl rfl (by decide) rfl ?_
        refine pe_blk mm_62 1 (s' := (28, [some (.ref 83), some (.int a0), some (.int a1), none, none, none, none, none, none], [.int a0, .ref 105], _, _, _)) rfl ?_
        by_cases q4 : a0 < 0 ∨ 320 ≤ (a0 : Int32).toNatClampNeg
        · rw [if_pos q4] at h
          cases h
        · rw [if_neg q4] at h
          refine pe_iald (f := M.1 105) mm_62 rfl rfl (by decide) q4 ?_
          refine pe_blk mm_62 1 (s' := (31, [some (.ref 83), some (.int a0), some (.int a1), none, none, none, none, none, none], [.int 40, .int (M.1 105 (a0 : Int32).toNatClampNeg)], _, _, _)) rfl ?_
          by_cases q5 : (M.1 105 (a0 : Int32).toNatClampNeg) = 40
          · rw [if_pos q5] at h
            refine pe_blk mm_62 1 (s' := (if (M.1 105 (a0 : Int32).toNatClampNeg) = 40 then 36 else 34, [some (.ref 83), some (.int a0), some (.int a1), none, none, none, none, none, none], [], _, _, _)) rfl ?_
            rw [if_pos q5]
            refine pe_blk mm_62 2 (s' := (38, [some (.ref 83), some (.int a0), some (.int a1), none, none, none, none, none, none], [.int a0, .ref 83], _, _, _)) rfl ?_
            obtain ⟨e1, rfl⟩ : ∃ e1, e = e1 + 1 := ⟨e - 1, by omega⟩
            cases hc8 : F61 n a0 M with
            | none => rw [hc8] at h; cases h
            | some w =>
              obtain ⟨v6, M7⟩ := w
              rw [hc8] at h
              dsimp only at h
              refine pe_virt (al := [.int a0]) (a := 83) (L0 := [some (.ref 83), some (.int a0), none, none]) (r1 := (some (.int v6), 129, 17845, hp M7)) mm_62 rfl rfl rfl mm_61 rfl (by decide) (by decide) rfl (Nat.le_of_ble_eq_true rfl) (Nat.le_of_ble_eq_true rfl) rfl rfl (F61_ev sc n a0 _ e1 (by omega) _ _ hc8) ?_
              show pm_ev _ _ _ _ _ (41, [some (.ref 83), some (.int a0), some (.int a1), none, none, none, none, none, none], [.int v6], _, _, _) _
              refine pe_blk mm_62 9 (s' := (54, [some (.ref 83), some (.int a0), some (.int a1), some (.int v6), some (.int 0), some (.int 1), some (.int 1), some (.int a0), none], [], _, _, _)) rfl ?_
              exact L62_54_ev sc n (e1 + 1) he n v6 0 1 1 a0 _ _ _ _ _ _ h
          · rw [if_neg q5] at h
            refine pe_blk mm_62 1 (s' := (if (M.1 105 (a0 : Int32).toNatClampNeg) = 40 then 36 else 34, [some (.ref 83), some (.int a0), some (.int a1), none, none, none, none, none, none], [], _, _, _)) rfl ?_
            rw [if_neg q5]
            refine pe_blk mm_62 1 (s' := (35, [some (.ref 83), some (.int a0), some (.int a1), none, none, none, none, none, none], [.int (-1)], _, _, _)) rfl ?_
            cases h
            exact pe_ret mm_62 rfl rfl
      · rw [if_neg q3] at h
        refine pe_blk mm_62 1 (s' := (if (M.1 105 (a0 : Int32).toNatClampNeg) < 300 then 23 else 19, [some (.ref 83), some (.int a0), some (.int a1), none, none, none, none, none, none], [], _, _, _)) rfl ?_
        rw [if_neg q3]
        refine pe_blk mm_62 3 (s' := (22, [some (.ref 83), some (.int a0), some (.int a1), none, none, none, none, none, none], [.int (a0 + 1)], _, _, _)) rfl ?_
        cases h
        exact pe_ret mm_62 rfl rfl
  · rw [if_neg q1] at h
    refine pe_blk mm_62 1 (s' := (if a0 < a1 then 7 else 5, [some (.ref 83), some (.int a0), some (.int a1), none, none, none, none, none, none], [], _, _, _)) rfl ?_
    rw [if_neg q1]
    refine pe_blk mm_62 1 (s' := (6, [some (.ref 83), some (.int a0), some (.int a1), none, none, none, none, none, none], [.int (-1)], _, _, _)) rfl ?_
    cases h
    exact pe_ret mm_62 rfl rfl
def J63_87 (n : Nat) (rec18 : Int32 → Int32 → Int32 → Mem → Option (Int32 × Mem)) (x2 : Int32) (x4 : Int32) (s0 : Int32) (M : Mem) : Option (Int32 × Mem) :=
  rec18 x2 s0 x4 M
set_option maxRecDepth 100000 in
set_option maxHeartbeats 4000000 in
theorem J63_87_ev (sc : Option (Nat × (Nat → Int32))) (n : Nat)  (e : Nat) (he : 4 ≤ e) (rec18 : Int32 → Int32 → Int32 → Mem → Option (Int32 × Mem)) (hr18 : ∀ (x2 : Int32) (x3 : Int32) (x4 : Int32) (u1 : Option Value) (u5 : Option Value) (M : Mem) (r : Int32) (M' : Mem), rec18 x2 x3 x4 M = some (r, M') → pm_ev pmT sc e 63 false (18, [some (.ref 83), u1, some (.int x2), some (.int x3), some (.int x4), u5], [], 129, 17845, hp M) (some (.int r), 129, 17845, hp M')) : ∀ (x2 : Int32) (x4 : Int32) (s0 : Int32) (u1 : Option Value) (u3 : Option Value) (u5 : Option Value) (M : Mem) (r : Int32) (M' : Mem), J63_87 n rec18 x2 x4 s0 M = some (r, M') → pm_ev pmT sc e 63 false (87, [some (.ref 83), u1, some (.int x2), u3, some (.int x4), u5], [.int s0], 129, 17845, hp M) (some (.int r), 129, 17845, hp M') := by
  intro x2 x4 s0 u1 u3 u5 M r M' h
  unfold J63_87 at h
  refine pe_blk mm_63 2 (s' := (18, [some (.ref 83), u1, some (.int x2), some (.int s0), some (.int x4), u5], [], _, _, _)) rfl ?_
  exact hr18 x2 s0 x4 _ _ _ _ _ h
def J63_74 (n : Nat) (rec18 : Int32 → Int32 → Int32 → Mem → Option (Int32 × Mem)) (x2 : Int32) (x3 : Int32) (x5 : Int32) (s0 : Int32) (M : Mem) : Option (Int32 × Mem) :=
  if s0 = 0 then (J63_87 n rec18 x2 s0 x3 M) else (J63_87 n rec18 x2 s0 x5 M)
set_option maxRecDepth 100000 in
set_option maxHeartbeats 4000000 in
theorem J63_74_ev (sc : Option (Nat × (Nat → Int32))) (n : Nat)  (e : Nat) (he : 4 ≤ e) (rec18 : Int32 → Int32 → Int32 → Mem → Option (Int32 × Mem)) (hr18 : ∀ (x2 : Int32) (x3 : Int32) (x4 : Int32) (u1 : Option Value) (u5 : Option Value) (M : Mem) (r : Int32) (M' : Mem), rec18 x2 x3 x4 M = some (r, M') → pm_ev pmT sc e 63 false (18, [some (.ref 83), u1, some (.int x2), some (.int x3), some (.int x4), u5], [], 129, 17845, hp M) (some (.int r), 129, 17845, hp M')) : ∀ (x2 : Int32) (x3 : Int32) (x5 : Int32) (s0 : Int32) (u1 : Option Value) (u4 : Option Value) (M : Mem) (r : Int32) (M' : Mem), J63_74 n rec18 x2 x3 x5 s0 M = some (r, M') → pm_ev pmT sc e 63 false (74, [some (.ref 83), u1, some (.int x2), some (.int x3), u4, some (.int x5)], [.int s0], 129, 17845, hp M) (some (.int r), 129, 17845, hp M') := by
  intro x2 x3 x5 s0 u1 u4 M r M' h
  unfold J63_74 at h
  refine pe_blk mm_63 2 (s' := (78, [some (.ref 83), u1, some (.int x2), some (.int x3), some (.int s0), some (.int x5)], [.int s0], _, _, _)) rfl ?_
  by_cases q8 : s0 = 0
  · rw [if_pos q8] at h
    refine pe_blk mm_63 1 (s' := (if s0 = 0 then 86 else 81, [some (.ref 83), u1, some (.int x2), some (.int x3), some (.int s0), some (.int x5)], [], _, _, _)) rfl ?_
    rw [if_pos q8]
    refine pe_blk mm_63 1 (s' := (87, [some (.ref 83), u1, some (.int x2), some (.int x3), some (.int s0), some (.int x5)], [.int x3], _, _, _)) rfl ?_
    exact J63_87_ev sc n e he rec18 hr18 x2 s0 x3 _ _ _ _ _ _ h
  · rw [if_neg q8] at h
    refine pe_blk mm_63 1 (s' := (if s0 = 0 then 86 else 81, [some (.ref 83), u1, some (.int x2), some (.int x3), some (.int s0), some (.int x5)], [], _, _, _)) rfl ?_
    rw [if_neg q8]
    refine pe_blk mm_63 2 (s' := (87, [some (.ref 83), u1, some (.int x2), some (.int x3), some (.int s0), some (.int x5)], [.int x5], _, _, _)) rfl ?_
    exact J63_87_ev sc n e he rec18 hr18 x2 s0 x5 _ _ _ _ _ _ h
def J63_62 (n : Nat) (rec18 : Int32 → Int32 → Int32 → Mem → Option (Int32 × Mem)) (x2 : Int32) (x3 : Int32) (s0 : Int32) (M : Mem) : Option (Int32 × Mem) :=
  if s0 < 0 then (J63_74 n rec18 x2 x3 s0 0 M) else (J63_74 n rec18 x2 x3 s0 1 M)
set_option maxRecDepth 100000 in
set_option maxHeartbeats 4000000 in
theorem J63_62_ev (sc : Option (Nat × (Nat → Int32))) (n : Nat)  (e : Nat) (he : 4 ≤ e) (rec18 : Int32 → Int32 → Int32 → Mem → Option (Int32 × Mem)) (hr18 : ∀ (x2 : Int32) (x3 : Int32) (x4 : Int32) (u1 : Option Value) (u5 : Option Value) (M : Mem) (r : Int32) (M' : Mem), rec18 x2 x3 x4 M = some (r, M') → pm_ev pmT sc e 63 false (18, [some (.ref 83), u1, some (.int x2), some (.int x3), some (.int x4), u5], [], 129, 17845, hp M) (some (.int r), 129, 17845, hp M')) : ∀ (x2 : Int32) (x3 : Int32) (s0 : Int32) (u1 : Option Value) (u4 : Option Value) (u5 : Option Value) (M : Mem) (r : Int32) (M' : Mem), J63_62 n rec18 x2 x3 s0 M = some (r, M') → pm_ev pmT sc e 63 false (62, [some (.ref 83), u1, some (.int x2), some (.int x3), u4, u5], [.int s0], 129, 17845, hp M) (some (.int r), 129, 17845, hp M') := by
  intro x2 x3 s0 u1 u4 u5 M r M' h
  unfold J63_62 at h
  refine pe_blk mm_63 2 (s' := (66, [some (.ref 83), u1, some (.int x2), some (.int x3), u4, some (.int s0)], [.int s0], _, _, _)) rfl ?_
  by_cases q7 : s0 < 0
  · rw [if_pos q7] at h
    refine pe_blk mm_63 1 (s' := (if s0 < 0 then 73 else 69, [some (.ref 83), u1, some (.int x2), some (.int x3), u4, some (.int s0)], [], _, _, _)) rfl ?_
    rw [if_pos q7]
    refine pe_blk mm_63 1 (s' := (74, [some (.ref 83), u1, some (.int x2), some (.int x3), u4, some (.int s0)], [.int 0], _, _, _)) rfl ?_
    exact J63_74_ev sc n e he rec18 hr18 x2 x3 s0 0 _ _ _ _ _ h
  · rw [if_neg q7] at h
    refine pe_blk mm_63 1 (s' := (if s0 < 0 then 73 else 69, [some (.ref 83), u1, some (.int x2), some (.int x3), u4, some (.int s0)], [], _, _, _)) rfl ?_
    rw [if_neg q7]
    refine pe_blk mm_63 2 (s' := (74, [some (.ref 83), u1, some (.int x2), some (.int x3), u4, some (.int s0)], [.int 1], _, _, _)) rfl ?_
    exact J63_74_ev sc n e he rec18 hr18 x2 x3 s0 1 _ _ _ _ _ h
def J63_61 (n : Nat) (rec18 : Int32 → Int32 → Int32 → Mem → Option (Int32 × Mem)) (x2 : Int32) (x3 : Int32) (M : Mem) : Option (Int32 × Mem) :=
  J63_62 n rec18 x2 x3 (-1) M
set_option maxRecDepth 100000 in
set_option maxHeartbeats 4000000 in
theorem J63_61_ev (sc : Option (Nat × (Nat → Int32))) (n : Nat)  (e : Nat) (he : 4 ≤ e) (rec18 : Int32 → Int32 → Int32 → Mem → Option (Int32 × Mem)) (hr18 : ∀ (x2 : Int32) (x3 : Int32) (x4 : Int32) (u1 : Option Value) (u5 : Option Value) (M : Mem) (r : Int32) (M' : Mem), rec18 x2 x3 x4 M = some (r, M') → pm_ev pmT sc e 63 false (18, [some (.ref 83), u1, some (.int x2), some (.int x3), some (.int x4), u5], [], 129, 17845, hp M) (some (.int r), 129, 17845, hp M')) : ∀ (x2 : Int32) (x3 : Int32) (u1 : Option Value) (u4 : Option Value) (u5 : Option Value) (M : Mem) (r : Int32) (M' : Mem), J63_61 n rec18 x2 x3 M = some (r, M') → pm_ev pmT sc e 63 false (61, [some (.ref 83), u1, some (.int x2), some (.int x3), u4, u5], [], 129, 17845, hp M) (some (.int r), 129, 17845, hp M') := by
  intro x2 x3 u1 u4 u5 M r M' h
  unfold J63_61 at h
  refine pe_blk mm_63 1 (s' := (62, [some (.ref 83), u1, some (.int x2), some (.int x3), u4, u5], [.int (-1)], _, _, _)) rfl ?_
  exact J63_62_ev sc n e he rec18 hr18 x2 x3 (-1) _ _ _ _ _ _ h
def J63_50 (n : Nat) (rec18 : Int32 → Int32 → Int32 → Mem → Option (Int32 × Mem)) (x2 : Int32) (x3 : Int32) (M : Mem) : Option (Int32 × Mem) :=
  match F62 n (x3 + 1) x2 M with | some (v11, M12) => (J63_62 n rec18 x2 x3 v11 M12) | none => none
set_option maxRecDepth 100000 in
set_option maxHeartbeats 4000000 in
theorem J63_50_ev (sc : Option (Nat × (Nat → Int32))) (n : Nat)  (e : Nat) (he : 4 ≤ e) (rec18 : Int32 → Int32 → Int32 → Mem → Option (Int32 × Mem)) (hr18 : ∀ (x2 : Int32) (x3 : Int32) (x4 : Int32) (u1 : Option Value) (u5 : Option Value) (M : Mem) (r : Int32) (M' : Mem), rec18 x2 x3 x4 M = some (r, M') → pm_ev pmT sc e 63 false (18, [some (.ref 83), u1, some (.int x2), some (.int x3), some (.int x4), u5], [], 129, 17845, hp M) (some (.int r), 129, 17845, hp M')) : ∀ (x2 : Int32) (x3 : Int32) (u1 : Option Value) (u4 : Option Value) (u5 : Option Value) (M : Mem) (r : Int32) (M' : Mem), J63_50 n rec18 x2 x3 M = some (r, M') → pm_ev pmT sc e 63 false (50, [some (.ref 83), u1, some (.int x2), some (.int x3), u4, u5], [], 129, 17845, hp M) (some (.int r), 129, 17845, hp M') := by
  intro x2 x3 u1 u4 u5 M r M' h
  unfold J63_50 at h
  refine pe_blk mm_63 5 (s' := (55, [some (.ref 83), u1, some (.int x2), some (.int x3), u4, u5], [.int x2, .int (x3 + 1), .ref 83], _, _, _)) rfl ?_
  obtain ⟨e1, rfl⟩ : ∃ e1, e = e1 + 1 := ⟨e - 1, by omega⟩
  cases hc13 : F62 n (x3 + 1) x2 M with
  | none => rw [hc13] at h; cases h
  | some w =>
    obtain ⟨v11, M12⟩ := w
    rw [hc13] at h
    dsimp only at h
    refine pe_virt (al := [.int x2, .int (x3 + 1)]) (a := 83) (L0 := [some (.ref 83), some (.int (x3 + 1)), some (.int x2), none, none, none, none, none, none]) (r1 := (some (.int v11), 129, 17845, hp M12)) mm_63 rfl rfl rfl mm_62 rfl (by decide) (by decide) rfl (Nat.le_of_ble_eq_true rfl) (Nat.le_of_ble_eq_true rfl) rfl rfl (F62_ev sc n (x3 + 1) x2 _ e1 (by omega) _ _ hc13) ?_
    show pm_ev _ _ _ _ _ (58, [some (.ref 83), u1, some (.int x2), some (.int x3), u4, u5], [.int v11], _, _, _) _
    refine pe_blk mm_63 1 (s' := (62, [some (.ref 83), u1, some (.int x2), some (.int x3), u4, u5], [.int v11], _, _, _)) rfl ?_
    exact J63_62_ev sc n (e1 + 1) he rec18 hr18 x2 x3 v11 _ _ _ _ _ _ h
def L63_18 (n : Nat) : Nat → Int32 → Int32 → Int32 → Mem → Option (Int32 × Mem)
  | 0, _, _, _, _ => none
  | k + 1, x2, x3, x4, M => if x4 = 0 then (some (x3, M)) else (if x2 ≤ x3 then (J63_61 n (L63_18 n k) x2 x3 M) else (if x3 < 0 ∨ 320 ≤ (x3 : Int32).toNatClampNeg then none else (if (M.1 105 (x3 : Int32).toNatClampNeg) = 43 then (J63_50 n (L63_18 n k) x2 x3 M) else (if x3 < 0 ∨ 320 ≤ (x3 : Int32).toNatClampNeg then none else (if (M.1 105 (x3 : Int32).toNatClampNeg) = 42 then (J63_50 n (L63_18 n k) x2 x3 M) else (J63_61 n (L63_18 n k) x2 x3 M))))))
set_option maxRecDepth 100000 in
set_option maxHeartbeats 4000000 in
theorem L63_18_ev (sc : Option (Nat × (Nat → Int32))) (n : Nat)  (e : Nat) (he : 4 ≤ e) : ∀ k : Nat, ∀ (x2 : Int32) (x3 : Int32) (x4 : Int32) (u1 : Option Value) (u5 : Option Value) (M : Mem) (r : Int32) (M' : Mem), L63_18 n k x2 x3 x4 M = some (r, M') → pm_ev pmT sc e 63 false (18, [some (.ref 83), u1, some (.int x2), some (.int x3), some (.int x4), u5], [], 129, 17845, hp M) (some (.int r), 129, 17845, hp M') := by
  intro k
  induction k with
  | zero => intro x2 x3 x4 u1 u5 M r M' h; cases h
  | succ k hr18 =>
    intro x2 x3 x4 u1 u5 M r M' h
    rw [L63_18] at h
    refine pe_blk mm_63 1 (s' := (20, [some (.ref 83), u1, some (.int x2), some (.int x3), some (.int x4), u5], [.int x4], _, _, _)) rfl ?_
    by_cases q5 : x4 = 0
    · rw [if_pos q5] at h
      refine pe_blk mm_63 1 (s' := (if x4 = 0 then 91 else 23, [some (.ref 83), u1, some (.int x2), some (.int x3), some (.int x4), u5], [], _, _, _)) rfl ?_
      rw [if_pos q5]
      refine pe_blk mm_63 1 (s' := (92, [some (.ref 83), u1, some (.int x2), some (.int x3), some (.int x4), u5], [.int x3], _, _, _)) rfl ?_
      cases h
      exact pe_ret mm_63 rfl rfl
    · rw [if_neg q5] at h
      refine pe_blk mm_63 1 (s' := (if x4 = 0 then 91 else 23, [some (.ref 83), u1, some (.int x2), some (.int x3), some (.int x4), u5], [], _, _, _)) rfl ?_
      rw [if_neg q5]
      refine pe_blk mm_63 2 (s' := (25, [some (.ref 83), u1, some (.int x2), some (.int x3), some (.int x4), u5], [.int x2, .int x3], _, _, _)) rfl ?_
      by_cases q6 : x2 ≤ x3
      · rw [if_pos q6] at h
        refine pe_blk mm_63 1 (s' := (if x2 ≤ x3 then 61 else 28, [some (.ref 83), u1, some (.int x2), some (.int x3), some (.int x4), u5], [], _, _, _)) rfl ?_
        rw [if_pos q6]
        exact J63_61_ev sc n e he (L63_18 n k) hr18 x2 x3 _ _ _ _ _ _ h
      · rw [if_neg q6] at h
        refine pe_blk mm_63 1 (s' := (if x2 ≤ x3 then 61 else 28, [some (.ref 83), u1, some (.int x2), some (.int x3), some (.int x4), u5], [], _, _, _)) rfl ?_
        rw [if_neg q6]
        refine pe_blk mm_63 1 (s' := (29, [some (.ref 83), u1, some (.int x2), some (.int x3), some (.int x4), u5], [.ref 83], _, _, _)) rfl ?_
        refine pe_get mm_63 rfl rfl rfl (by decide) rfl ?_
        refine pe_blk mm_63 1 (s' := (33, [some (.ref 83), u1, some (.int x2), some (.int x3), some (.int x4), u5], [.int x3, .ref 105], _, _, _)) rfl ?_
        by_cases q9 : x3 < 0 ∨ 320 ≤ (x3 : Int32).toNatClampNeg
        · rw [if_pos q9] at h
          cases h
        · rw [if_neg q9] at h
          refine pe_iald (f := M.1 105) mm_63 rfl rfl (by decide) q9 ?_
          refine pe_blk mm_63 1 (s' := (36, [some (.ref 83), u1, some (.int x2), some (.int x3), some (.int x4), u5], [.int 43, .int (M.1 105 (x3 : Int32).toNatClampNeg)], _, _, _)) rfl ?_
          by_cases q10 : (M.1 105 (x3 : Int32).toNatClampNeg) = 43
          · rw [if_pos q10] at h
            refine pe_blk mm_63 1 (s' := (if (M.1 105 (x3 : Int32).toNatClampNeg) = 43 then 50 else 39, [some (.ref 83), u1, some (.int x2), some (.int x3), some (.int x4), u5], [], _, _, _)) rfl ?_
            rw [if_pos q10]
            exact J63_50_ev sc n e he (L63_18 n k) hr18 x2 x3 _ _ _ _ _ _ h
          · rw [if_neg q10] at h
            refine pe_blk mm_63 1 (s' := (if (M.1 105 (x3 : Int32).toNatClampNeg) = 43 then 50 else 39, [some (.ref 83), u1, some (.int x2), some (.int x3), some (.int x4), u5], [], _, _, _)) rfl ?_
            rw [if_neg q10]
            refine pe_blk mm_63 1 (s' := (40, [some (.ref 83), u1, some (.int x2), some (.int x3), some (.int x4), u5], [.ref 83], _, _, _)) rfl ?_
            refine pe_get mm_63 rfl rfl rfl (by decide) rfl ?_
            refine pe_blk mm_63 1 (s' := (44, [some (.ref 83), u1, some (.int x2), some (.int x3), some (.int x4), u5], [.int x3, .ref 105], _, _, _)) rfl ?_
            by_cases q14 : x3 < 0 ∨ 320 ≤ (x3 : Int32).toNatClampNeg
            · rw [if_pos q14] at h
              cases h
            · rw [if_neg q14] at h
              refine pe_iald (f := M.1 105) mm_63 rfl rfl (by decide) q14 ?_
              refine pe_blk mm_63 1 (s' := (47, [some (.ref 83), u1, some (.int x2), some (.int x3), some (.int x4), u5], [.int 42, .int (M.1 105 (x3 : Int32).toNatClampNeg)], _, _, _)) rfl ?_
              by_cases q15 : (M.1 105 (x3 : Int32).toNatClampNeg) = 42
              · rw [if_pos q15] at h
                refine pe_blk mm_63 1 (s' := (if (M.1 105 (x3 : Int32).toNatClampNeg) = 42 then 50 else 61, [some (.ref 83), u1, some (.int x2), some (.int x3), some (.int x4), u5], [], _, _, _)) rfl ?_
                rw [if_pos q15]
                exact J63_50_ev sc n e he (L63_18 n k) hr18 x2 x3 _ _ _ _ _ _ h
              · rw [if_neg q15] at h
                refine pe_blk mm_63 1 (s' := (if (M.1 105 (x3 : Int32).toNatClampNeg) = 42 then 50 else 61, [some (.ref 83), u1, some (.int x2), some (.int x3), some (.int x4), u5], [], _, _, _)) rfl ?_
                rw [if_neg q15]
                exact J63_61_ev sc n e he (L63_18 n k) hr18 x2 x3 _ _ _ _ _ _ h
def J63_16 (n : Nat) (x2 : Int32) (x3 : Int32) (s0 : Int32) (M : Mem) : Option (Int32 × Mem) :=
  L63_18 n n x2 x3 s0 M
set_option maxRecDepth 100000 in
set_option maxHeartbeats 4000000 in
theorem J63_16_ev (sc : Option (Nat × (Nat → Int32))) (n : Nat)  (e : Nat) (he : 4 ≤ e) : ∀ (x2 : Int32) (x3 : Int32) (s0 : Int32) (u1 : Option Value) (u4 : Option Value) (u5 : Option Value) (M : Mem) (r : Int32) (M' : Mem), J63_16 n x2 x3 s0 M = some (r, M') → pm_ev pmT sc e 63 false (16, [some (.ref 83), u1, some (.int x2), some (.int x3), u4, u5], [.int s0], 129, 17845, hp M) (some (.int r), 129, 17845, hp M') := by
  intro x2 x3 s0 u1 u4 u5 M r M' h
  unfold J63_16 at h
  refine pe_blk mm_63 1 (s' := (18, [some (.ref 83), u1, some (.int x2), some (.int x3), some (.int s0), u5], [], _, _, _)) rfl ?_
  exact L63_18_ev sc n e he n x2 x3 s0 _ _ _ _ _ h
/-- ArmExpanderModel.expression -/
def F63 (n : Nat) (a0 : Int32) (a1 : Int32) (M : Mem) : Option (Int32 × Mem) :=
  match F62 n a0 a1 M with | some (v1, M2) => (if v1 < 0 then (J63_16 n a1 v1 0 M2) else (J63_16 n a1 v1 1 M2)) | none => none
set_option maxRecDepth 100000 in
set_option maxHeartbeats 4000000 in
theorem F63_ev (sc : Option (Nat × (Nat → Int32))) (n : Nat) (a0 : Int32) (a1 : Int32)  (M : Mem) (e : Nat) (he : 4 ≤ e) (r : Int32) (M' : Mem) (h : F63 n a0 a1 M = some (r, M')) : pm_ev pmT sc e 63 false (0, [some (.ref 83), some (.int a0), some (.int a1), none, none, none], [], 129, 17845, hp M) (some (.int r), 129, 17845, hp M') := by
  unfold F63 at h
  refine pe_blk mm_63 3 (s' := (3, [some (.ref 83), some (.int a0), some (.int a1), none, none, none], [.int a1, .int a0, .ref 83], _, _, _)) rfl ?_
  obtain ⟨e1, rfl⟩ : ∃ e1, e = e1 + 1 := ⟨e - 1, by omega⟩
  cases hc3 : F62 n a0 a1 M with
  | none => rw [hc3] at h; cases h
  | some w =>
    obtain ⟨v1, M2⟩ := w
    rw [hc3] at h
    dsimp only at h
    refine pe_virt (al := [.int a1, .int a0]) (a := 83) (L0 := [some (.ref 83), some (.int a0), some (.int a1), none, none, none, none, none, none]) (r1 := (some (.int v1), 129, 17845, hp M2)) mm_63 rfl rfl rfl mm_62 rfl (by decide) (by decide) rfl (Nat.le_of_ble_eq_true rfl) (Nat.le_of_ble_eq_true rfl) rfl rfl (F62_ev sc n a0 a1 _ e1 (by omega) _ _ hc3) ?_
    show pm_ev _ _ _ _ _ (6, [some (.ref 83), some (.int a0), some (.int a1), none, none, none], [.int v1], _, _, _) _
    refine pe_blk mm_63 2 (s' := (8, [some (.ref 83), some (.int a0), some (.int a1), some (.int v1), none, none], [.int v1], _, _, _)) rfl ?_
    by_cases q4 : v1 < 0
    · rw [if_pos q4] at h
      refine pe_blk mm_63 1 (s' := (if v1 < 0 then 15 else 11, [some (.ref 83), some (.int a0), some (.int a1), some (.int v1), none, none], [], _, _, _)) rfl ?_
      rw [if_pos q4]
      refine pe_blk mm_63 1 (s' := (16, [some (.ref 83), some (.int a0), some (.int a1), some (.int v1), none, none], [.int 0], _, _, _)) rfl ?_
      exact J63_16_ev sc n (e1 + 1) he a1 v1 0 _ _ _ _ _ _ h
    · rw [if_neg q4] at h
      refine pe_blk mm_63 1 (s' := (if v1 < 0 then 15 else 11, [some (.ref 83), some (.int a0), some (.int a1), some (.int v1), none, none], [], _, _, _)) rfl ?_
      rw [if_neg q4]
      refine pe_blk mm_63 2 (s' := (16, [some (.ref 83), some (.int a0), some (.int a1), some (.int v1), none, none], [.int 1], _, _, _)) rfl ?_
      exact J63_16_ev sc n (e1 + 1) he a1 v1 1 _ _ _ _ _ _ h
def J64_17 (n : Nat) (s0 : Int32) (M : Mem) : Option (Int32 × Mem) :=
  if s0 = 0 ∨ s0 = 1 then some (s0, M) else none
set_option maxRecDepth 100000 in
set_option maxHeartbeats 4000000 in
theorem J64_17_ev (sc : Option (Nat × (Nat → Int32))) (n : Nat)  (e : Nat) (he : 2 ≤ e) : ∀ (s0 : Int32) (u0 : Option Value) (u1 : Option Value) (u2 : Option Value) (M : Mem) (r : Int32) (M' : Mem), J64_17 n s0 M = some (r, M') → pm_ev pmT sc e 64 false (17, [u0, u1, u2], [.int s0], 129, 17845, hp M) (some (.int r), 129, 17845, hp M') := by
  intro s0 u0 u1 u2 M r M' h
  unfold J64_17 at h
  by_cases q3 : s0 = 0 ∨ s0 = 1
  · rw [if_pos q3] at h
    cases h
    exact pe_ret mm_64 rfl (if_pos q3)
  · rw [if_neg q3] at h
    cases h
def J64_42 (n : Nat) (s0 : Int32) (M : Mem) : Option (Int32 × Mem) :=
  if s0 = 0 ∨ s0 = 1 then some (s0, M) else none
set_option maxRecDepth 100000 in
set_option maxHeartbeats 4000000 in
theorem J64_42_ev (sc : Option (Nat × (Nat → Int32))) (n : Nat)  (e : Nat) (he : 2 ≤ e) : ∀ (s0 : Int32) (u0 : Option Value) (u1 : Option Value) (u2 : Option Value) (M : Mem) (r : Int32) (M' : Mem), J64_42 n s0 M = some (r, M') → pm_ev pmT sc e 64 false (42, [u0, u1, u2], [.int s0], 129, 17845, hp M) (some (.int r), 129, 17845, hp M') := by
  intro s0 u0 u1 u2 M r M' h
  unfold J64_42 at h
  by_cases q6 : s0 = 0 ∨ s0 = 1
  · rw [if_pos q6] at h
    cases h
    exact pe_ret mm_64 rfl (if_pos q6)
  · rw [if_neg q6] at h
    cases h
def J64_41 (n : Nat) (M : Mem) : Option (Int32 × Mem) :=
  J64_42 n 0 M
set_option maxRecDepth 100000 in
set_option maxHeartbeats 4000000 in
theorem J64_41_ev (sc : Option (Nat × (Nat → Int32))) (n : Nat)  (e : Nat) (he : 2 ≤ e) : ∀ (u0 : Option Value) (u1 : Option Value) (u2 : Option Value) (M : Mem) (r : Int32) (M' : Mem), J64_41 n  M = some (r, M') → pm_ev pmT sc e 64 false (41, [u0, u1, u2], [], 129, 17845, hp M) (some (.int r), 129, 17845, hp M') := by
  intro u0 u1 u2 M r M' h
  unfold J64_41 at h
  refine pe_blk mm_64 1 (s' := (42, [u0, u1, u2], [.int 0], _, _, _)) rfl ?_
  exact J64_42_ev sc n e he 0 _ _ _ _ _ _ h
def J64_81 (n : Nat) (s0 : Int32) (M : Mem) : Option (Int32 × Mem) :=
  if s0 = 0 ∨ s0 = 1 then some (s0, M) else none
set_option maxRecDepth 100000 in
set_option maxHeartbeats 4000000 in
theorem J64_81_ev (sc : Option (Nat × (Nat → Int32))) (n : Nat)  (e : Nat) (he : 2 ≤ e) : ∀ (s0 : Int32) (u0 : Option Value) (u1 : Option Value) (u2 : Option Value) (M : Mem) (r : Int32) (M' : Mem), J64_81 n s0 M = some (r, M') → pm_ev pmT sc e 64 false (81, [u0, u1, u2], [.int s0], 129, 17845, hp M) (some (.int r), 129, 17845, hp M') := by
  intro s0 u0 u1 u2 M r M' h
  unfold J64_81 at h
  by_cases q13 : s0 = 0 ∨ s0 = 1
  · rw [if_pos q13] at h
    cases h
    exact pe_ret mm_64 rfl (if_pos q13)
  · rw [if_neg q13] at h
    cases h
def J64_76 (n : Nat) (M : Mem) : Option (Int32 × Mem) :=
  J64_81 n 1 M
set_option maxRecDepth 100000 in
set_option maxHeartbeats 4000000 in
theorem J64_76_ev (sc : Option (Nat × (Nat → Int32))) (n : Nat)  (e : Nat) (he : 2 ≤ e) : ∀ (u0 : Option Value) (u1 : Option Value) (u2 : Option Value) (M : Mem) (r : Int32) (M' : Mem), J64_76 n  M = some (r, M') → pm_ev pmT sc e 64 false (76, [u0, u1, u2], [], 129, 17845, hp M) (some (.int r), 129, 17845, hp M') := by
  intro u0 u1 u2 M r M' h
  unfold J64_76 at h
  refine pe_blk mm_64 2 (s' := (81, [u0, u1, u2], [.int 1], _, _, _)) rfl ?_
  exact J64_81_ev sc n e he 1 _ _ _ _ _ _ h
/-- ArmExpanderModel.begins -/
def F64 (n : Nat) (a0 : Int32) (a1 : Int32) (M : Mem) : Option (Int32 × Mem) :=
  if a0 = 1 then (if a1 < 1000 then (J64_17 n 0 M) else (J64_17 n 1 M)) else (if a0 = 2 then (if a1 < 300 then (J64_41 n M) else (if 1000 ≤ a1 then (J64_41 n M) else (J64_42 n 1 M))) else (if a0 = 3 then (match F22 n a1 M with | some (v9, M10) => (if v9 = 0 then (J64_81 n 1 M10) else (J64_81 n 0 M10)) | none => none) else (if 300 ≤ a1 then (J64_76 n M) else (if a1 = 40 then (J64_76 n M) else (J64_81 n 0 M)))))
set_option maxRecDepth 100000 in
set_option maxHeartbeats 4000000 in
theorem F64_ev (sc : Option (Nat × (Nat → Int32))) (n : Nat) (a0 : Int32) (a1 : Int32)  (M : Mem) (e : Nat) (he : 2 ≤ e) (r : Int32) (M' : Mem) (h : F64 n a0 a1 M = some (r, M')) : pm_ev pmT sc e 64 false (0, [some (.ref 83), some (.int a0), some (.int a1)], [], 129, 17845, hp M) (some (.int r), 129, 17845, hp M') := by
  unfold F64 at h
  refine pe_blk mm_64 2 (s' := (2, [some (.ref 83), some (.int a0), some (.int a1)], [.int 1, .int a0], _, _, _)) rfl ?_
  by_cases q1 : a0 = 1
  · rw [if_pos q1] at h
    refine pe_blk mm_64 1 (s' := (if a0 = 1 then 5 else 18, [some (.ref 83), some (.int a0), some (.int a1)], [], _, _, _)) rfl ?_
    rw [if_pos q1]
    refine pe_blk mm_64 2 (s' := (9, [some (.ref 83), some (.int a0), some (.int a1)], [.int 1000, .int a1], _, _, _)) rfl ?_
    by_cases q2 : a1 < 1000
    · rw [if_pos q2] at h
      refine pe_blk mm_64 1 (s' := (if a1 < 1000 then 16 else 12, [some (.ref 83), some (.int a0), some (.int a1)], [], _, _, _)) rfl ?_
      rw [if_pos q2]
      refine pe_blk mm_64 1 (s' := (17, [some (.ref 83), some (.int a0), some (.int a1)], [.int 0], _, _, _)) rfl ?_
      exact J64_17_ev sc n e he 0 _ _ _ _ _ _ h
    · rw [if_neg q2] at h
      refine pe_blk mm_64 1 (s' := (if a1 < 1000 then 16 else 12, [some (.ref 83), some (.int a0), some (.int a1)], [], _, _, _)) rfl ?_
      rw [if_neg q2]
      refine pe_blk mm_64 2 (s' := (17, [some (.ref 83), some (.int a0), some (.int a1)], [.int 1], _, _, _)) rfl ?_
      exact J64_17_ev sc n e he 1 _ _ _ _ _ _ h
  · rw [if_neg q1] at h
    refine pe_blk mm_64 1 (s' := (if a0 = 1 then 5 else 18, [some (.ref 83), some (.int a0), some (.int a1)], [], _, _, _)) rfl ?_
    rw [if_neg q1]
    refine pe_blk mm_64 2 (s' := (20, [some (.ref 83), some (.int a0), some (.int a1)], [.int 2, .int a0], _, _, _)) rfl ?_
    by_cases q4 : a0 = 2
    · rw [if_pos q4] at h
      refine pe_blk mm_64 1 (s' := (if a0 = 2 then 23 else 43, [some (.ref 83), some (.int a0), some (.int a1)], [], _, _, _)) rfl ?_
      rw [if_pos q4]
      refine pe_blk mm_64 2 (s' := (27, [some (.ref 83), some (.int a0), some (.int a1)], [.int 300, .int a1], _, _, _)) rfl ?_
      by_cases q5 : a1 < 300
      · rw [if_pos q5] at h
        refine pe_blk mm_64 1 (s' := (if a1 < 300 then 41 else 30, [some (.ref 83), some (.int a0), some (.int a1)], [], _, _, _)) rfl ?_
        rw [if_pos q5]
        exact J64_41_ev sc n e he _ _ _ _ _ _ h
      · rw [if_neg q5] at h
        refine pe_blk mm_64 1 (s' := (if a1 < 300 then 41 else 30, [some (.ref 83), some (.int a0), some (.int a1)], [], _, _, _)) rfl ?_
        rw [if_neg q5]
        refine pe_blk mm_64 2 (s' := (34, [some (.ref 83), some (.int a0), some (.int a1)], [.int 1000, .int a1], _, _, _)) rfl ?_
        by_cases q7 : 1000 ≤ a1
        · rw [if_pos q7] at h
          refine pe_blk mm_64 1 (s' := (if 1000 ≤ a1 then 41 else 37, [some (.ref 83), some (.int a0), some (.int a1)], [], _, _, _)) rfl ?_
          rw [if_pos q7]
          exact J64_41_ev sc n e he _ _ _ _ _ _ h
        · rw [if_neg q7] at h
          refine pe_blk mm_64 1 (s' := (if 1000 ≤ a1 then 41 else 37, [some (.ref 83), some (.int a0), some (.int a1)], [], _, _, _)) rfl ?_
          rw [if_neg q7]
          refine pe_blk mm_64 2 (s' := (42, [some (.ref 83), some (.int a0), some (.int a1)], [.int 1], _, _, _)) rfl ?_
          exact J64_42_ev sc n e he 1 _ _ _ _ _ _ h
    · rw [if_neg q4] at h
      refine pe_blk mm_64 1 (s' := (if a0 = 2 then 23 else 43, [some (.ref 83), some (.int a0), some (.int a1)], [], _, _, _)) rfl ?_
      rw [if_neg q4]
      refine pe_blk mm_64 2 (s' := (45, [some (.ref 83), some (.int a0), some (.int a1)], [.int 3, .int a0], _, _, _)) rfl ?_
      by_cases q8 : a0 = 3
      · rw [if_pos q8] at h
        refine pe_blk mm_64 1 (s' := (if a0 = 3 then 48 else 63, [some (.ref 83), some (.int a0), some (.int a1)], [], _, _, _)) rfl ?_
        rw [if_pos q8]
        refine pe_blk mm_64 1 (s' := (49, [some (.ref 83), some (.int a0), some (.int a1)], [.int a1], _, _, _)) rfl ?_
        obtain ⟨e1, rfl⟩ : ∃ e1, e = e1 + 1 := ⟨e - 1, by omega⟩
        cases hc11 : F22 n a1 M with
        | none => rw [hc11] at h; cases h
        | some w =>
          obtain ⟨v9, M10⟩ := w
          rw [hc11] at h
          dsimp only at h
          refine pe_stat (al := [.int a1]) (L0 := [some (.int a1)]) (r1 := (some (.int v9), 129, 17845, hp M10)) mm_64 rfl rfl rfl mm_22 rfl (Nat.le_of_ble_eq_true rfl) (Nat.le_of_ble_eq_true rfl) rfl rfl (F22_ev sc n a1 _ e1 (by omega) _ _ hc11) ?_
          show pm_ev _ _ _ _ _ (52, [some (.ref 83), some (.int a0), some (.int a1)], [.int v9], _, _, _) _
          by_cases q12 : v9 = 0
          · rw [if_pos q12] at h
            refine pe_blk mm_64 1 (s' := (if v9 = 0 then 55 else 59, [some (.ref 83), some (.int a0), some (.int a1)], [], _, _, _)) rfl ?_
            rw [if_pos q12]
            refine pe_blk mm_64 2 (s' := (81, [some (.ref 83), some (.int a0), some (.int a1)], [.int 1], _, _, _)) rfl ?_
            exact J64_81_ev sc n (e1 + 1) he 1 _ _ _ _ _ _ h
          · rw [if_neg q12] at h
            refine pe_blk mm_64 1 (s' := (if v9 = 0 then 55 else 59, [some (.ref 83), some (.int a0), some (.int a1)], [], _, _, _)) rfl ?_
            rw [if_neg q12]
            refine pe_blk mm_64 2 (s' := (81, [some (.ref 83), some (.int a0), some (.int a1)], [.int 0], _, _, _)) rfl ?_
            exact J64_81_ev sc n (e1 + 1) he 0 _ _ _ _ _ _ h
      · rw [if_neg q8] at h
        refine pe_blk mm_64 1 (s' := (if a0 = 3 then 48 else 63, [some (.ref 83), some (.int a0), some (.int a1)], [], _, _, _)) rfl ?_
        rw [if_neg q8]
        refine pe_blk mm_64 2 (s' := (67, [some (.ref 83), some (.int a0), some (.int a1)], [.int 300, .int a1], _, _, _)) rfl ?_
        by_cases q14 : 300 ≤ a1
        · rw [if_pos q14] at h
          refine pe_blk mm_64 1 (s' := (if 300 ≤ a1 then 76 else 70, [some (.ref 83), some (.int a0), some (.int a1)], [], _, _, _)) rfl ?_
          rw [if_pos q14]
          exact J64_76_ev sc n e he _ _ _ _ _ _ h
        · rw [if_neg q14] at h
          refine pe_blk mm_64 1 (s' := (if 300 ≤ a1 then 76 else 70, [some (.ref 83), some (.int a0), some (.int a1)], [], _, _, _)) rfl ?_
          rw [if_neg q14]
          refine pe_blk mm_64 2 (s' := (73, [some (.ref 83), some (.int a0), some (.int a1)], [.int 40, .int a1], _, _, _)) rfl ?_
          by_cases q15 : a1 = 40
          · rw [if_pos q15] at h
            refine pe_blk mm_64 1 (s' := (if a1 = 40 then 76 else 80, [some (.ref 83), some (.int a0), some (.int a1)], [], _, _, _)) rfl ?_
            rw [if_pos q15]
            exact J64_76_ev sc n e he _ _ _ _ _ _ h
          · rw [if_neg q15] at h
            refine pe_blk mm_64 1 (s' := (if a1 = 40 then 76 else 80, [some (.ref 83), some (.int a0), some (.int a1)], [], _, _, _)) rfl ?_
            rw [if_neg q15]
            refine pe_blk mm_64 1 (s' := (81, [some (.ref 83), some (.int a0), some (.int a1)], [.int 0], _, _, _)) rfl ?_
            exact J64_81_ev sc n e he 0 _ _ _ _ _ _ h
def J65_44 (n : Nat) (s0 : Int32) (M : Mem) : Option (Int32 × Mem) :=
  some (s0, M)
set_option maxRecDepth 100000 in
set_option maxHeartbeats 4000000 in
theorem J65_44_ev (sc : Option (Nat × (Nat → Int32))) (n : Nat)  (e : Nat) (he : 5 ≤ e) : ∀ (s0 : Int32) (u0 : Option Value) (u1 : Option Value) (u2 : Option Value) (u3 : Option Value) (M : Mem) (r : Int32) (M' : Mem), J65_44 n s0 M = some (r, M') → pm_ev pmT sc e 65 false (44, [u0, u1, u2, u3], [.int s0], 129, 17845, hp M) (some (.int r), 129, 17845, hp M') := by
  intro s0 u0 u1 u2 u3 M r M' h
  unfold J65_44 at h
  cases h
  exact pe_ret mm_65 rfl rfl
def J65_41 (n : Nat) (x2 : Int32) (M : Mem) : Option (Int32 × Mem) :=
  J65_44 n (x2 + 1) M
set_option maxRecDepth 100000 in
set_option maxHeartbeats 4000000 in
theorem J65_41_ev (sc : Option (Nat × (Nat → Int32))) (n : Nat)  (e : Nat) (he : 5 ≤ e) : ∀ (x2 : Int32) (u0 : Option Value) (u1 : Option Value) (u3 : Option Value) (M : Mem) (r : Int32) (M' : Mem), J65_41 n x2 M = some (r, M') → pm_ev pmT sc e 65 false (41, [u0, u1, some (.int x2), u3], [], 129, 17845, hp M) (some (.int r), 129, 17845, hp M') := by
  intro x2 u0 u1 u3 M r M' h
  unfold J65_41 at h
  refine pe_blk mm_65 3 (s' := (44, [u0, u1, some (.int x2), u3], [.int (x2 + 1)], _, _, _)) rfl ?_
  exact J65_44_ev sc n e he (x2 + 1) _ _ _ _ _ _ _ h
/-- ArmExpanderModel.take -/
def F65 (n : Nat) (a0 : Int32) (a1 : Int32) (a2 : Int32) (M : Mem) : Option (Int32 × Mem) :=
  if a0 = 4 then (match F63 n a1 a2 M with | some (v2, M3) => (J65_44 n v2 M3) | none => none) else (if a0 = 3 then (if a1 < 0 ∨ 320 ≤ (a1 : Int32).toNatClampNeg then none else (match F21 n (M.1 105 (a1 : Int32).toNatClampNeg) M with | some (v7, M8) => (if v7 = 0 then (J65_41 n a1 M8) else (match F61 n a1 M8 with | some (v11, M12) => (J65_44 n (v11 + 1) M12) | none => none)) | none => none)) else (J65_41 n a1 M))
set_option maxRecDepth 100000 in
set_option maxHeartbeats 4000000 in
theorem F65_ev (sc : Option (Nat × (Nat → Int32))) (n : Nat) (a0 : Int32) (a1 : Int32) (a2 : Int32)  (M : Mem) (e : Nat) (he : 5 ≤ e) (r : Int32) (M' : Mem) (h : F65 n a0 a1 a2 M = some (r, M')) : pm_ev pmT sc e 65 false (0, [some (.ref 83), some (.int a0), some (.int a1), some (.int a2)], [], 129, 17845, hp M) (some (.int r), 129, 17845, hp M') := by
  unfold F65 at h
  refine pe_blk mm_65 2 (s' := (2, [some (.ref 83), some (.int a0), some (.int a1), some (.int a2)], [.int 4, .int a0], _, _, _)) rfl ?_
  by_cases q1 : a0 = 4
  · rw [if_pos q1] at h
    refine pe_blk mm_65 1 (s' := (if a0 = 4 then 5 else 14, [some (.ref 83), some (.int a0), some (.int a1), some (.int a2)], [], _, _, _)) rfl ?_
    rw [if_pos q1]
    refine pe_blk mm_65 3 (s' := (8, [some (.ref 83), some (.int a0), some (.int a1), some (.int a2)], [.int a2, .int a1, .ref 83], _, _, _)) rfl ?_
    obtain ⟨e1, rfl⟩ : ∃ e1, e = e1 + 1 := ⟨e - 1, by omega⟩
    cases hc4 : F63 n a1 a2 M with
    | none => rw [hc4] at h; cases h
    | some w =>
      obtain ⟨v2, M3⟩ := w
      rw [hc4] at h
      dsimp only at h
      refine pe_virt (al := [.int a2, .int a1]) (a := 83) (L0 := [some (.ref 83), some (.int a1), some (.int a2), none, none, none]) (r1 := (some (.int v2), 129, 17845, hp M3)) mm_65 rfl rfl rfl mm_63 rfl (by decide) (by decide) rfl (Nat.le_of_ble_eq_true rfl) (Nat.le_of_ble_eq_true rfl) rfl rfl (F63_ev sc n a1 a2 _ e1 (by omega) _ _ hc4) ?_
      show pm_ev _ _ _ _ _ (11, [some (.ref 83), some (.int a0), some (.int a1), some (.int a2)], [.int v2], _, _, _) _
      refine pe_blk mm_65 1 (s' := (44, [some (.ref 83), some (.int a0), some (.int a1), some (.int a2)], [.int v2], _, _, _)) rfl ?_
      exact J65_44_ev sc n (e1 + 1) he v2 _ _ _ _ _ _ _ h
  · rw [if_neg q1] at h
    refine pe_blk mm_65 1 (s' := (if a0 = 4 then 5 else 14, [some (.ref 83), some (.int a0), some (.int a1), some (.int a2)], [], _, _, _)) rfl ?_
    rw [if_neg q1]
    refine pe_blk mm_65 2 (s' := (16, [some (.ref 83), some (.int a0), some (.int a1), some (.int a2)], [.int 3, .int a0], _, _, _)) rfl ?_
    by_cases q5 : a0 = 3
    · rw [if_pos q5] at h
      refine pe_blk mm_65 1 (s' := (if a0 = 3 then 19 else 41, [some (.ref 83), some (.int a0), some (.int a1), some (.int a2)], [], _, _, _)) rfl ?_
      rw [if_pos q5]
      refine pe_blk mm_65 1 (s' := (20, [some (.ref 83), some (.int a0), some (.int a1), some (.int a2)], [.ref 83], _, _, _)) rfl ?_
      refine pe_get mm_65 rfl rfl rfl (by decide) rfl ?_
      refine pe_blk mm_65 1 (s' := (24, [some (.ref 83), some (.int a0), some (.int a1), some (.int a2)], [.int a1, .ref 105], _, _, _)) rfl ?_
      by_cases q6 : a1 < 0 ∨ 320 ≤ (a1 : Int32).toNatClampNeg
      · rw [if_pos q6] at h
        cases h
      · rw [if_neg q6] at h
        refine pe_iald (f := M.1 105) mm_65 rfl rfl (by decide) q6 ?_
        obtain ⟨e1, rfl⟩ : ∃ e1, e = e1 + 1 := ⟨e - 1, by omega⟩
        cases hc9 : F21 n (M.1 105 (a1 : Int32).toNatClampNeg) M with
        | none => rw [hc9] at h; cases h
        | some w =>
          obtain ⟨v7, M8⟩ := w
          rw [hc9] at h
          dsimp only at h
          refine pe_stat (al := [.int (M.1 105 (a1 : Int32).toNatClampNeg)]) (L0 := [some (.int (M.1 105 (a1 : Int32).toNatClampNeg))]) (r1 := (some (.int v7), 129, 17845, hp M8)) mm_65 rfl rfl rfl mm_21 rfl (Nat.le_of_ble_eq_true rfl) (Nat.le_of_ble_eq_true rfl) rfl rfl (F21_ev sc n (M.1 105 (a1 : Int32).toNatClampNeg) _ e1 (by omega) _ _ hc9) ?_
          show pm_ev _ _ _ _ _ (28, [some (.ref 83), some (.int a0), some (.int a1), some (.int a2)], [.int v7], _, _, _) _
          by_cases q10 : v7 = 0
          · rw [if_pos q10] at h
            refine pe_blk mm_65 1 (s' := (if v7 = 0 then 41 else 31, [some (.ref 83), some (.int a0), some (.int a1), some (.int a2)], [], _, _, _)) rfl ?_
            rw [if_pos q10]
            exact J65_41_ev sc n (e1 + 1) he a1 _ _ _ _ _ _ h
          · rw [if_neg q10] at h
            refine pe_blk mm_65 1 (s' := (if v7 = 0 then 41 else 31, [some (.ref 83), some (.int a0), some (.int a1), some (.int a2)], [], _, _, _)) rfl ?_
            rw [if_neg q10]
            refine pe_blk mm_65 2 (s' := (33, [some (.ref 83), some (.int a0), some (.int a1), some (.int a2)], [.int a1, .ref 83], _, _, _)) rfl ?_
            skip
            cases hc13 : F61 n a1 M8 with
            | none => rw [hc13] at h; cases h
            | some w =>
              obtain ⟨v11, M12⟩ := w
              rw [hc13] at h
              dsimp only at h
              refine pe_virt (al := [.int a1]) (a := 83) (L0 := [some (.ref 83), some (.int a1), none, none]) (r1 := (some (.int v11), 129, 17845, hp M12)) mm_65 rfl rfl rfl mm_61 rfl (by decide) (by decide) rfl (Nat.le_of_ble_eq_true rfl) (Nat.le_of_ble_eq_true rfl) rfl rfl (F61_ev sc n a1 _ e1 (by omega) _ _ hc13) ?_
              show pm_ev _ _ _ _ _ (36, [some (.ref 83), some (.int a0), some (.int a1), some (.int a2)], [.int v11], _, _, _) _
              refine pe_blk mm_65 3 (s' := (44, [some (.ref 83), some (.int a0), some (.int a1), some (.int a2)], [.int (v11 + 1)], _, _, _)) rfl ?_
              exact J65_44_ev sc n (e1 + 1) he (v11 + 1) _ _ _ _ _ _ _ h
    · rw [if_neg q5] at h
      refine pe_blk mm_65 1 (s' := (if a0 = 3 then 19 else 41, [some (.ref 83), some (.int a0), some (.int a1), some (.int a2)], [], _, _, _)) rfl ?_
      rw [if_neg q5]
      exact J65_41_ev sc n e he a1 _ _ _ _ _ _ h
def J68_45 (n : Nat) (rec8 : Int32 → Int32 → Int32 → Int32 → Mem → Option (Int32 × Mem)) (x1 : Int32) (x2 : Int32) (x4 : Int32) (s0 : Int32) (M : Mem) : Option (Int32 × Mem) :=
  rec8 x1 x2 s0 (x4 + 1) M
set_option maxRecDepth 100000 in
set_option maxHeartbeats 4000000 in
theorem J68_45_ev (sc : Option (Nat × (Nat → Int32))) (n : Nat)  (e : Nat) (he : 1 ≤ e) (rec8 : Int32 → Int32 → Int32 → Int32 → Mem → Option (Int32 × Mem)) (hr8 : ∀ (x1 : Int32) (x2 : Int32) (x3 : Int32) (x4 : Int32) (M : Mem) (r : Int32) (M' : Mem), rec8 x1 x2 x3 x4 M = some (r, M') → pm_ev pmT sc e 68 false (8, [some (.ref 83), some (.int x1), some (.int x2), some (.int x3), some (.int x4)], [], 129, 17845, hp M) (some (.int r), 129, 17845, hp M')) : ∀ (x1 : Int32) (x2 : Int32) (x4 : Int32) (s0 : Int32) (u3 : Option Value) (M : Mem) (r : Int32) (M' : Mem), J68_45 n rec8 x1 x2 x4 s0 M = some (r, M') → pm_ev pmT sc e 68 false (45, [some (.ref 83), some (.int x1), some (.int x2), u3, some (.int x4)], [.int s0], 129, 17845, hp M) (some (.int r), 129, 17845, hp M') := by
  intro x1 x2 x4 s0 u3 M r M' h
  unfold J68_45 at h
  refine pe_blk mm_68 3 (s' := (8, [some (.ref 83), some (.int x1), some (.int x2), some (.int s0), some (.int (x4 + 1))], [], _, _, _)) rfl ?_
  exact hr8 x1 x2 s0 (x4 + 1) _ _ _ h
def J68_44 (n : Nat) (rec8 : Int32 → Int32 → Int32 → Int32 → Mem → Option (Int32 × Mem)) (x1 : Int32) (x2 : Int32) (x3 : Int32) (x4 : Int32) (M : Mem) : Option (Int32 × Mem) :=
  J68_45 n rec8 x1 x2 x4 x3 M
set_option maxRecDepth 100000 in
set_option maxHeartbeats 4000000 in
theorem J68_44_ev (sc : Option (Nat × (Nat → Int32))) (n : Nat)  (e : Nat) (he : 1 ≤ e) (rec8 : Int32 → Int32 → Int32 → Int32 → Mem → Option (Int32 × Mem)) (hr8 : ∀ (x1 : Int32) (x2 : Int32) (x3 : Int32) (x4 : Int32) (M : Mem) (r : Int32) (M' : Mem), rec8 x1 x2 x3 x4 M = some (r, M') → pm_ev pmT sc e 68 false (8, [some (.ref 83), some (.int x1), some (.int x2), some (.int x3), some (.int x4)], [], 129, 17845, hp M) (some (.int r), 129, 17845, hp M')) : ∀ (x1 : Int32) (x2 : Int32) (x3 : Int32) (x4 : Int32) (M : Mem) (r : Int32) (M' : Mem), J68_44 n rec8 x1 x2 x3 x4 M = some (r, M') → pm_ev pmT sc e 68 false (44, [some (.ref 83), some (.int x1), some (.int x2), some (.int x3), some (.int x4)], [], 129, 17845, hp M) (some (.int r), 129, 17845, hp M') := by
  intro x1 x2 x3 x4  M r M' h
  unfold J68_44 at h
  refine pe_blk mm_68 1 (s' := (45, [some (.ref 83), some (.int x1), some (.int x2), some (.int x3), some (.int x4)], [.int x3], _, _, _)) rfl ?_
  exact J68_45_ev sc n e he rec8 hr8 x1 x2 x4 x3 _ _ _ _ h
def L68_8 (n : Nat) : Nat → Int32 → Int32 → Int32 → Int32 → Mem → Option (Int32 × Mem)
  | 0, _, _, _, _, _ => none
  | k + 1, x1, x2, x3, x4, M => if (M.1 83 52) ≤ x4 then (some (x3, M)) else (if x4 < 0 ∨ 512 ≤ (x4 : Int32).toNatClampNeg then none else (if (M.1 119 (x4 : Int32).toNatClampNeg) = x1 then (if x4 < 0 ∨ 512 ≤ (x4 : Int32).toNatClampNeg then none else (if (M.1 120 (x4 : Int32).toNatClampNeg) = x2 then (J68_45 n (L68_8 n k) x1 x2 x4 x4 M) else (J68_44 n (L68_8 n k) x1 x2 x3 x4 M))) else (J68_44 n (L68_8 n k) x1 x2 x3 x4 M)))
set_option maxRecDepth 100000 in
set_option maxHeartbeats 4000000 in
theorem L68_8_ev (sc : Option (Nat × (Nat → Int32))) (n : Nat)  (e : Nat) (he : 1 ≤ e) : ∀ k : Nat, ∀ (x1 : Int32) (x2 : Int32) (x3 : Int32) (x4 : Int32) (M : Mem) (r : Int32) (M' : Mem), L68_8 n k x1 x2 x3 x4 M = some (r, M') → pm_ev pmT sc e 68 false (8, [some (.ref 83), some (.int x1), some (.int x2), some (.int x3), some (.int x4)], [], 129, 17845, hp M) (some (.int r), 129, 17845, hp M') := by
  intro k
  induction k with
  | zero => intro x1 x2 x3 x4  M r M' h; cases h
  | succ k hr8 =>
    intro x1 x2 x3 x4  M r M' h
    rw [L68_8] at h
    refine pe_blk mm_68 2 (s' := (11, [some (.ref 83), some (.int x1), some (.int x2), some (.int x3), some (.int x4)], [.ref 83, .int x4], _, _, _)) rfl ?_
    refine pe_get mm_68 rfl rfl rfl (by decide) rfl ?_
    by_cases q1 : (M.1 83 52) ≤ x4
    · rw [if_pos q1] at h
      refine pe_blk mm_68 1 (s' := (if (M.1 83 52) ≤ x4 then 52 else 17, [some (.ref 83), some (.int x1), some (.int x2), some (.int x3), some (.int x4)], [], _, _, _)) rfl ?_
      rw [if_pos q1]
      refine pe_blk mm_68 1 (s' := (53, [some (.ref 83), some (.int x1), some (.int x2), some (.int x3), some (.int x4)], [.int x3], _, _, _)) rfl ?_
      cases h
      exact pe_ret mm_68 rfl rfl
    · rw [if_neg q1] at h
      refine pe_blk mm_68 1 (s' := (if (M.1 83 52) ≤ x4 then 52 else 17, [some (.ref 83), some (.int x1), some (.int x2), some (.int x3), some (.int x4)], [], _, _, _)) rfl ?_
      rw [if_neg q1]
      refine pe_blk mm_68 1 (s' := (18, [some (.ref 83), some (.int x1), some (.int x2), some (.int x3), some (.int x4)], [.ref 83], _, _, _)) rfl ?_
      refine pe_get mm_68 rfl rfl rfl (by decide) rfl ?_
      refine pe_blk mm_68 1 (s' := (23, [some (.ref 83), some (.int x1), some (.int x2), some (.int x3), some (.int x4)], [.int x4, .ref 119], _, _, _)) rfl ?_
      by_cases q2 : x4 < 0 ∨ 512 ≤ (x4 : Int32).toNatClampNeg
      · rw [if_pos q2] at h
        cases h
      · rw [if_neg q2] at h
        refine pe_iald (f := M.1 119) mm_68 rfl rfl (by decide) q2 ?_
        refine pe_blk mm_68 1 (s' := (25, [some (.ref 83), some (.int x1), some (.int x2), some (.int x3), some (.int x4)], [.int x1, .int (M.1 119 (x4 : Int32).toNatClampNeg)], _, _, _)) rfl ?_
        by_cases q3 : (M.1 119 (x4 : Int32).toNatClampNeg) = x1
        · rw [if_pos q3] at h
          refine pe_blk mm_68 1 (s' := (if (M.1 119 (x4 : Int32).toNatClampNeg) = x1 then 28 else 44, [some (.ref 83), some (.int x1), some (.int x2), some (.int x3), some (.int x4)], [], _, _, _)) rfl ?_
          rw [if_pos q3]
          refine pe_blk mm_68 1 (s' := (29, [some (.ref 83), some (.int x1), some (.int x2), some (.int x3), some (.int x4)], [.ref 83], _, _, _)) rfl ?_
          refine pe_get mm_68 rfl rfl rfl (by decide) rfl ?_
          refine pe_blk mm_68 1 (s' := (34, [some (.ref 83), some (.int x1), some (.int x2), some (.int x3), some (.int x4)], [.int x4, .ref 120], _, _, _)) rfl ?_
          by_cases q4 : x4 < 0 ∨ 512 ≤ (x4 : Int32).toNatClampNeg
          · rw [if_pos q4] at h
            cases h
          · rw [if_neg q4] at h
            refine pe_iald (f := M.1 120) mm_68 rfl rfl (by decide) q4 ?_
            refine pe_blk mm_68 1 (s' := (36, [some (.ref 83), some (.int x1), some (.int x2), some (.int x3), some (.int x4)], [.int x2, .int (M.1 120 (x4 : Int32).toNatClampNeg)], _, _, _)) rfl ?_
            by_cases q5 : (M.1 120 (x4 : Int32).toNatClampNeg) = x2
            · rw [if_pos q5] at h
              refine pe_blk mm_68 1 (s' := (if (M.1 120 (x4 : Int32).toNatClampNeg) = x2 then 39 else 44, [some (.ref 83), some (.int x1), some (.int x2), some (.int x3), some (.int x4)], [], _, _, _)) rfl ?_
              rw [if_pos q5]
              refine pe_blk mm_68 2 (s' := (45, [some (.ref 83), some (.int x1), some (.int x2), some (.int x3), some (.int x4)], [.int x4], _, _, _)) rfl ?_
              exact J68_45_ev sc n e he (L68_8 n k) hr8 x1 x2 x4 x4 _ _ _ _ h
            · rw [if_neg q5] at h
              refine pe_blk mm_68 1 (s' := (if (M.1 120 (x4 : Int32).toNatClampNeg) = x2 then 39 else 44, [some (.ref 83), some (.int x1), some (.int x2), some (.int x3), some (.int x4)], [], _, _, _)) rfl ?_
              rw [if_neg q5]
              exact J68_44_ev sc n e he (L68_8 n k) hr8 x1 x2 x3 x4 _ _ _ h
        · rw [if_neg q3] at h
          refine pe_blk mm_68 1 (s' := (if (M.1 119 (x4 : Int32).toNatClampNeg) = x1 then 28 else 44, [some (.ref 83), some (.int x1), some (.int x2), some (.int x3), some (.int x4)], [], _, _, _)) rfl ?_
          rw [if_neg q3]
          exact J68_44_ev sc n e he (L68_8 n k) hr8 x1 x2 x3 x4 _ _ _ h
/-- ArmExpanderModel.entry -/
def F68 (n : Nat) (a0 : Int32) (a1 : Int32) (M : Mem) : Option (Int32 × Mem) :=
  L68_8 n n a0 a1 (M.1 83 52) 0 M
set_option maxRecDepth 100000 in
set_option maxHeartbeats 4000000 in
theorem F68_ev (sc : Option (Nat × (Nat → Int32))) (n : Nat) (a0 : Int32) (a1 : Int32)  (M : Mem) (e : Nat) (he : 1 ≤ e) (r : Int32) (M' : Mem) (h : F68 n a0 a1 M = some (r, M')) : pm_ev pmT sc e 68 false (0, [some (.ref 83), some (.int a0), some (.int a1), none, none], [], 129, 17845, hp M) (some (.int r), 129, 17845, hp M') := by
  unfold F68 at h
  refine pe_blk mm_68 1 (s' := (1, [some (.ref 83), some (.int a0), some (.int a1), none, none], [.ref 83], _, _, _)) rfl ?_
  refine pe_get mm_68 rfl rfl rfl (by decide) rfl ?_
  refine pe_blk mm_68 3 (s' := (8, [some (.ref 83), some (.int a0), some (.int a1), some (.int (M.1 83 52)), some (.int 0)], [], _, _, _)) rfl ?_
  exact L68_8_ev sc n e he n a0 a1 (M.1 83 52) 0 _ _ _ h
