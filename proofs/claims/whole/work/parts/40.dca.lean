/-! The methods as functions over Mem; written by program. -/
/-- ArmExpander.definitions -/
def F4 (n : Nat) (M : Mem) : Option (Int32 × Mem) :=
  some (M.1 0 5, M)
set_option maxRecDepth 100000 in
set_option maxHeartbeats 4000000 in
theorem F4_ev (sc : Option (Nat × (Nat → Int32))) (n : Nat)  (M : Mem) (e : Nat) (he : 1 ≤ e) (r : Int32) (M' : Mem) (h : F4 n M = some (r, M')) : pm_ev pmT sc e 4 false (0, [some (.ref 0)], [], 129, 17845, hp M) (some (.int r), 129, 17845, hp M') := by
  unfold F4 at h
  refine pe_blk mm_4 1 (s' := (1, [some (.ref 0)], [.ref 0], _, _, _)) rfl ?_
  refine pe_get mm_4 rfl rfl rfl (by decide) rfl ?_
  cases h
  exact pe_ret mm_4 rfl rfl
def J11_12 (n : Nat) (s0 : Int32) (M : Mem) : Option (Int32 × Mem) :=
  if s0 = 0 ∨ s0 = 1 then some (s0, M) else none
set_option maxRecDepth 100000 in
set_option maxHeartbeats 4000000 in
theorem J11_12_ev (sc : Option (Nat × (Nat → Int32))) (n : Nat)  (e : Nat) (he : 1 ≤ e) : ∀ (s0 : Int32) (u0 : Option Value) (M : Mem) (r : Int32) (M' : Mem), J11_12 n s0 M = some (r, M') → pm_ev pmT sc e 11 false (12, [u0], [.int s0], 129, 17845, hp M) (some (.int r), 129, 17845, hp M') := by
  intro s0 u0 M r M' h
  unfold J11_12 at h
  by_cases q2 : s0 = 0 ∨ s0 = 1
  · rw [if_pos q2] at h
    cases h
    exact pe_ret mm_11 rfl (if_pos q2)
  · rw [if_neg q2] at h
    cases h
/-- ArmExpander.isWord -/
def F11 (n : Nat) (a0 : Int32) (M : Mem) : Option (Int32 × Mem) :=
  if a0 ≤ 1000 then (J11_12 n 0 M) else (J11_12 n 1 M)
set_option maxRecDepth 100000 in
set_option maxHeartbeats 4000000 in
theorem F11_ev (sc : Option (Nat × (Nat → Int32))) (n : Nat) (a0 : Int32)  (M : Mem) (e : Nat) (he : 1 ≤ e) (r : Int32) (M' : Mem) (h : F11 n a0 M = some (r, M')) : pm_ev pmT sc e 11 false (0, [some (.int a0)], [], 129, 17845, hp M) (some (.int r), 129, 17845, hp M') := by
  unfold F11 at h
  refine pe_blk mm_11 2 (s' := (4, [some (.int a0)], [.int 1000, .int a0], _, _, _)) rfl ?_
  by_cases q1 : a0 ≤ 1000
  · rw [if_pos q1] at h
    refine pe_blk mm_11 1 (s' := (if a0 ≤ 1000 then 11 else 7, [some (.int a0)], [], _, _, _)) rfl ?_
    rw [if_pos q1]
    refine pe_blk mm_11 1 (s' := (12, [some (.int a0)], [.int 0], _, _, _)) rfl ?_
    exact J11_12_ev sc n e he 0 _ _ _ _ h
  · rw [if_neg q1] at h
    refine pe_blk mm_11 1 (s' := (if a0 ≤ 1000 then 11 else 7, [some (.int a0)], [], _, _, _)) rfl ?_
    rw [if_neg q1]
    refine pe_blk mm_11 2 (s' := (12, [some (.int a0)], [.int 1], _, _, _)) rfl ?_
    exact J11_12_ev sc n e he 1 _ _ _ _ h
def J12_19 (n : Nat) (s0 : Int32) (M : Mem) : Option (Int32 × Mem) :=
  if s0 = 0 ∨ s0 = 1 then some (s0, M) else none
set_option maxRecDepth 100000 in
set_option maxHeartbeats 4000000 in
theorem J12_19_ev (sc : Option (Nat × (Nat → Int32))) (n : Nat)  (e : Nat) (he : 1 ≤ e) : ∀ (s0 : Int32) (u0 : Option Value) (M : Mem) (r : Int32) (M' : Mem), J12_19 n s0 M = some (r, M') → pm_ev pmT sc e 12 false (19, [u0], [.int s0], 129, 17845, hp M) (some (.int r), 129, 17845, hp M') := by
  intro s0 u0 M r M' h
  unfold J12_19 at h
  by_cases q2 : s0 = 0 ∨ s0 = 1
  · rw [if_pos q2] at h
    cases h
    exact pe_ret mm_12 rfl (if_pos q2)
  · rw [if_neg q2] at h
    cases h
def J12_18 (n : Nat) (M : Mem) : Option (Int32 × Mem) :=
  J12_19 n 0 M
set_option maxRecDepth 100000 in
set_option maxHeartbeats 4000000 in
theorem J12_18_ev (sc : Option (Nat × (Nat → Int32))) (n : Nat)  (e : Nat) (he : 1 ≤ e) : ∀ (u0 : Option Value) (M : Mem) (r : Int32) (M' : Mem), J12_18 n  M = some (r, M') → pm_ev pmT sc e 12 false (18, [u0], [], 129, 17845, hp M) (some (.int r), 129, 17845, hp M') := by
  intro u0 M r M' h
  unfold J12_18 at h
  refine pe_blk mm_12 1 (s' := (19, [u0], [.int 0], _, _, _)) rfl ?_
  exact J12_19_ev sc n e he 0 _ _ _ _ h
/-- ArmExpander.isNumber -/
def F12 (n : Nat) (a0 : Int32) (M : Mem) : Option (Int32 × Mem) :=
  if a0 < 300 then (J12_18 n M) else (if 1000 ≤ a0 then (J12_18 n M) else (J12_19 n 1 M))
set_option maxRecDepth 100000 in
set_option maxHeartbeats 4000000 in
theorem F12_ev (sc : Option (Nat × (Nat → Int32))) (n : Nat) (a0 : Int32)  (M : Mem) (e : Nat) (he : 1 ≤ e) (r : Int32) (M' : Mem) (h : F12 n a0 M = some (r, M')) : pm_ev pmT sc e 12 false (0, [some (.int a0)], [], 129, 17845, hp M) (some (.int r), 129, 17845, hp M') := by
  unfold F12 at h
  refine pe_blk mm_12 2 (s' := (4, [some (.int a0)], [.int 300, .int a0], _, _, _)) rfl ?_
  by_cases q1 : a0 < 300
  · rw [if_pos q1] at h
    refine pe_blk mm_12 1 (s' := (if a0 < 300 then 18 else 7, [some (.int a0)], [], _, _, _)) rfl ?_
    rw [if_pos q1]
    exact J12_18_ev sc n e he _ _ _ _ h
  · rw [if_neg q1] at h
    refine pe_blk mm_12 1 (s' := (if a0 < 300 then 18 else 7, [some (.int a0)], [], _, _, _)) rfl ?_
    rw [if_neg q1]
    refine pe_blk mm_12 2 (s' := (11, [some (.int a0)], [.int 1000, .int a0], _, _, _)) rfl ?_
    by_cases q3 : 1000 ≤ a0
    · rw [if_pos q3] at h
      refine pe_blk mm_12 1 (s' := (if 1000 ≤ a0 then 18 else 14, [some (.int a0)], [], _, _, _)) rfl ?_
      rw [if_pos q3]
      exact J12_18_ev sc n e he _ _ _ _ h
    · rw [if_neg q3] at h
      refine pe_blk mm_12 1 (s' := (if 1000 ≤ a0 then 18 else 14, [some (.int a0)], [], _, _, _)) rfl ?_
      rw [if_neg q3]
      refine pe_blk mm_12 2 (s' := (19, [some (.int a0)], [.int 1], _, _, _)) rfl ?_
      exact J12_19_ev sc n e he 1 _ _ _ _ h
def J13_23 (n : Nat) (s0 : Int32) (M : Mem) : Option (Int32 × Mem) :=
  if s0 = 0 ∨ s0 = 1 then some (s0, M) else none
set_option maxRecDepth 100000 in
set_option maxHeartbeats 4000000 in
theorem J13_23_ev (sc : Option (Nat × (Nat → Int32))) (n : Nat)  (e : Nat) (he : 1 ≤ e) : ∀ (s0 : Int32) (u0 : Option Value) (M : Mem) (r : Int32) (M' : Mem), J13_23 n s0 M = some (r, M') → pm_ev pmT sc e 13 false (23, [u0], [.int s0], 129, 17845, hp M) (some (.int r), 129, 17845, hp M') := by
  intro s0 u0 M r M' h
  unfold J13_23 at h
  by_cases q2 : s0 = 0 ∨ s0 = 1
  · rw [if_pos q2] at h
    cases h
    exact pe_ret mm_13 rfl (if_pos q2)
  · rw [if_neg q2] at h
    cases h
def J13_18 (n : Nat) (M : Mem) : Option (Int32 × Mem) :=
  J13_23 n 1 M
set_option maxRecDepth 100000 in
set_option maxHeartbeats 4000000 in
theorem J13_18_ev (sc : Option (Nat × (Nat → Int32))) (n : Nat)  (e : Nat) (he : 1 ≤ e) : ∀ (u0 : Option Value) (M : Mem) (r : Int32) (M' : Mem), J13_18 n  M = some (r, M') → pm_ev pmT sc e 13 false (18, [u0], [], 129, 17845, hp M) (some (.int r), 129, 17845, hp M') := by
  intro u0 M r M' h
  unfold J13_18 at h
  refine pe_blk mm_13 2 (s' := (23, [u0], [.int 1], _, _, _)) rfl ?_
  exact J13_23_ev sc n e he 1 _ _ _ _ h
/-- ArmExpander.isOpening -/
def F13 (n : Nat) (a0 : Int32) (M : Mem) : Option (Int32 × Mem) :=
  if a0 = 40 then (J13_18 n M) else (if a0 = 91 then (J13_18 n M) else (if a0 = 123 then (J13_18 n M) else (J13_23 n 0 M)))
set_option maxRecDepth 100000 in
set_option maxHeartbeats 4000000 in
theorem F13_ev (sc : Option (Nat × (Nat → Int32))) (n : Nat) (a0 : Int32)  (M : Mem) (e : Nat) (he : 1 ≤ e) (r : Int32) (M' : Mem) (h : F13 n a0 M = some (r, M')) : pm_ev pmT sc e 13 false (0, [some (.int a0)], [], 129, 17845, hp M) (some (.int r), 129, 17845, hp M') := by
  unfold F13 at h
  refine pe_blk mm_13 2 (s' := (3, [some (.int a0)], [.int 40, .int a0], _, _, _)) rfl ?_
  by_cases q1 : a0 = 40
  · rw [if_pos q1] at h
    refine pe_blk mm_13 1 (s' := (if a0 = 40 then 18 else 6, [some (.int a0)], [], _, _, _)) rfl ?_
    rw [if_pos q1]
    exact J13_18_ev sc n e he _ _ _ _ h
  · rw [if_neg q1] at h
    refine pe_blk mm_13 1 (s' := (if a0 = 40 then 18 else 6, [some (.int a0)], [], _, _, _)) rfl ?_
    rw [if_neg q1]
    refine pe_blk mm_13 2 (s' := (9, [some (.int a0)], [.int 91, .int a0], _, _, _)) rfl ?_
    by_cases q3 : a0 = 91
    · rw [if_pos q3] at h
      refine pe_blk mm_13 1 (s' := (if a0 = 91 then 18 else 12, [some (.int a0)], [], _, _, _)) rfl ?_
      rw [if_pos q3]
      exact J13_18_ev sc n e he _ _ _ _ h
    · rw [if_neg q3] at h
      refine pe_blk mm_13 1 (s' := (if a0 = 91 then 18 else 12, [some (.int a0)], [], _, _, _)) rfl ?_
      rw [if_neg q3]
      refine pe_blk mm_13 2 (s' := (15, [some (.int a0)], [.int 123, .int a0], _, _, _)) rfl ?_
      by_cases q4 : a0 = 123
      · rw [if_pos q4] at h
        refine pe_blk mm_13 1 (s' := (if a0 = 123 then 18 else 22, [some (.int a0)], [], _, _, _)) rfl ?_
        rw [if_pos q4]
        exact J13_18_ev sc n e he _ _ _ _ h
      · rw [if_neg q4] at h
        refine pe_blk mm_13 1 (s' := (if a0 = 123 then 18 else 22, [some (.int a0)], [], _, _, _)) rfl ?_
        rw [if_neg q4]
        refine pe_blk mm_13 1 (s' := (23, [some (.int a0)], [.int 0], _, _, _)) rfl ?_
        exact J13_23_ev sc n e he 0 _ _ _ _ h
def J14_23 (n : Nat) (s0 : Int32) (M : Mem) : Option (Int32 × Mem) :=
  if s0 = 0 ∨ s0 = 1 then some (s0, M) else none
set_option maxRecDepth 100000 in
set_option maxHeartbeats 4000000 in
theorem J14_23_ev (sc : Option (Nat × (Nat → Int32))) (n : Nat)  (e : Nat) (he : 1 ≤ e) : ∀ (s0 : Int32) (u0 : Option Value) (M : Mem) (r : Int32) (M' : Mem), J14_23 n s0 M = some (r, M') → pm_ev pmT sc e 14 false (23, [u0], [.int s0], 129, 17845, hp M) (some (.int r), 129, 17845, hp M') := by
  intro s0 u0 M r M' h
  unfold J14_23 at h
  by_cases q2 : s0 = 0 ∨ s0 = 1
  · rw [if_pos q2] at h
    cases h
    exact pe_ret mm_14 rfl (if_pos q2)
  · rw [if_neg q2] at h
    cases h
def J14_18 (n : Nat) (M : Mem) : Option (Int32 × Mem) :=
  J14_23 n 1 M
set_option maxRecDepth 100000 in
set_option maxHeartbeats 4000000 in
theorem J14_18_ev (sc : Option (Nat × (Nat → Int32))) (n : Nat)  (e : Nat) (he : 1 ≤ e) : ∀ (u0 : Option Value) (M : Mem) (r : Int32) (M' : Mem), J14_18 n  M = some (r, M') → pm_ev pmT sc e 14 false (18, [u0], [], 129, 17845, hp M) (some (.int r), 129, 17845, hp M') := by
  intro u0 M r M' h
  unfold J14_18 at h
  refine pe_blk mm_14 2 (s' := (23, [u0], [.int 1], _, _, _)) rfl ?_
  exact J14_23_ev sc n e he 1 _ _ _ _ h
/-- ArmExpander.isClosing -/
def F14 (n : Nat) (a0 : Int32) (M : Mem) : Option (Int32 × Mem) :=
  if a0 = 41 then (J14_18 n M) else (if a0 = 93 then (J14_18 n M) else (if a0 = 125 then (J14_18 n M) else (J14_23 n 0 M)))
set_option maxRecDepth 100000 in
set_option maxHeartbeats 4000000 in
theorem F14_ev (sc : Option (Nat × (Nat → Int32))) (n : Nat) (a0 : Int32)  (M : Mem) (e : Nat) (he : 1 ≤ e) (r : Int32) (M' : Mem) (h : F14 n a0 M = some (r, M')) : pm_ev pmT sc e 14 false (0, [some (.int a0)], [], 129, 17845, hp M) (some (.int r), 129, 17845, hp M') := by
  unfold F14 at h
  refine pe_blk mm_14 2 (s' := (3, [some (.int a0)], [.int 41, .int a0], _, _, _)) rfl ?_
  by_cases q1 : a0 = 41
  · rw [if_pos q1] at h
    refine pe_blk mm_14 1 (s' := (if a0 = 41 then 18 else 6, [some (.int a0)], [], _, _, _)) rfl ?_
    rw [if_pos q1]
    exact J14_18_ev sc n e he _ _ _ _ h
  · rw [if_neg q1] at h
    refine pe_blk mm_14 1 (s' := (if a0 = 41 then 18 else 6, [some (.int a0)], [], _, _, _)) rfl ?_
    rw [if_neg q1]
    refine pe_blk mm_14 2 (s' := (9, [some (.int a0)], [.int 93, .int a0], _, _, _)) rfl ?_
    by_cases q3 : a0 = 93
    · rw [if_pos q3] at h
      refine pe_blk mm_14 1 (s' := (if a0 = 93 then 18 else 12, [some (.int a0)], [], _, _, _)) rfl ?_
      rw [if_pos q3]
      exact J14_18_ev sc n e he _ _ _ _ h
    · rw [if_neg q3] at h
      refine pe_blk mm_14 1 (s' := (if a0 = 93 then 18 else 12, [some (.int a0)], [], _, _, _)) rfl ?_
      rw [if_neg q3]
      refine pe_blk mm_14 2 (s' := (15, [some (.int a0)], [.int 125, .int a0], _, _, _)) rfl ?_
      by_cases q4 : a0 = 125
      · rw [if_pos q4] at h
        refine pe_blk mm_14 1 (s' := (if a0 = 125 then 18 else 22, [some (.int a0)], [], _, _, _)) rfl ?_
        rw [if_pos q4]
        exact J14_18_ev sc n e he _ _ _ _ h
      · rw [if_neg q4] at h
        refine pe_blk mm_14 1 (s' := (if a0 = 125 then 18 else 22, [some (.int a0)], [], _, _, _)) rfl ?_
        rw [if_neg q4]
        refine pe_blk mm_14 1 (s' := (23, [some (.int a0)], [.int 0], _, _, _)) rfl ?_
        exact J14_23_ev sc n e he 0 _ _ _ _ h
def J15_23 (n : Nat) (s0 : Int32) (M : Mem) : Option (Int32 × Mem) :=
  if s0 = 0 ∨ s0 = 1 then some (s0, M) else none
set_option maxRecDepth 100000 in
set_option maxHeartbeats 4000000 in
theorem J15_23_ev (sc : Option (Nat × (Nat → Int32))) (n : Nat)  (e : Nat) (he : 1 ≤ e) : ∀ (s0 : Int32) (u0 : Option Value) (M : Mem) (r : Int32) (M' : Mem), J15_23 n s0 M = some (r, M') → pm_ev pmT sc e 15 false (23, [u0], [.int s0], 129, 17845, hp M) (some (.int r), 129, 17845, hp M') := by
  intro s0 u0 M r M' h
  unfold J15_23 at h
  by_cases q2 : s0 = 0 ∨ s0 = 1
  · rw [if_pos q2] at h
    cases h
    exact pe_ret mm_15 rfl (if_pos q2)
  · rw [if_neg q2] at h
    cases h
def J15_18 (n : Nat) (M : Mem) : Option (Int32 × Mem) :=
  J15_23 n 1 M
set_option maxRecDepth 100000 in
set_option maxHeartbeats 4000000 in
theorem J15_18_ev (sc : Option (Nat × (Nat → Int32))) (n : Nat)  (e : Nat) (he : 1 ≤ e) : ∀ (u0 : Option Value) (M : Mem) (r : Int32) (M' : Mem), J15_18 n  M = some (r, M') → pm_ev pmT sc e 15 false (18, [u0], [], 129, 17845, hp M) (some (.int r), 129, 17845, hp M') := by
  intro u0 M r M' h
  unfold J15_18 at h
  refine pe_blk mm_15 2 (s' := (23, [u0], [.int 1], _, _, _)) rfl ?_
  exact J15_23_ev sc n e he 1 _ _ _ _ h
/-- ArmExpander.isRepetitionMark -/
def F15 (n : Nat) (a0 : Int32) (M : Mem) : Option (Int32 × Mem) :=
  if a0 = 42 then (J15_18 n M) else (if a0 = 43 then (J15_18 n M) else (if a0 = 63 then (J15_18 n M) else (J15_23 n 0 M)))
set_option maxRecDepth 100000 in
set_option maxHeartbeats 4000000 in
theorem F15_ev (sc : Option (Nat × (Nat → Int32))) (n : Nat) (a0 : Int32)  (M : Mem) (e : Nat) (he : 1 ≤ e) (r : Int32) (M' : Mem) (h : F15 n a0 M = some (r, M')) : pm_ev pmT sc e 15 false (0, [some (.int a0)], [], 129, 17845, hp M) (some (.int r), 129, 17845, hp M') := by
  unfold F15 at h
  refine pe_blk mm_15 2 (s' := (3, [some (.int a0)], [.int 42, .int a0], _, _, _)) rfl ?_
  by_cases q1 : a0 = 42
  · rw [if_pos q1] at h
    refine pe_blk mm_15 1 (s' := (if a0 = 42 then 18 else 6, [some (.int a0)], [], _, _, _)) rfl ?_
    rw [if_pos q1]
    exact J15_18_ev sc n e he _ _ _ _ h
  · rw [if_neg q1] at h
    refine pe_blk mm_15 1 (s' := (if a0 = 42 then 18 else 6, [some (.int a0)], [], _, _, _)) rfl ?_
    rw [if_neg q1]
    refine pe_blk mm_15 2 (s' := (9, [some (.int a0)], [.int 43, .int a0], _, _, _)) rfl ?_
    by_cases q3 : a0 = 43
    · rw [if_pos q3] at h
      refine pe_blk mm_15 1 (s' := (if a0 = 43 then 18 else 12, [some (.int a0)], [], _, _, _)) rfl ?_
      rw [if_pos q3]
      exact J15_18_ev sc n e he _ _ _ _ h
    · rw [if_neg q3] at h
      refine pe_blk mm_15 1 (s' := (if a0 = 43 then 18 else 12, [some (.int a0)], [], _, _, _)) rfl ?_
      rw [if_neg q3]
      refine pe_blk mm_15 2 (s' := (15, [some (.int a0)], [.int 63, .int a0], _, _, _)) rfl ?_
      by_cases q4 : a0 = 63
      · rw [if_pos q4] at h
        refine pe_blk mm_15 1 (s' := (if a0 = 63 then 18 else 22, [some (.int a0)], [], _, _, _)) rfl ?_
        rw [if_pos q4]
        exact J15_18_ev sc n e he _ _ _ _ h
      · rw [if_neg q4] at h
        refine pe_blk mm_15 1 (s' := (if a0 = 63 then 18 else 22, [some (.int a0)], [], _, _, _)) rfl ?_
        rw [if_neg q4]
        refine pe_blk mm_15 1 (s' := (23, [some (.int a0)], [.int 0], _, _, _)) rfl ?_
        exact J15_23_ev sc n e he 0 _ _ _ _ h
def J16_33 (n : Nat) (s0 : Int32) (M : Mem) : Option (Int32 × Mem) :=
  if s0 = 0 ∨ s0 = 1 then some (s0, M) else none
set_option maxRecDepth 100000 in
set_option maxHeartbeats 4000000 in
theorem J16_33_ev (sc : Option (Nat × (Nat → Int32))) (n : Nat)  (e : Nat) (he : 1 ≤ e) : ∀ (s0 : Int32) (u0 : Option Value) (M : Mem) (r : Int32) (M' : Mem), J16_33 n s0 M = some (r, M') → pm_ev pmT sc e 16 false (33, [u0], [.int s0], 129, 17845, hp M) (some (.int r), 129, 17845, hp M') := by
  intro s0 u0 M r M' h
  unfold J16_33 at h
  by_cases q2 : s0 = 0 ∨ s0 = 1
  · rw [if_pos q2] at h
    cases h
    exact pe_ret mm_16 rfl (if_pos q2)
  · rw [if_neg q2] at h
    cases h
def J16_28 (n : Nat) (M : Mem) : Option (Int32 × Mem) :=
  J16_33 n 1 M
set_option maxRecDepth 100000 in
set_option maxHeartbeats 4000000 in
theorem J16_28_ev (sc : Option (Nat × (Nat → Int32))) (n : Nat)  (e : Nat) (he : 1 ≤ e) : ∀ (u0 : Option Value) (M : Mem) (r : Int32) (M' : Mem), J16_28 n  M = some (r, M') → pm_ev pmT sc e 16 false (28, [u0], [], 129, 17845, hp M) (some (.int r), 129, 17845, hp M') := by
  intro u0 M r M' h
  unfold J16_28 at h
  refine pe_blk mm_16 2 (s' := (33, [u0], [.int 1], _, _, _)) rfl ?_
  exact J16_33_ev sc n e he 1 _ _ _ _ h
/-- ArmExpander.isKind -/
def F16 (n : Nat) (a0 : Int32) (M : Mem) : Option (Int32 × Mem) :=
  if a0 = 1247 then (J16_28 n M) else (if a0 = 11786 then (J16_28 n M) else (if a0 = 1560 then (J16_28 n M) else (if a0 = 1159 then (J16_28 n M) else (J16_33 n 0 M))))
set_option maxRecDepth 100000 in
set_option maxHeartbeats 4000000 in
theorem F16_ev (sc : Option (Nat × (Nat → Int32))) (n : Nat) (a0 : Int32)  (M : Mem) (e : Nat) (he : 1 ≤ e) (r : Int32) (M' : Mem) (h : F16 n a0 M = some (r, M')) : pm_ev pmT sc e 16 false (0, [some (.int a0)], [], 129, 17845, hp M) (some (.int r), 129, 17845, hp M') := by
  unfold F16 at h
  refine pe_blk mm_16 2 (s' := (4, [some (.int a0)], [.int 1247, .int a0], _, _, _)) rfl ?_
  by_cases q1 : a0 = 1247
  · rw [if_pos q1] at h
    refine pe_blk mm_16 1 (s' := (if a0 = 1247 then 28 else 7, [some (.int a0)], [], _, _, _)) rfl ?_
    rw [if_pos q1]
    exact J16_28_ev sc n e he _ _ _ _ h
  · rw [if_neg q1] at h
    refine pe_blk mm_16 1 (s' := (if a0 = 1247 then 28 else 7, [some (.int a0)], [], _, _, _)) rfl ?_
    rw [if_neg q1]
    refine pe_blk mm_16 2 (s' := (11, [some (.int a0)], [.int 11786, .int a0], _, _, _)) rfl ?_
    by_cases q3 : a0 = 11786
    · rw [if_pos q3] at h
      refine pe_blk mm_16 1 (s' := (if a0 = 11786 then 28 else 14, [some (.int a0)], [], _, _, _)) rfl ?_
      rw [if_pos q3]
      exact J16_28_ev sc n e he _ _ _ _ h
    · rw [if_neg q3] at h
      refine pe_blk mm_16 1 (s' := (if a0 = 11786 then 28 else 14, [some (.int a0)], [], _, _, _)) rfl ?_
      rw [if_neg q3]
      refine pe_blk mm_16 2 (s' := (18, [some (.int a0)], [.int 1560, .int a0], _, _, _)) rfl ?_
      by_cases q4 : a0 = 1560
      · rw [if_pos q4] at h
        refine pe_blk mm_16 1 (s' := (if a0 = 1560 then 28 else 21, [some (.int a0)], [], _, _, _)) rfl ?_
        rw [if_pos q4]
        exact J16_28_ev sc n e he _ _ _ _ h
      · rw [if_neg q4] at h
        refine pe_blk mm_16 1 (s' := (if a0 = 1560 then 28 else 21, [some (.int a0)], [], _, _, _)) rfl ?_
        rw [if_neg q4]
        refine pe_blk mm_16 2 (s' := (25, [some (.int a0)], [.int 1159, .int a0], _, _, _)) rfl ?_
        by_cases q5 : a0 = 1159
        · rw [if_pos q5] at h
          refine pe_blk mm_16 1 (s' := (if a0 = 1159 then 28 else 32, [some (.int a0)], [], _, _, _)) rfl ?_
          rw [if_pos q5]
          exact J16_28_ev sc n e he _ _ _ _ h
        · rw [if_neg q5] at h
          refine pe_blk mm_16 1 (s' := (if a0 = 1159 then 28 else 32, [some (.int a0)], [], _, _, _)) rfl ?_
          rw [if_neg q5]
          refine pe_blk mm_16 1 (s' := (33, [some (.int a0)], [.int 0], _, _, _)) rfl ?_
          exact J16_33_ev sc n e he 0 _ _ _ _ h
def J17_24 (n : Nat) (s0 : Int32) (M : Mem) : Option (Int32 × Mem) :=
  some (s0, M)
set_option maxRecDepth 100000 in
set_option maxHeartbeats 4000000 in
theorem J17_24_ev (sc : Option (Nat × (Nat → Int32))) (n : Nat)  (e : Nat) (he : 1 ≤ e) : ∀ (s0 : Int32) (u0 : Option Value) (M : Mem) (r : Int32) (M' : Mem), J17_24 n s0 M = some (r, M') → pm_ev pmT sc e 17 false (24, [u0], [.int s0], 129, 17845, hp M) (some (.int r), 129, 17845, hp M') := by
  intro s0 u0 M r M' h
  unfold J17_24 at h
  cases h
  exact pe_ret mm_17 rfl rfl
/-- ArmExpander.closingOf -/
def F17 (n : Nat) (a0 : Int32) (M : Mem) : Option (Int32 × Mem) :=
  if a0 = 40 then (J17_24 n 41 M) else (if a0 = 91 then (J17_24 n 93 M) else (J17_24 n 125 M))
set_option maxRecDepth 100000 in
set_option maxHeartbeats 4000000 in
theorem F17_ev (sc : Option (Nat × (Nat → Int32))) (n : Nat) (a0 : Int32)  (M : Mem) (e : Nat) (he : 1 ≤ e) (r : Int32) (M' : Mem) (h : F17 n a0 M = some (r, M')) : pm_ev pmT sc e 17 false (0, [some (.int a0)], [], 129, 17845, hp M) (some (.int r), 129, 17845, hp M') := by
  unfold F17 at h
  refine pe_blk mm_17 2 (s' := (3, [some (.int a0)], [.int 40, .int a0], _, _, _)) rfl ?_
  by_cases q1 : a0 = 40
  · rw [if_pos q1] at h
    refine pe_blk mm_17 1 (s' := (if a0 = 40 then 6 else 11, [some (.int a0)], [], _, _, _)) rfl ?_
    rw [if_pos q1]
    refine pe_blk mm_17 2 (s' := (24, [some (.int a0)], [.int 41], _, _, _)) rfl ?_
    exact J17_24_ev sc n e he 41 _ _ _ _ h
  · rw [if_neg q1] at h
    refine pe_blk mm_17 1 (s' := (if a0 = 40 then 6 else 11, [some (.int a0)], [], _, _, _)) rfl ?_
    rw [if_neg q1]
    refine pe_blk mm_17 2 (s' := (14, [some (.int a0)], [.int 91, .int a0], _, _, _)) rfl ?_
    by_cases q2 : a0 = 91
    · rw [if_pos q2] at h
      refine pe_blk mm_17 1 (s' := (if a0 = 91 then 17 else 22, [some (.int a0)], [], _, _, _)) rfl ?_
      rw [if_pos q2]
      refine pe_blk mm_17 2 (s' := (24, [some (.int a0)], [.int 93], _, _, _)) rfl ?_
      exact J17_24_ev sc n e he 93 _ _ _ _ h
    · rw [if_neg q2] at h
      refine pe_blk mm_17 1 (s' := (if a0 = 91 then 17 else 22, [some (.int a0)], [], _, _, _)) rfl ?_
      rw [if_neg q2]
      refine pe_blk mm_17 1 (s' := (24, [some (.int a0)], [.int 125], _, _, _)) rfl ?_
      exact J17_24_ev sc n e he 125 _ _ _ _ h
def J19_15 (n : Nat) (s0 : Int32) (M : Mem) : Option (Int32 × Mem) :=
  if s0 = 0 ∨ s0 = 1 then some (s0, M) else none
set_option maxRecDepth 100000 in
set_option maxHeartbeats 4000000 in
theorem J19_15_ev (sc : Option (Nat × (Nat → Int32))) (n : Nat)  (e : Nat) (he : 1 ≤ e) : ∀ (s0 : Int32) (u0 : Option Value) (u1 : Option Value) (u2 : Option Value) (M : Mem) (r : Int32) (M' : Mem), J19_15 n s0 M = some (r, M') → pm_ev pmT sc e 19 false (15, [u0, u1, u2], [.int s0], 129, 17845, hp M) (some (.int r), 129, 17845, hp M') := by
  intro s0 u0 u1 u2 M r M' h
  unfold J19_15 at h
  by_cases q2 : s0 = 0 ∨ s0 = 1
  · rw [if_pos q2] at h
    cases h
    exact pe_ret mm_19 rfl (if_pos q2)
  · rw [if_neg q2] at h
    cases h
def J19_14 (n : Nat) (M : Mem) : Option (Int32 × Mem) :=
  J19_15 n 0 M
set_option maxRecDepth 100000 in
set_option maxHeartbeats 4000000 in
theorem J19_14_ev (sc : Option (Nat × (Nat → Int32))) (n : Nat)  (e : Nat) (he : 1 ≤ e) : ∀ (u0 : Option Value) (u1 : Option Value) (u2 : Option Value) (M : Mem) (r : Int32) (M' : Mem), J19_14 n  M = some (r, M') → pm_ev pmT sc e 19 false (14, [u0, u1, u2], [], 129, 17845, hp M) (some (.int r), 129, 17845, hp M') := by
  intro u0 u1 u2 M r M' h
  unfold J19_14 at h
  refine pe_blk mm_19 1 (s' := (15, [u0, u1, u2], [.int 0], _, _, _)) rfl ?_
  exact J19_15_ev sc n e he 0 _ _ _ _ _ _ h
/-- ArmExpanderModel.in -/
def F19 (n : Nat) (a0 : Int32) (a1 : Int32) (a2 : Int32) (M : Mem) : Option (Int32 × Mem) :=
  if a0 < a1 then (J19_14 n M) else (if a2 < a0 then (J19_14 n M) else (J19_15 n 1 M))
set_option maxRecDepth 100000 in
set_option maxHeartbeats 4000000 in
theorem F19_ev (sc : Option (Nat × (Nat → Int32))) (n : Nat) (a0 : Int32) (a1 : Int32) (a2 : Int32)  (M : Mem) (e : Nat) (he : 1 ≤ e) (r : Int32) (M' : Mem) (h : F19 n a0 a1 a2 M = some (r, M')) : pm_ev pmT sc e 19 false (0, [some (.int a0), some (.int a1), some (.int a2)], [], 129, 17845, hp M) (some (.int r), 129, 17845, hp M') := by
  unfold F19 at h
  refine pe_blk mm_19 2 (s' := (2, [some (.int a0), some (.int a1), some (.int a2)], [.int a1, .int a0], _, _, _)) rfl ?_
  by_cases q1 : a0 < a1
  · rw [if_pos q1] at h
    refine pe_blk mm_19 1 (s' := (if a0 < a1 then 14 else 5, [some (.int a0), some (.int a1), some (.int a2)], [], _, _, _)) rfl ?_
    rw [if_pos q1]
    exact J19_14_ev sc n e he _ _ _ _ _ _ h
  · rw [if_neg q1] at h
    refine pe_blk mm_19 1 (s' := (if a0 < a1 then 14 else 5, [some (.int a0), some (.int a1), some (.int a2)], [], _, _, _)) rfl ?_
    rw [if_neg q1]
    refine pe_blk mm_19 2 (s' := (7, [some (.int a0), some (.int a1), some (.int a2)], [.int a2, .int a0], _, _, _)) rfl ?_
    by_cases q3 : a2 < a0
    · rw [if_pos q3] at h
      refine pe_blk mm_19 1 (s' := (if a2 < a0 then 14 else 10, [some (.int a0), some (.int a1), some (.int a2)], [], _, _, _)) rfl ?_
      rw [if_pos q3]
      exact J19_14_ev sc n e he _ _ _ _ _ _ h
    · rw [if_neg q3] at h
      refine pe_blk mm_19 1 (s' := (if a2 < a0 then 14 else 10, [some (.int a0), some (.int a1), some (.int a2)], [], _, _, _)) rfl ?_
      rw [if_neg q3]
      refine pe_blk mm_19 2 (s' := (15, [some (.int a0), some (.int a1), some (.int a2)], [.int 1], _, _, _)) rfl ?_
      exact J19_15_ev sc n e he 1 _ _ _ _ _ _ h
def J20_114 (n : Nat) (x3 : Int32) (M : Mem) : Option (Int32 × Mem) :=
  if x3 = 0 ∨ x3 = 1 then some (x3, M) else none
set_option maxRecDepth 100000 in
set_option maxHeartbeats 4000000 in
theorem J20_114_ev (sc : Option (Nat × (Nat → Int32))) (n : Nat)  (e : Nat) (he : 2 ≤ e) : ∀ (x3 : Int32) (u0 : Option Value) (u1 : Option Value) (u2 : Option Value) (u4 : Option Value) (M : Mem) (r : Int32) (M' : Mem), J20_114 n x3 M = some (r, M') → pm_ev pmT sc e 20 false (114, [u0, u1, u2, some (.int x3), u4], [], 129, 17845, hp M) (some (.int r), 129, 17845, hp M') := by
  intro x3 u0 u1 u2 u4 M r M' h
  unfold J20_114 at h
  refine pe_blk mm_20 1 (s' := (115, [u0, u1, u2, some (.int x3), u4], [.int x3], _, _, _)) rfl ?_
  by_cases q7 : x3 = 0 ∨ x3 = 1
  · rw [if_pos q7] at h
    cases h
    exact pe_ret mm_20 rfl (if_pos q7)
  · rw [if_neg q7] at h
    cases h
def J20_98 (n : Nat) (rec69 : Int32 → Int32 → Int32 → Mem → Option (Int32 × Mem)) (x1 : Int32) (x3 : Int32) (x4 : Int32) (M : Mem) : Option (Int32 × Mem) :=
  mlet (m_i M 83 1 ((M.1 83 1) + 1)) (fun M11 => rec69 x1 x3 (x4 + (-1)) M11)
set_option maxRecDepth 100000 in
set_option maxHeartbeats 4000000 in
theorem J20_98_ev (sc : Option (Nat × (Nat → Int32))) (n : Nat)  (e : Nat) (he : 2 ≤ e) (rec69 : Int32 → Int32 → Int32 → Mem → Option (Int32 × Mem)) (hr69 : ∀ (x1 : Int32) (x3 : Int32) (x4 : Int32) (u2 : Option Value) (M : Mem) (r : Int32) (M' : Mem), rec69 x1 x3 x4 M = some (r, M') → pm_ev pmT sc e 20 false (69, [some (.ref 83), some (.int x1), u2, some (.int x3), some (.int x4)], [], 129, 17845, hp M) (some (.int r), 129, 17845, hp M')) : ∀ (x1 : Int32) (x3 : Int32) (x4 : Int32) (u2 : Option Value) (M : Mem) (r : Int32) (M' : Mem), J20_98 n rec69 x1 x3 x4 M = some (r, M') → pm_ev pmT sc e 20 false (98, [some (.ref 83), some (.int x1), u2, some (.int x3), some (.int x4)], [], 129, 17845, hp M) (some (.int r), 129, 17845, hp M') := by
  intro x1 x3 x4 u2 M r M' h
  unfold J20_98 at h
  refine pe_blk mm_20 2 (s' := (100, [some (.ref 83), some (.int x1), u2, some (.int x3), some (.int x4)], [.ref 83, .ref 83], _, _, _)) rfl ?_
  refine pe_get mm_20 rfl rfl rfl (by decide) rfl ?_
  refine pe_blk mm_20 2 (s' := (105, [some (.ref 83), some (.int x1), u2, some (.int x3), some (.int x4)], [.int ((M.1 83 1) + 1), .ref 83], _, _, _)) rfl ?_
  refine pe_puti mm_20 rfl rfl rfl (by decide) (Nat.le_of_ble_eq_true rfl) rfl rfl ?_
  show pm_ev _ _ _ _ _ (108, [some (.ref 83), some (.int x1), u2, some (.int x3), some (.int x4)], [], _, _, hp (m_i M 83 1 ((M.1 83 1) + 1))) _
  generalize m_i M 83 1 ((M.1 83 1) + 1) = M11 at h ⊢
  rw [mlet] at h
  refine pe_blk mm_20 2 (s' := (69, [some (.ref 83), some (.int x1), u2, some (.int x3), some (.int (x4 + (-1)))], [], _, _, _)) rfl ?_
  exact hr69 x1 x3 (x4 + (-1)) _ _ _ _ h
def L20_69 (n : Nat) : Nat → Int32 → Int32 → Int32 → Mem → Option (Int32 × Mem)
  | 0, _, _, _, _ => none
  | k + 1, x1, x3, x4, M => if x4 < 0 then (J20_114 n x3 M) else (if x3 = 0 then (J20_114 n x3 M) else (if (M.1 83 1) < 0 ∨ 120 ≤ (M.1 83 1 : Int32).toNatClampNeg then none else (mlet (m_i M 84 (M.1 83 1 : Int32).toNatClampNeg ((x1 >>> ((8 * x4) &&& 31)) &&& 255)) (fun M10 => J20_98 n (L20_69 n k) x1 x3 x4 M10))))
set_option maxRecDepth 100000 in
set_option maxHeartbeats 4000000 in
theorem L20_69_ev (sc : Option (Nat × (Nat → Int32))) (n : Nat)  (e : Nat) (he : 2 ≤ e) : ∀ k : Nat, ∀ (x1 : Int32) (x3 : Int32) (x4 : Int32) (u2 : Option Value) (M : Mem) (r : Int32) (M' : Mem), L20_69 n k x1 x3 x4 M = some (r, M') → pm_ev pmT sc e 20 false (69, [some (.ref 83), some (.int x1), u2, some (.int x3), some (.int x4)], [], 129, 17845, hp M) (some (.int r), 129, 17845, hp M') := by
  intro k
  induction k with
  | zero => intro x1 x3 x4 u2 M r M' h; cases h
  | succ k hr69 =>
    intro x1 x3 x4 u2 M r M' h
    rw [L20_69] at h
    refine pe_blk mm_20 1 (s' := (71, [some (.ref 83), some (.int x1), u2, some (.int x3), some (.int x4)], [.int x4], _, _, _)) rfl ?_
    by_cases q6 : x4 < 0
    · rw [if_pos q6] at h
      refine pe_blk mm_20 1 (s' := (if x4 < 0 then 114 else 74, [some (.ref 83), some (.int x1), u2, some (.int x3), some (.int x4)], [], _, _, _)) rfl ?_
      rw [if_pos q6]
      exact J20_114_ev sc n e he x3 _ _ _ _ _ _ _ h
    · rw [if_neg q6] at h
      refine pe_blk mm_20 1 (s' := (if x4 < 0 then 114 else 74, [some (.ref 83), some (.int x1), u2, some (.int x3), some (.int x4)], [], _, _, _)) rfl ?_
      rw [if_neg q6]
      refine pe_blk mm_20 1 (s' := (75, [some (.ref 83), some (.int x1), u2, some (.int x3), some (.int x4)], [.int x3], _, _, _)) rfl ?_
      by_cases q8 : x3 = 0
      · rw [if_pos q8] at h
        refine pe_blk mm_20 1 (s' := (if x3 = 0 then 114 else 78, [some (.ref 83), some (.int x1), u2, some (.int x3), some (.int x4)], [], _, _, _)) rfl ?_
        rw [if_pos q8]
        exact J20_114_ev sc n e he x3 _ _ _ _ _ _ _ h
      · rw [if_neg q8] at h
        refine pe_blk mm_20 1 (s' := (if x3 = 0 then 114 else 78, [some (.ref 83), some (.int x1), u2, some (.int x3), some (.int x4)], [], _, _, _)) rfl ?_
        rw [if_neg q8]
        refine pe_blk mm_20 1 (s' := (79, [some (.ref 83), some (.int x1), u2, some (.int x3), some (.int x4)], [.ref 83], _, _, _)) rfl ?_
        refine pe_get mm_20 rfl rfl rfl (by decide) rfl ?_
        refine pe_blk mm_20 1 (s' := (83, [some (.ref 83), some (.int x1), u2, some (.int x3), some (.int x4)], [.ref 83, .ref 84], _, _, _)) rfl ?_
        refine pe_get mm_20 rfl rfl rfl (by decide) rfl ?_
        refine pe_blk mm_20 7 (s' := (97, [some (.ref 83), some (.int x1), u2, some (.int x3), some (.int x4)], [.int ((x1 >>> ((8 * x4) &&& 31)) &&& 255), .int (M.1 83 1), .ref 84], _, _, _)) rfl ?_
        by_cases q9 : (M.1 83 1) < 0 ∨ 120 ≤ (M.1 83 1 : Int32).toNatClampNeg
        · rw [if_pos q9] at h
          cases h
        · rw [if_neg q9] at h
          refine pe_iasti mm_20 rfl rfl (by decide) q9 rfl ?_
          show pm_ev _ _ _ _ _ (98, [some (.ref 83), some (.int x1), u2, some (.int x3), some (.int x4)], [], _, _, hp (m_i M 84 (M.1 83 1 : Int32).toNatClampNeg ((x1 >>> ((8 * x4) &&& 31)) &&& 255))) _
          generalize m_i M 84 (M.1 83 1 : Int32).toNatClampNeg ((x1 >>> ((8 * x4) &&& 31)) &&& 255) = M10 at h ⊢
          rw [mlet] at h
          exact J20_98_ev sc n e he (L20_69 n k) hr69 x1 x3 x4 _ _ _ _ h
def J20_64 (n : Nat) (x1 : Int32) (x2 : Int32) (x3 : Int32) (M : Mem) : Option (Int32 × Mem) :=
  L20_69 n n x1 x3 (x2 - 1) M
set_option maxRecDepth 100000 in
set_option maxHeartbeats 4000000 in
theorem J20_64_ev (sc : Option (Nat × (Nat → Int32))) (n : Nat)  (e : Nat) (he : 2 ≤ e) : ∀ (x1 : Int32) (x2 : Int32) (x3 : Int32) (u4 : Option Value) (M : Mem) (r : Int32) (M' : Mem), J20_64 n x1 x2 x3 M = some (r, M') → pm_ev pmT sc e 20 false (64, [some (.ref 83), some (.int x1), some (.int x2), some (.int x3), u4], [], 129, 17845, hp M) (some (.int r), 129, 17845, hp M') := by
  intro x1 x2 x3 u4 M r M' h
  unfold J20_64 at h
  refine pe_blk mm_20 4 (s' := (69, [some (.ref 83), some (.int x1), some (.int x2), some (.int x3), some (.int (x2 - 1))], [], _, _, _)) rfl ?_
  exact L20_69_ev sc n e he n x1 x3 (x2 - 1) _ _ _ _ h
def L20_29 (n : Nat) : Nat → Int32 → Int32 → Int32 → Int32 → Mem → Option (Int32 × Mem)
  | 0, _, _, _, _, _ => none
  | k + 1, x1, x2, x3, x4, M => if x2 ≤ x4 then (J20_64 n x1 x2 x3 M) else (if x3 = 0 then (J20_64 n x1 x2 x3 M) else (match F19 n ((x1 >>> ((8 * x4) &&& 31)) &&& 255) 32 126 M with | some (v13, M14) => ((L20_29 n k) x1 x2 v13 (x4 + 1) M14) | none => none))
set_option maxRecDepth 100000 in
set_option maxHeartbeats 4000000 in
theorem L20_29_ev (sc : Option (Nat × (Nat → Int32))) (n : Nat)  (e : Nat) (he : 2 ≤ e) : ∀ k : Nat, ∀ (x1 : Int32) (x2 : Int32) (x3 : Int32) (x4 : Int32) (M : Mem) (r : Int32) (M' : Mem), L20_29 n k x1 x2 x3 x4 M = some (r, M') → pm_ev pmT sc e 20 false (29, [some (.ref 83), some (.int x1), some (.int x2), some (.int x3), some (.int x4)], [], 129, 17845, hp M) (some (.int r), 129, 17845, hp M') := by
  intro k
  induction k with
  | zero => intro x1 x2 x3 x4  M r M' h; cases h
  | succ k hr29 =>
    intro x1 x2 x3 x4  M r M' h
    rw [L20_29] at h
    refine pe_blk mm_20 2 (s' := (32, [some (.ref 83), some (.int x1), some (.int x2), some (.int x3), some (.int x4)], [.int x2, .int x4], _, _, _)) rfl ?_
    by_cases q5 : x2 ≤ x4
    · rw [if_pos q5] at h
      refine pe_blk mm_20 1 (s' := (if x2 ≤ x4 then 64 else 35, [some (.ref 83), some (.int x1), some (.int x2), some (.int x3), some (.int x4)], [], _, _, _)) rfl ?_
      rw [if_pos q5]
      exact J20_64_ev sc n e he x1 x2 x3 _ _ _ _ h
    · rw [if_neg q5] at h
      refine pe_blk mm_20 1 (s' := (if x2 ≤ x4 then 64 else 35, [some (.ref 83), some (.int x1), some (.int x2), some (.int x3), some (.int x4)], [], _, _, _)) rfl ?_
      rw [if_neg q5]
      refine pe_blk mm_20 1 (s' := (36, [some (.ref 83), some (.int x1), some (.int x2), some (.int x3), some (.int x4)], [.int x3], _, _, _)) rfl ?_
      by_cases q12 : x3 = 0
      · rw [if_pos q12] at h
        refine pe_blk mm_20 1 (s' := (if x3 = 0 then 64 else 39, [some (.ref 83), some (.int x1), some (.int x2), some (.int x3), some (.int x4)], [], _, _, _)) rfl ?_
        rw [if_pos q12]
        exact J20_64_ev sc n e he x1 x2 x3 _ _ _ _ h
      · rw [if_neg q12] at h
        refine pe_blk mm_20 1 (s' := (if x3 = 0 then 64 else 39, [some (.ref 83), some (.int x1), some (.int x2), some (.int x3), some (.int x4)], [], _, _, _)) rfl ?_
        rw [if_neg q12]
        refine pe_blk mm_20 9 (s' := (54, [some (.ref 83), some (.int x1), some (.int x2), some (.int x3), some (.int x4)], [.int 126, .int 32, .int ((x1 >>> ((8 * x4) &&& 31)) &&& 255)], _, _, _)) rfl ?_
        obtain ⟨e1, rfl⟩ : ∃ e1, e = e1 + 1 := ⟨e - 1, by omega⟩
        cases hc15 : F19 n ((x1 >>> ((8 * x4) &&& 31)) &&& 255) 32 126 M with
        | none => rw [hc15] at h; cases h
        | some w =>
          obtain ⟨v13, M14⟩ := w
          rw [hc15] at h
          dsimp only at h
          refine pe_stat (al := [.int 126, .int 32, .int ((x1 >>> ((8 * x4) &&& 31)) &&& 255)]) (L0 := [some (.int ((x1 >>> ((8 * x4) &&& 31)) &&& 255)), some (.int 32), some (.int 126)]) (r1 := (some (.int v13), 129, 17845, hp M14)) mm_20 rfl rfl rfl mm_19 rfl (Nat.le_of_ble_eq_true rfl) (Nat.le_of_ble_eq_true rfl) rfl rfl (F19_ev sc n ((x1 >>> ((8 * x4) &&& 31)) &&& 255) 32 126 _ e1 (by omega) _ _ hc15) ?_
          show pm_ev _ _ _ _ _ (57, [some (.ref 83), some (.int x1), some (.int x2), some (.int x3), some (.int x4)], [.int v13], _, _, _) _
          refine pe_blk mm_20 3 (s' := (29, [some (.ref 83), some (.int x1), some (.int x2), some (.int v13), some (.int (x4 + 1))], [], _, _, _)) rfl ?_
          exact hr29 x1 x2 v13 (x4 + 1) _ _ _ h
def J20_25 (n : Nat) (x1 : Int32) (x2 : Int32) (s0 : Int32) (M : Mem) : Option (Int32 × Mem) :=
  L20_29 n n x1 x2 s0 0 M
set_option maxRecDepth 100000 in
set_option maxHeartbeats 4000000 in
theorem J20_25_ev (sc : Option (Nat × (Nat → Int32))) (n : Nat)  (e : Nat) (he : 2 ≤ e) : ∀ (x1 : Int32) (x2 : Int32) (s0 : Int32) (u3 : Option Value) (u4 : Option Value) (M : Mem) (r : Int32) (M' : Mem), J20_25 n x1 x2 s0 M = some (r, M') → pm_ev pmT sc e 20 false (25, [some (.ref 83), some (.int x1), some (.int x2), u3, u4], [.int s0], 129, 17845, hp M) (some (.int r), 129, 17845, hp M') := by
  intro x1 x2 s0 u3 u4 M r M' h
  unfold J20_25 at h
  refine pe_blk mm_20 3 (s' := (29, [some (.ref 83), some (.int x1), some (.int x2), some (.int s0), some (.int 0)], [], _, _, _)) rfl ?_
  exact L20_29_ev sc n e he n x1 x2 s0 0 _ _ _ h
def J20_24 (n : Nat) (x1 : Int32) (x2 : Int32) (M : Mem) : Option (Int32 × Mem) :=
  J20_25 n x1 x2 0 M
set_option maxRecDepth 100000 in
set_option maxHeartbeats 4000000 in
theorem J20_24_ev (sc : Option (Nat × (Nat → Int32))) (n : Nat)  (e : Nat) (he : 2 ≤ e) : ∀ (x1 : Int32) (x2 : Int32) (u3 : Option Value) (u4 : Option Value) (M : Mem) (r : Int32) (M' : Mem), J20_24 n x1 x2 M = some (r, M') → pm_ev pmT sc e 20 false (24, [some (.ref 83), some (.int x1), some (.int x2), u3, u4], [], 129, 17845, hp M) (some (.int r), 129, 17845, hp M') := by
  intro x1 x2 u3 u4 M r M' h
  unfold J20_24 at h
  refine pe_blk mm_20 1 (s' := (25, [some (.ref 83), some (.int x1), some (.int x2), u3, u4], [.int 0], _, _, _)) rfl ?_
  exact J20_25_ev sc n e he x1 x2 0 _ _ _ _ _ h
/-- ArmExpanderModel.type -/
def F20 (n : Nat) (a0 : Int32) (a1 : Int32) (M : Mem) : Option (Int32 × Mem) :=
  match F19 n a1 1 4 M with | some (v1, M2) => (if v1 = 0 then (J20_24 n a0 a1 M2) else (if 120 < ((M2.1 83 1) + a1) then (J20_24 n a0 a1 M2) else (J20_25 n a0 a1 1 M2))) | none => none
set_option maxRecDepth 100000 in
set_option maxHeartbeats 4000000 in
theorem F20_ev (sc : Option (Nat × (Nat → Int32))) (n : Nat) (a0 : Int32) (a1 : Int32)  (M : Mem) (e : Nat) (he : 2 ≤ e) (r : Int32) (M' : Mem) (h : F20 n a0 a1 M = some (r, M')) : pm_ev pmT sc e 20 false (0, [some (.ref 83), some (.int a0), some (.int a1), none, none], [], 129, 17845, hp M) (some (.int r), 129, 17845, hp M') := by
  unfold F20 at h
  refine pe_blk mm_20 3 (s' := (3, [some (.ref 83), some (.int a0), some (.int a1), none, none], [.int 4, .int 1, .int a1], _, _, _)) rfl ?_
  obtain ⟨e1, rfl⟩ : ∃ e1, e = e1 + 1 := ⟨e - 1, by omega⟩
  cases hc3 : F19 n a1 1 4 M with
  | none => rw [hc3] at h; cases h
  | some w =>
    obtain ⟨v1, M2⟩ := w
    rw [hc3] at h
    dsimp only at h
    refine pe_stat (al := [.int 4, .int 1, .int a1]) (L0 := [some (.int a1), some (.int 1), some (.int 4)]) (r1 := (some (.int v1), 129, 17845, hp M2)) mm_20 rfl rfl rfl mm_19 rfl (Nat.le_of_ble_eq_true rfl) (Nat.le_of_ble_eq_true rfl) rfl rfl (F19_ev sc n a1 1 4 _ e1 (by omega) _ _ hc3) ?_
    show pm_ev _ _ _ _ _ (6, [some (.ref 83), some (.int a0), some (.int a1), none, none], [.int v1], _, _, _) _
    by_cases q4 : v1 = 0
    · rw [if_pos q4] at h
      refine pe_blk mm_20 1 (s' := (if v1 = 0 then 24 else 9, [some (.ref 83), some (.int a0), some (.int a1), none, none], [], _, _, _)) rfl ?_
      rw [if_pos q4]
      exact J20_24_ev sc n (e1 + 1) he a0 a1 _ _ _ _ _ h
    · rw [if_neg q4] at h
      refine pe_blk mm_20 1 (s' := (if v1 = 0 then 24 else 9, [some (.ref 83), some (.int a0), some (.int a1), none, none], [], _, _, _)) rfl ?_
      rw [if_neg q4]
      refine pe_blk mm_20 1 (s' := (10, [some (.ref 83), some (.int a0), some (.int a1), none, none], [.ref 83], _, _, _)) rfl ?_
      refine pe_get mm_20 rfl rfl rfl (by decide) rfl ?_
      refine pe_blk mm_20 3 (s' := (17, [some (.ref 83), some (.int a0), some (.int a1), none, none], [.int 120, .int ((M2.1 83 1) + a1)], _, _, _)) rfl ?_
      by_cases q16 : 120 < ((M2.1 83 1) + a1)
      · rw [if_pos q16] at h
        refine pe_blk mm_20 1 (s' := (if 120 < ((M2.1 83 1) + a1) then 24 else 20, [some (.ref 83), some (.int a0), some (.int a1), none, none], [], _, _, _)) rfl ?_
        rw [if_pos q16]
        exact J20_24_ev sc n (e1 + 1) he a0 a1 _ _ _ _ _ h
      · rw [if_neg q16] at h
        refine pe_blk mm_20 1 (s' := (if 120 < ((M2.1 83 1) + a1) then 24 else 20, [some (.ref 83), some (.int a0), some (.int a1), none, none], [], _, _, _)) rfl ?_
        rw [if_neg q16]
        refine pe_blk mm_20 2 (s' := (25, [some (.ref 83), some (.int a0), some (.int a1), none, none], [.int 1], _, _, _)) rfl ?_
        exact J20_25_ev sc n (e1 + 1) he a0 a1 1 _ _ _ _ _ h
def J21_23 (n : Nat) (s0 : Int32) (M : Mem) : Option (Int32 × Mem) :=
  if s0 = 0 ∨ s0 = 1 then some (s0, M) else none
set_option maxRecDepth 100000 in
set_option maxHeartbeats 4000000 in
theorem J21_23_ev (sc : Option (Nat × (Nat → Int32))) (n : Nat)  (e : Nat) (he : 1 ≤ e) : ∀ (s0 : Int32) (u0 : Option Value) (M : Mem) (r : Int32) (M' : Mem), J21_23 n s0 M = some (r, M') → pm_ev pmT sc e 21 false (23, [u0], [.int s0], 129, 17845, hp M) (some (.int r), 129, 17845, hp M') := by
  intro s0 u0 M r M' h
  unfold J21_23 at h
  by_cases q2 : s0 = 0 ∨ s0 = 1
  · rw [if_pos q2] at h
    cases h
    exact pe_ret mm_21 rfl (if_pos q2)
  · rw [if_neg q2] at h
    cases h
def J21_18 (n : Nat) (M : Mem) : Option (Int32 × Mem) :=
  J21_23 n 1 M
set_option maxRecDepth 100000 in
set_option maxHeartbeats 4000000 in
theorem J21_18_ev (sc : Option (Nat × (Nat → Int32))) (n : Nat)  (e : Nat) (he : 1 ≤ e) : ∀ (u0 : Option Value) (M : Mem) (r : Int32) (M' : Mem), J21_18 n  M = some (r, M') → pm_ev pmT sc e 21 false (18, [u0], [], 129, 17845, hp M) (some (.int r), 129, 17845, hp M') := by
  intro u0 M r M' h
  unfold J21_18 at h
  refine pe_blk mm_21 2 (s' := (23, [u0], [.int 1], _, _, _)) rfl ?_
  exact J21_23_ev sc n e he 1 _ _ _ _ h
/-- ArmExpanderModel.isOpening -/
def F21 (n : Nat) (a0 : Int32) (M : Mem) : Option (Int32 × Mem) :=
  if a0 = 40 then (J21_18 n M) else (if a0 = 91 then (J21_18 n M) else (if a0 = 123 then (J21_18 n M) else (J21_23 n 0 M)))
set_option maxRecDepth 100000 in
set_option maxHeartbeats 4000000 in
theorem F21_ev (sc : Option (Nat × (Nat → Int32))) (n : Nat) (a0 : Int32)  (M : Mem) (e : Nat) (he : 1 ≤ e) (r : Int32) (M' : Mem) (h : F21 n a0 M = some (r, M')) : pm_ev pmT sc e 21 false (0, [some (.int a0)], [], 129, 17845, hp M) (some (.int r), 129, 17845, hp M') := by
  unfold F21 at h
  refine pe_blk mm_21 2 (s' := (3, [some (.int a0)], [.int 40, .int a0], _, _, _)) rfl ?_
  by_cases q1 : a0 = 40
  · rw [if_pos q1] at h
    refine pe_blk mm_21 1 (s' := (if a0 = 40 then 18 else 6, [some (.int a0)], [], _, _, _)) rfl ?_
    rw [if_pos q1]
    exact J21_18_ev sc n e he _ _ _ _ h
  · rw [if_neg q1] at h
    refine pe_blk mm_21 1 (s' := (if a0 = 40 then 18 else 6, [some (.int a0)], [], _, _, _)) rfl ?_
    rw [if_neg q1]
    refine pe_blk mm_21 2 (s' := (9, [some (.int a0)], [.int 91, .int a0], _, _, _)) rfl ?_
    by_cases q3 : a0 = 91
    · rw [if_pos q3] at h
      refine pe_blk mm_21 1 (s' := (if a0 = 91 then 18 else 12, [some (.int a0)], [], _, _, _)) rfl ?_
      rw [if_pos q3]
      exact J21_18_ev sc n e he _ _ _ _ h
    · rw [if_neg q3] at h
      refine pe_blk mm_21 1 (s' := (if a0 = 91 then 18 else 12, [some (.int a0)], [], _, _, _)) rfl ?_
      rw [if_neg q3]
      refine pe_blk mm_21 2 (s' := (15, [some (.int a0)], [.int 123, .int a0], _, _, _)) rfl ?_
      by_cases q4 : a0 = 123
      · rw [if_pos q4] at h
        refine pe_blk mm_21 1 (s' := (if a0 = 123 then 18 else 22, [some (.int a0)], [], _, _, _)) rfl ?_
        rw [if_pos q4]
        exact J21_18_ev sc n e he _ _ _ _ h
      · rw [if_neg q4] at h
        refine pe_blk mm_21 1 (s' := (if a0 = 123 then 18 else 22, [some (.int a0)], [], _, _, _)) rfl ?_
        rw [if_neg q4]
        refine pe_blk mm_21 1 (s' := (23, [some (.int a0)], [.int 0], _, _, _)) rfl ?_
        exact J21_23_ev sc n e he 0 _ _ _ _ h
def J22_23 (n : Nat) (s0 : Int32) (M : Mem) : Option (Int32 × Mem) :=
  if s0 = 0 ∨ s0 = 1 then some (s0, M) else none
set_option maxRecDepth 100000 in
set_option maxHeartbeats 4000000 in
theorem J22_23_ev (sc : Option (Nat × (Nat → Int32))) (n : Nat)  (e : Nat) (he : 1 ≤ e) : ∀ (s0 : Int32) (u0 : Option Value) (M : Mem) (r : Int32) (M' : Mem), J22_23 n s0 M = some (r, M') → pm_ev pmT sc e 22 false (23, [u0], [.int s0], 129, 17845, hp M) (some (.int r), 129, 17845, hp M') := by
  intro s0 u0 M r M' h
  unfold J22_23 at h
  by_cases q2 : s0 = 0 ∨ s0 = 1
  · rw [if_pos q2] at h
    cases h
    exact pe_ret mm_22 rfl (if_pos q2)
  · rw [if_neg q2] at h
    cases h
def J22_18 (n : Nat) (M : Mem) : Option (Int32 × Mem) :=
  J22_23 n 1 M
set_option maxRecDepth 100000 in
set_option maxHeartbeats 4000000 in
theorem J22_18_ev (sc : Option (Nat × (Nat → Int32))) (n : Nat)  (e : Nat) (he : 1 ≤ e) : ∀ (u0 : Option Value) (M : Mem) (r : Int32) (M' : Mem), J22_18 n  M = some (r, M') → pm_ev pmT sc e 22 false (18, [u0], [], 129, 17845, hp M) (some (.int r), 129, 17845, hp M') := by
  intro u0 M r M' h
  unfold J22_18 at h
  refine pe_blk mm_22 2 (s' := (23, [u0], [.int 1], _, _, _)) rfl ?_
  exact J22_23_ev sc n e he 1 _ _ _ _ h
/-- ArmExpanderModel.isClosing -/
def F22 (n : Nat) (a0 : Int32) (M : Mem) : Option (Int32 × Mem) :=
  if a0 = 41 then (J22_18 n M) else (if a0 = 93 then (J22_18 n M) else (if a0 = 125 then (J22_18 n M) else (J22_23 n 0 M)))
set_option maxRecDepth 100000 in
set_option maxHeartbeats 4000000 in
theorem F22_ev (sc : Option (Nat × (Nat → Int32))) (n : Nat) (a0 : Int32)  (M : Mem) (e : Nat) (he : 1 ≤ e) (r : Int32) (M' : Mem) (h : F22 n a0 M = some (r, M')) : pm_ev pmT sc e 22 false (0, [some (.int a0)], [], 129, 17845, hp M) (some (.int r), 129, 17845, hp M') := by
  unfold F22 at h
  refine pe_blk mm_22 2 (s' := (3, [some (.int a0)], [.int 41, .int a0], _, _, _)) rfl ?_
  by_cases q1 : a0 = 41
  · rw [if_pos q1] at h
    refine pe_blk mm_22 1 (s' := (if a0 = 41 then 18 else 6, [some (.int a0)], [], _, _, _)) rfl ?_
    rw [if_pos q1]
    exact J22_18_ev sc n e he _ _ _ _ h
  · rw [if_neg q1] at h
    refine pe_blk mm_22 1 (s' := (if a0 = 41 then 18 else 6, [some (.int a0)], [], _, _, _)) rfl ?_
    rw [if_neg q1]
    refine pe_blk mm_22 2 (s' := (9, [some (.int a0)], [.int 93, .int a0], _, _, _)) rfl ?_
    by_cases q3 : a0 = 93
    · rw [if_pos q3] at h
      refine pe_blk mm_22 1 (s' := (if a0 = 93 then 18 else 12, [some (.int a0)], [], _, _, _)) rfl ?_
      rw [if_pos q3]
      exact J22_18_ev sc n e he _ _ _ _ h
    · rw [if_neg q3] at h
      refine pe_blk mm_22 1 (s' := (if a0 = 93 then 18 else 12, [some (.int a0)], [], _, _, _)) rfl ?_
      rw [if_neg q3]
      refine pe_blk mm_22 2 (s' := (15, [some (.int a0)], [.int 125, .int a0], _, _, _)) rfl ?_
      by_cases q4 : a0 = 125
      · rw [if_pos q4] at h
        refine pe_blk mm_22 1 (s' := (if a0 = 125 then 18 else 22, [some (.int a0)], [], _, _, _)) rfl ?_
        rw [if_pos q4]
        exact J22_18_ev sc n e he _ _ _ _ h
      · rw [if_neg q4] at h
        refine pe_blk mm_22 1 (s' := (if a0 = 125 then 18 else 22, [some (.int a0)], [], _, _, _)) rfl ?_
        rw [if_neg q4]
        refine pe_blk mm_22 1 (s' := (23, [some (.int a0)], [.int 0], _, _, _)) rfl ?_
        exact J22_23_ev sc n e he 0 _ _ _ _ h
def J23_24 (n : Nat) (s0 : Int32) (M : Mem) : Option (Int32 × Mem) :=
  some (s0, M)
set_option maxRecDepth 100000 in
set_option maxHeartbeats 4000000 in
theorem J23_24_ev (sc : Option (Nat × (Nat → Int32))) (n : Nat)  (e : Nat) (he : 1 ≤ e) : ∀ (s0 : Int32) (u0 : Option Value) (M : Mem) (r : Int32) (M' : Mem), J23_24 n s0 M = some (r, M') → pm_ev pmT sc e 23 false (24, [u0], [.int s0], 129, 17845, hp M) (some (.int r), 129, 17845, hp M') := by
  intro s0 u0 M r M' h
  unfold J23_24 at h
  cases h
  exact pe_ret mm_23 rfl rfl
/-- ArmExpanderModel.closing -/
def F23 (n : Nat) (a0 : Int32) (M : Mem) : Option (Int32 × Mem) :=
  if a0 = 40 then (J23_24 n 41 M) else (if a0 = 91 then (J23_24 n 93 M) else (J23_24 n 125 M))
set_option maxRecDepth 100000 in
set_option maxHeartbeats 4000000 in
theorem F23_ev (sc : Option (Nat × (Nat → Int32))) (n : Nat) (a0 : Int32)  (M : Mem) (e : Nat) (he : 1 ≤ e) (r : Int32) (M' : Mem) (h : F23 n a0 M = some (r, M')) : pm_ev pmT sc e 23 false (0, [some (.int a0)], [], 129, 17845, hp M) (some (.int r), 129, 17845, hp M') := by
  unfold F23 at h
  refine pe_blk mm_23 2 (s' := (3, [some (.int a0)], [.int 40, .int a0], _, _, _)) rfl ?_
  by_cases q1 : a0 = 40
  · rw [if_pos q1] at h
    refine pe_blk mm_23 1 (s' := (if a0 = 40 then 6 else 11, [some (.int a0)], [], _, _, _)) rfl ?_
    rw [if_pos q1]
    refine pe_blk mm_23 2 (s' := (24, [some (.int a0)], [.int 41], _, _, _)) rfl ?_
    exact J23_24_ev sc n e he 41 _ _ _ _ h
  · rw [if_neg q1] at h
    refine pe_blk mm_23 1 (s' := (if a0 = 40 then 6 else 11, [some (.int a0)], [], _, _, _)) rfl ?_
    rw [if_neg q1]
    refine pe_blk mm_23 2 (s' := (14, [some (.int a0)], [.int 91, .int a0], _, _, _)) rfl ?_
    by_cases q2 : a0 = 91
    · rw [if_pos q2] at h
      refine pe_blk mm_23 1 (s' := (if a0 = 91 then 17 else 22, [some (.int a0)], [], _, _, _)) rfl ?_
      rw [if_pos q2]
      refine pe_blk mm_23 2 (s' := (24, [some (.int a0)], [.int 93], _, _, _)) rfl ?_
      exact J23_24_ev sc n e he 93 _ _ _ _ h
    · rw [if_neg q2] at h
      refine pe_blk mm_23 1 (s' := (if a0 = 91 then 17 else 22, [some (.int a0)], [], _, _, _)) rfl ?_
      rw [if_neg q2]
      refine pe_blk mm_23 1 (s' := (24, [some (.int a0)], [.int 125], _, _, _)) rfl ?_
      exact J23_24_ev sc n e he 125 _ _ _ _ h
def J24_65 (n : Nat) (s0 : Int32) (M : Mem) : Option (Int32 × Mem) :=
  if s0 = 0 ∨ s0 = 1 then some (s0, M) else none
set_option maxRecDepth 100000 in
set_option maxHeartbeats 4000000 in
theorem J24_65_ev (sc : Option (Nat × (Nat → Int32))) (n : Nat)  (e : Nat) (he : 1 ≤ e) : ∀ (s0 : Int32) (u0 : Option Value) (M : Mem) (r : Int32) (M' : Mem), J24_65 n s0 M = some (r, M') → pm_ev pmT sc e 24 false (65, [u0], [.int s0], 129, 17845, hp M) (some (.int r), 129, 17845, hp M') := by
  intro s0 u0 M r M' h
  unfold J24_65 at h
  by_cases q2 : s0 = 0 ∨ s0 = 1
  · rw [if_pos q2] at h
    cases h
    exact pe_ret mm_24 rfl (if_pos q2)
  · rw [if_neg q2] at h
    cases h
def J24_60 (n : Nat) (M : Mem) : Option (Int32 × Mem) :=
  J24_65 n 1 M
set_option maxRecDepth 100000 in
set_option maxHeartbeats 4000000 in
theorem J24_60_ev (sc : Option (Nat × (Nat → Int32))) (n : Nat)  (e : Nat) (he : 1 ≤ e) : ∀ (u0 : Option Value) (M : Mem) (r : Int32) (M' : Mem), J24_60 n  M = some (r, M') → pm_ev pmT sc e 24 false (60, [u0], [], 129, 17845, hp M) (some (.int r), 129, 17845, hp M') := by
  intro u0 M r M' h
  unfold J24_60 at h
  refine pe_blk mm_24 2 (s' := (65, [u0], [.int 1], _, _, _)) rfl ?_
  exact J24_65_ev sc n e he 1 _ _ _ _ h
def J24_64 (n : Nat) (M : Mem) : Option (Int32 × Mem) :=
  J24_65 n 0 M
set_option maxRecDepth 100000 in
set_option maxHeartbeats 4000000 in
theorem J24_64_ev (sc : Option (Nat × (Nat → Int32))) (n : Nat)  (e : Nat) (he : 1 ≤ e) : ∀ (u0 : Option Value) (M : Mem) (r : Int32) (M' : Mem), J24_64 n  M = some (r, M') → pm_ev pmT sc e 24 false (64, [u0], [], 129, 17845, hp M) (some (.int r), 129, 17845, hp M') := by
  intro u0 M r M' h
  unfold J24_64 at h
  refine pe_blk mm_24 1 (s' := (65, [u0], [.int 0], _, _, _)) rfl ?_
  exact J24_65_ev sc n e he 0 _ _ _ _ h
def J24_30 (n : Nat) (x0 : Int32) (M : Mem) : Option (Int32 × Mem) :=
  if x0 = 58 then (J24_60 n M) else (if x0 = 33 then (J24_60 n M) else (if x0 = 63 then (J24_60 n M) else (if x0 = 62 then (J24_60 n M) else (if x0 = 36 then (J24_60 n M) else (J24_64 n M)))))
set_option maxRecDepth 100000 in
set_option maxHeartbeats 4000000 in
theorem J24_30_ev (sc : Option (Nat × (Nat → Int32))) (n : Nat)  (e : Nat) (he : 1 ≤ e) : ∀ (x0 : Int32) (M : Mem) (r : Int32) (M' : Mem), J24_30 n x0 M = some (r, M') → pm_ev pmT sc e 24 false (30, [some (.int x0)], [], 129, 17845, hp M) (some (.int r), 129, 17845, hp M') := by
  intro x0  M r M' h
  unfold J24_30 at h
  refine pe_blk mm_24 2 (s' := (33, [some (.int x0)], [.int 58, .int x0], _, _, _)) rfl ?_
  by_cases q7 : x0 = 58
  · rw [if_pos q7] at h
    refine pe_blk mm_24 1 (s' := (if x0 = 58 then 60 else 36, [some (.int x0)], [], _, _, _)) rfl ?_
    rw [if_pos q7]
    exact J24_60_ev sc n e he _ _ _ _ h
  · rw [if_neg q7] at h
    refine pe_blk mm_24 1 (s' := (if x0 = 58 then 60 else 36, [some (.int x0)], [], _, _, _)) rfl ?_
    rw [if_neg q7]
    refine pe_blk mm_24 2 (s' := (39, [some (.int x0)], [.int 33, .int x0], _, _, _)) rfl ?_
    by_cases q8 : x0 = 33
    · rw [if_pos q8] at h
      refine pe_blk mm_24 1 (s' := (if x0 = 33 then 60 else 42, [some (.int x0)], [], _, _, _)) rfl ?_
      rw [if_pos q8]
      exact J24_60_ev sc n e he _ _ _ _ h
    · rw [if_neg q8] at h
      refine pe_blk mm_24 1 (s' := (if x0 = 33 then 60 else 42, [some (.int x0)], [], _, _, _)) rfl ?_
      rw [if_neg q8]
      refine pe_blk mm_24 2 (s' := (45, [some (.int x0)], [.int 63, .int x0], _, _, _)) rfl ?_
      by_cases q9 : x0 = 63
      · rw [if_pos q9] at h
        refine pe_blk mm_24 1 (s' := (if x0 = 63 then 60 else 48, [some (.int x0)], [], _, _, _)) rfl ?_
        rw [if_pos q9]
        exact J24_60_ev sc n e he _ _ _ _ h
      · rw [if_neg q9] at h
        refine pe_blk mm_24 1 (s' := (if x0 = 63 then 60 else 48, [some (.int x0)], [], _, _, _)) rfl ?_
        rw [if_neg q9]
        refine pe_blk mm_24 2 (s' := (51, [some (.int x0)], [.int 62, .int x0], _, _, _)) rfl ?_
        by_cases q10 : x0 = 62
        · rw [if_pos q10] at h
          refine pe_blk mm_24 1 (s' := (if x0 = 62 then 60 else 54, [some (.int x0)], [], _, _, _)) rfl ?_
          rw [if_pos q10]
          exact J24_60_ev sc n e he _ _ _ _ h
        · rw [if_neg q10] at h
          refine pe_blk mm_24 1 (s' := (if x0 = 62 then 60 else 54, [some (.int x0)], [], _, _, _)) rfl ?_
          rw [if_neg q10]
          refine pe_blk mm_24 2 (s' := (57, [some (.int x0)], [.int 36, .int x0], _, _, _)) rfl ?_
          by_cases q11 : x0 = 36
          · rw [if_pos q11] at h
            refine pe_blk mm_24 1 (s' := (if x0 = 36 then 60 else 64, [some (.int x0)], [], _, _, _)) rfl ?_
            rw [if_pos q11]
            exact J24_60_ev sc n e he _ _ _ _ h
          · rw [if_neg q11] at h
            refine pe_blk mm_24 1 (s' := (if x0 = 36 then 60 else 64, [some (.int x0)], [], _, _, _)) rfl ?_
            rw [if_neg q11]
            exact J24_64_ev sc n e he _ _ _ _ h
/-- ArmExpanderModel.isSign -/
def F24 (n : Nat) (a0 : Int32) (M : Mem) : Option (Int32 × Mem) :=
  if a0 = 43 then (J24_60 n M) else (if a0 = 42 then (J24_60 n M) else (if a0 = 44 then (J24_60 n M) else (if a0 = 59 then (J24_60 n M) else (if a0 = 61 then (J24_60 n M) else (J24_30 n a0 M)))))
set_option maxRecDepth 100000 in
set_option maxHeartbeats 4000000 in
theorem F24_ev (sc : Option (Nat × (Nat → Int32))) (n : Nat) (a0 : Int32)  (M : Mem) (e : Nat) (he : 1 ≤ e) (r : Int32) (M' : Mem) (h : F24 n a0 M = some (r, M')) : pm_ev pmT sc e 24 false (0, [some (.int a0)], [], 129, 17845, hp M) (some (.int r), 129, 17845, hp M') := by
  unfold F24 at h
  refine pe_blk mm_24 2 (s' := (3, [some (.int a0)], [.int 43, .int a0], _, _, _)) rfl ?_
  by_cases q1 : a0 = 43
  · rw [if_pos q1] at h
    refine pe_blk mm_24 1 (s' := (if a0 = 43 then 60 else 6, [some (.int a0)], [], _, _, _)) rfl ?_
    rw [if_pos q1]
    exact J24_60_ev sc n e he _ _ _ _ h
  · rw [if_neg q1] at h
    refine pe_blk mm_24 1 (s' := (if a0 = 43 then 60 else 6, [some (.int a0)], [], _, _, _)) rfl ?_
    rw [if_neg q1]
    refine pe_blk mm_24 2 (s' := (9, [some (.int a0)], [.int 42, .int a0], _, _, _)) rfl ?_
    by_cases q3 : a0 = 42
    · rw [if_pos q3] at h
      refine pe_blk mm_24 1 (s' := (if a0 = 42 then 60 else 12, [some (.int a0)], [], _, _, _)) rfl ?_
      rw [if_pos q3]
      exact J24_60_ev sc n e he _ _ _ _ h
    · rw [if_neg q3] at h
      refine pe_blk mm_24 1 (s' := (if a0 = 42 then 60 else 12, [some (.int a0)], [], _, _, _)) rfl ?_
      rw [if_neg q3]
      refine pe_blk mm_24 2 (s' := (15, [some (.int a0)], [.int 44, .int a0], _, _, _)) rfl ?_
      by_cases q4 : a0 = 44
      · rw [if_pos q4] at h
        refine pe_blk mm_24 1 (s' := (if a0 = 44 then 60 else 18, [some (.int a0)], [], _, _, _)) rfl ?_
        rw [if_pos q4]
        exact J24_60_ev sc n e he _ _ _ _ h
      · rw [if_neg q4] at h
        refine pe_blk mm_24 1 (s' := (if a0 = 44 then 60 else 18, [some (.int a0)], [], _, _, _)) rfl ?_
        rw [if_neg q4]
        refine pe_blk mm_24 2 (s' := (21, [some (.int a0)], [.int 59, .int a0], _, _, _)) rfl ?_
        by_cases q5 : a0 = 59
        · rw [if_pos q5] at h
          refine pe_blk mm_24 1 (s' := (if a0 = 59 then 60 else 24, [some (.int a0)], [], _, _, _)) rfl ?_
          rw [if_pos q5]
          exact J24_60_ev sc n e he _ _ _ _ h
        · rw [if_neg q5] at h
          refine pe_blk mm_24 1 (s' := (if a0 = 59 then 60 else 24, [some (.int a0)], [], _, _, _)) rfl ?_
          rw [if_neg q5]
          refine pe_blk mm_24 2 (s' := (27, [some (.int a0)], [.int 61, .int a0], _, _, _)) rfl ?_
          by_cases q6 : a0 = 61
          · rw [if_pos q6] at h
            refine pe_blk mm_24 1 (s' := (if a0 = 61 then 60 else 30, [some (.int a0)], [], _, _, _)) rfl ?_
            rw [if_pos q6]
            exact J24_60_ev sc n e he _ _ _ _ h
          · rw [if_neg q6] at h
            refine pe_blk mm_24 1 (s' := (if a0 = 61 then 60 else 30, [some (.int a0)], [], _, _, _)) rfl ?_
            rw [if_neg q6]
            exact J24_30_ev sc n e he a0 _ _ _ h
/-- ArmExpanderModel.isLetter -/
def F25 (n : Nat) (a0 : Int32) (M : Mem) : Option (Int32 × Mem) :=
  match F19 n a0 97 122 M with | some (v1, M2) => (if v1 = 0 ∨ v1 = 1 then some (v1, M2) else none) | none => none
set_option maxRecDepth 100000 in
set_option maxHeartbeats 4000000 in
theorem F25_ev (sc : Option (Nat × (Nat → Int32))) (n : Nat) (a0 : Int32)  (M : Mem) (e : Nat) (he : 2 ≤ e) (r : Int32) (M' : Mem) (h : F25 n a0 M = some (r, M')) : pm_ev pmT sc e 25 false (0, [some (.int a0)], [], 129, 17845, hp M) (some (.int r), 129, 17845, hp M') := by
  unfold F25 at h
  refine pe_blk mm_25 3 (s' := (5, [some (.int a0)], [.int 122, .int 97, .int a0], _, _, _)) rfl ?_
  obtain ⟨e1, rfl⟩ : ∃ e1, e = e1 + 1 := ⟨e - 1, by omega⟩
  cases hc3 : F19 n a0 97 122 M with
  | none => rw [hc3] at h; cases h
  | some w =>
    obtain ⟨v1, M2⟩ := w
    rw [hc3] at h
    dsimp only at h
    refine pe_stat (al := [.int 122, .int 97, .int a0]) (L0 := [some (.int a0), some (.int 97), some (.int 122)]) (r1 := (some (.int v1), 129, 17845, hp M2)) mm_25 rfl rfl rfl mm_19 rfl (Nat.le_of_ble_eq_true rfl) (Nat.le_of_ble_eq_true rfl) rfl rfl (F19_ev sc n a0 97 122 _ e1 (by omega) _ _ hc3) ?_
    show pm_ev _ _ _ _ _ (8, [some (.int a0)], [.int v1], _, _, _) _
    by_cases q4 : v1 = 0 ∨ v1 = 1
    · rw [if_pos q4] at h
      cases h
      exact pe_ret mm_25 rfl (if_pos q4)
    · rw [if_neg q4] at h
      cases h
/-- ArmExpanderModel.isDigit -/
def F26 (n : Nat) (a0 : Int32) (M : Mem) : Option (Int32 × Mem) :=
  match F19 n a0 48 57 M with | some (v1, M2) => (if v1 = 0 ∨ v1 = 1 then some (v1, M2) else none) | none => none
set_option maxRecDepth 100000 in
set_option maxHeartbeats 4000000 in
theorem F26_ev (sc : Option (Nat × (Nat → Int32))) (n : Nat) (a0 : Int32)  (M : Mem) (e : Nat) (he : 2 ≤ e) (r : Int32) (M' : Mem) (h : F26 n a0 M = some (r, M')) : pm_ev pmT sc e 26 false (0, [some (.int a0)], [], 129, 17845, hp M) (some (.int r), 129, 17845, hp M') := by
  unfold F26 at h
  refine pe_blk mm_26 3 (s' := (5, [some (.int a0)], [.int 57, .int 48, .int a0], _, _, _)) rfl ?_
  obtain ⟨e1, rfl⟩ : ∃ e1, e = e1 + 1 := ⟨e - 1, by omega⟩
  cases hc3 : F19 n a0 48 57 M with
  | none => rw [hc3] at h; cases h
  | some w =>
    obtain ⟨v1, M2⟩ := w
    rw [hc3] at h
    dsimp only at h
    refine pe_stat (al := [.int 57, .int 48, .int a0]) (L0 := [some (.int a0), some (.int 48), some (.int 57)]) (r1 := (some (.int v1), 129, 17845, hp M2)) mm_26 rfl rfl rfl mm_19 rfl (Nat.le_of_ble_eq_true rfl) (Nat.le_of_ble_eq_true rfl) rfl rfl (F19_ev sc n a0 48 57 _ e1 (by omega) _ _ hc3) ?_
    show pm_ev _ _ _ _ _ (8, [some (.int a0)], [.int v1], _, _, _) _
    by_cases q4 : v1 = 0 ∨ v1 = 1
    · rw [if_pos q4] at h
      cases h
      exact pe_ret mm_26 rfl (if_pos q4)
    · rw [if_neg q4] at h
      cases h
def J27_35 (n : Nat) (s0 : Int32) (s1 : Int32) (M : Mem) : Option (Int32 × Mem) :=
  some (s1 + s0, M)
set_option maxRecDepth 100000 in
set_option maxHeartbeats 4000000 in
theorem J27_35_ev (sc : Option (Nat × (Nat → Int32))) (n : Nat)  (e : Nat) (he : 1 ≤ e) : ∀ (s0 : Int32) (s1 : Int32) (u0 : Option Value) (u1 : Option Value) (u2 : Option Value) (M : Mem) (r : Int32) (M' : Mem), J27_35 n s0 s1 M = some (r, M') → pm_ev pmT sc e 27 false (35, [u0, u1, u2], [.int s0, .int s1], 129, 17845, hp M) (some (.int r), 129, 17845, hp M') := by
  intro s0 s1 u0 u1 u2 M r M' h
  unfold J27_35 at h
  refine pe_blk mm_27 1 (s' := (36, [u0, u1, u2], [.int (s1 + s0)], _, _, _)) rfl ?_
  cases h
  exact pe_ret mm_27 rfl rfl
/-- ArmExpanderModel.letters -/
def F27 (n : Nat) (a0 : Int32) (a1 : Int32) (a2 : Int32) (M : Mem) : Option (Int32 × Mem) :=
  if a2 ≤ 0 then (if a1 ≤ 0 then (J27_35 n a0 1000 M) else (J27_35 n ((a0 * 27) + a1) 1000 M)) else (J27_35 n ((((a0 * 27) + a1) * 27) + a2) 1000 M)
set_option maxRecDepth 100000 in
set_option maxHeartbeats 4000000 in
theorem F27_ev (sc : Option (Nat × (Nat → Int32))) (n : Nat) (a0 : Int32) (a1 : Int32) (a2 : Int32)  (M : Mem) (e : Nat) (he : 1 ≤ e) (r : Int32) (M' : Mem) (h : F27 n a0 a1 a2 M = some (r, M')) : pm_ev pmT sc e 27 false (0, [some (.int a0), some (.int a1), some (.int a2)], [], 129, 17845, hp M) (some (.int r), 129, 17845, hp M') := by
  unfold F27 at h
  refine pe_blk mm_27 2 (s' := (4, [some (.int a0), some (.int a1), some (.int a2)], [.int a2, .int 1000], _, _, _)) rfl ?_
  by_cases q1 : a2 ≤ 0
  · rw [if_pos q1] at h
    refine pe_blk mm_27 1 (s' := (if a2 ≤ 0 then 21 else 7, [some (.int a0), some (.int a1), some (.int a2)], [.int 1000], _, _, _)) rfl ?_
    rw [if_pos q1]
    refine pe_blk mm_27 1 (s' := (22, [some (.int a0), some (.int a1), some (.int a2)], [.int a1, .int 1000], _, _, _)) rfl ?_
    by_cases q2 : a1 ≤ 0
    · rw [if_pos q2] at h
      refine pe_blk mm_27 1 (s' := (if a1 ≤ 0 then 34 else 25, [some (.int a0), some (.int a1), some (.int a2)], [.int 1000], _, _, _)) rfl ?_
      rw [if_pos q2]
      refine pe_blk mm_27 1 (s' := (35, [some (.int a0), some (.int a1), some (.int a2)], [.int a0, .int 1000], _, _, _)) rfl ?_
      exact J27_35_ev sc n e he a0 1000 _ _ _ _ _ _ h
    · rw [if_neg q2] at h
      refine pe_blk mm_27 1 (s' := (if a1 ≤ 0 then 34 else 25, [some (.int a0), some (.int a1), some (.int a2)], [.int 1000], _, _, _)) rfl ?_
      rw [if_neg q2]
      refine pe_blk mm_27 6 (s' := (35, [some (.int a0), some (.int a1), some (.int a2)], [.int ((a0 * 27) + a1), .int 1000], _, _, _)) rfl ?_
      exact J27_35_ev sc n e he ((a0 * 27) + a1) 1000 _ _ _ _ _ _ h
  · rw [if_neg q1] at h
    refine pe_blk mm_27 1 (s' := (if a2 ≤ 0 then 21 else 7, [some (.int a0), some (.int a1), some (.int a2)], [.int 1000], _, _, _)) rfl ?_
    rw [if_neg q1]
    refine pe_blk mm_27 10 (s' := (35, [some (.int a0), some (.int a1), some (.int a2)], [.int ((((a0 * 27) + a1) * 27) + a2), .int 1000], _, _, _)) rfl ?_
    exact J27_35_ev sc n e he ((((a0 * 27) + a1) * 27) + a2) 1000 _ _ _ _ _ _ h
def J28_341 (n : Nat) (M : Mem) : Option (Unit × Mem) :=
  some ((), M)
set_option maxRecDepth 100000 in
set_option maxHeartbeats 4000000 in
theorem J28_341_ev (sc : Option (Nat × (Nat → Int32))) (n : Nat)  (e : Nat) (he : 3 ≤ e) : ∀ (u0 : Option Value) (u1 : Option Value) (u2 : Option Value) (u3 : Option Value) (u4 : Option Value) (u5 : Option Value) (M : Mem) (r : Unit) (M' : Mem), J28_341 n  M = some (r, M') → pm_ev pmT sc e 28 false (341, [u0, u1, u2, u3, u4, u5], [], 129, 17845, hp M) (none, 129, 17845, hp M') := by
  intro u0 u1 u2 u3 u4 u5 M r M' h
  unfold J28_341 at h
  cases h
  exact pe_ret mm_28 rfl rfl
def J28_338 (n : Nat) (s0 : Int32) (M : Mem) : Option (Unit × Mem) :=
  mlet (m_i M 83 4 s0) (fun M29 => J28_341 n M29)
set_option maxRecDepth 100000 in
set_option maxHeartbeats 4000000 in
theorem J28_338_ev (sc : Option (Nat × (Nat → Int32))) (n : Nat)  (e : Nat) (he : 3 ≤ e) : ∀ (s0 : Int32) (u0 : Option Value) (u1 : Option Value) (u2 : Option Value) (u3 : Option Value) (u4 : Option Value) (u5 : Option Value) (M : Mem) (r : Unit) (M' : Mem), J28_338 n s0 M = some (r, M') → pm_ev pmT sc e 28 false (338, [u0, u1, u2, u3, u4, u5], [.int s0, .ref 83], 129, 17845, hp M) (none, 129, 17845, hp M') := by
  intro s0 u0 u1 u2 u3 u4 u5 M r M' h
  unfold J28_338 at h
  refine pe_puti mm_28 rfl rfl rfl (by decide) (Nat.le_of_ble_eq_true rfl) rfl rfl ?_
  show pm_ev _ _ _ _ _ (341, [u0, u1, u2, u3, u4, u5], [], _, _, hp (m_i M 83 4 s0)) _
  generalize m_i M 83 4 s0 = M29 at h ⊢
  rw [mlet] at h
  exact J28_341_ev sc n e he _ _ _ _ _ _ _ _ _ h
def J28_287 (n : Nat) (x4 : Int32) (s0 : Int32) (M : Mem) : Option (Unit × Mem) :=
  mlet (m_i M 83 4 s0) (fun M31 => mlet (m_i M31 83 5 (300 + x4)) (fun M32 => J28_341 n M32))
set_option maxRecDepth 100000 in
set_option maxHeartbeats 4000000 in
theorem J28_287_ev (sc : Option (Nat × (Nat → Int32))) (n : Nat)  (e : Nat) (he : 3 ≤ e) : ∀ (x4 : Int32) (s0 : Int32) (u1 : Option Value) (u2 : Option Value) (u3 : Option Value) (u5 : Option Value) (M : Mem) (r : Unit) (M' : Mem), J28_287 n x4 s0 M = some (r, M') → pm_ev pmT sc e 28 false (287, [some (.ref 83), u1, u2, u3, some (.int x4), u5], [.int s0, .ref 83], 129, 17845, hp M) (none, 129, 17845, hp M') := by
  intro x4 s0 u1 u2 u3 u5 M r M' h
  unfold J28_287 at h
  refine pe_puti mm_28 rfl rfl rfl (by decide) (Nat.le_of_ble_eq_true rfl) rfl rfl ?_
  show pm_ev _ _ _ _ _ (290, [some (.ref 83), u1, u2, u3, some (.int x4), u5], [], _, _, hp (m_i M 83 4 s0)) _
  generalize m_i M 83 4 s0 = M31 at h ⊢
  rw [mlet] at h
  refine pe_blk mm_28 4 (s' := (297, [some (.ref 83), u1, u2, u3, some (.int x4), u5], [.int (300 + x4), .ref 83], _, _, _)) rfl ?_
  refine pe_puti mm_28 rfl rfl rfl (by decide) (Nat.le_of_ble_eq_true rfl) rfl rfl ?_
  show pm_ev _ _ _ _ _ (300, [some (.ref 83), u1, u2, u3, some (.int x4), u5], [], _, _, hp (m_i M31 83 5 (300 + x4))) _
  generalize m_i M31 83 5 (300 + x4) = M32 at h ⊢
  rw [mlet] at h
  refine pe_blk mm_28 1 (s' := (341, [some (.ref 83), u1, u2, u3, some (.int x4), u5], [], _, _, _)) rfl ?_
  exact J28_341_ev sc n e he _ _ _ _ _ _ _ _ _ h
def J28_282 (n : Nat) (x4 : Int32) (M : Mem) : Option (Unit × Mem) :=
  J28_287 n x4 2 M
set_option maxRecDepth 100000 in
set_option maxHeartbeats 4000000 in
theorem J28_282_ev (sc : Option (Nat × (Nat → Int32))) (n : Nat)  (e : Nat) (he : 3 ≤ e) : ∀ (x4 : Int32) (u1 : Option Value) (u2 : Option Value) (u3 : Option Value) (u5 : Option Value) (M : Mem) (r : Unit) (M' : Mem), J28_282 n x4 M = some (r, M') → pm_ev pmT sc e 28 false (282, [some (.ref 83), u1, u2, u3, some (.int x4), u5], [.ref 83], 129, 17845, hp M) (none, 129, 17845, hp M') := by
  intro x4 u1 u2 u3 u5 M r M' h
  unfold J28_282 at h
  refine pe_blk mm_28 2 (s' := (287, [some (.ref 83), u1, u2, u3, some (.int x4), u5], [.int 2, .ref 83], _, _, _)) rfl ?_
  exact J28_287_ev sc n e he x4 2 _ _ _ _ _ _ _ h
def J28_286 (n : Nat) (x4 : Int32) (M : Mem) : Option (Unit × Mem) :=
  J28_287 n x4 0 M
set_option maxRecDepth 100000 in
set_option maxHeartbeats 4000000 in
theorem J28_286_ev (sc : Option (Nat × (Nat → Int32))) (n : Nat)  (e : Nat) (he : 3 ≤ e) : ∀ (x4 : Int32) (u1 : Option Value) (u2 : Option Value) (u3 : Option Value) (u5 : Option Value) (M : Mem) (r : Unit) (M' : Mem), J28_286 n x4 M = some (r, M') → pm_ev pmT sc e 28 false (286, [some (.ref 83), u1, u2, u3, some (.int x4), u5], [.ref 83], 129, 17845, hp M) (none, 129, 17845, hp M') := by
  intro x4 u1 u2 u3 u5 M r M' h
  unfold J28_286 at h
  refine pe_blk mm_28 1 (s' := (287, [some (.ref 83), u1, u2, u3, some (.int x4), u5], [.int 0, .ref 83], _, _, _)) rfl ?_
  exact J28_287_ev sc n e he x4 0 _ _ _ _ _ _ _ h
def J28_256 (n : Nat) (x2 : Int32) (x4 : Int32) (x5 : Int32) (M : Mem) : Option (Unit × Mem) :=
  match F26 n x2 M with | some (v13, M14) => (if v13 = 0 then (match F21 n x2 M14 with | some (v17, M18) => (if v17 = 0 then (match F22 n x2 M18 with | some (v21, M22) => (if v21 = 0 then (match F24 n x2 M22 with | some (v25, M26) => (if v25 = 0 then (J28_338 n 0 M26) else (J28_338 n 3 M26)) | none => none) else (J28_338 n 5 M22)) | none => none) else (J28_338 n 4 M18)) | none => none) else (if x5 = 1 then (J28_282 n x4 M14) else (if x5 = 2 then (if x2 = 48 then (J28_286 n x4 M14) else (J28_282 n x4 M14)) else (J28_286 n x4 M14)))) | none => none
set_option maxRecDepth 100000 in
set_option maxHeartbeats 4000000 in
theorem J28_256_ev (sc : Option (Nat × (Nat → Int32))) (n : Nat)  (e : Nat) (he : 3 ≤ e) : ∀ (x2 : Int32) (x4 : Int32) (x5 : Int32) (u1 : Option Value) (u3 : Option Value) (M : Mem) (r : Unit) (M' : Mem), J28_256 n x2 x4 x5 M = some (r, M') → pm_ev pmT sc e 28 false (256, [some (.ref 83), u1, some (.int x2), u3, some (.int x4), some (.int x5)], [], 129, 17845, hp M) (none, 129, 17845, hp M') := by
  intro x2 x4 x5 u1 u3 M r M' h
  unfold J28_256 at h
  refine pe_blk mm_28 1 (s' := (257, [some (.ref 83), u1, some (.int x2), u3, some (.int x4), some (.int x5)], [.int x2], _, _, _)) rfl ?_
  obtain ⟨e1, rfl⟩ : ∃ e1, e = e1 + 1 := ⟨e - 1, by omega⟩
  cases hc15 : F26 n x2 M with
  | none => rw [hc15] at h; cases h
  | some w =>
    obtain ⟨v13, M14⟩ := w
    rw [hc15] at h
    dsimp only at h
    refine pe_stat (al := [.int x2]) (L0 := [some (.int x2)]) (r1 := (some (.int v13), 129, 17845, hp M14)) mm_28 rfl rfl rfl mm_26 rfl (Nat.le_of_ble_eq_true rfl) (Nat.le_of_ble_eq_true rfl) rfl rfl (F26_ev sc n x2 _ e1 (by omega) _ _ hc15) ?_
    show pm_ev _ _ _ _ _ (260, [some (.ref 83), u1, some (.int x2), u3, some (.int x4), some (.int x5)], [.int v13], _, _, _) _
    by_cases q16 : v13 = 0
    · rw [if_pos q16] at h
      refine pe_blk mm_28 1 (s' := (if v13 = 0 then 303 else 263, [some (.ref 83), u1, some (.int x2), u3, some (.int x4), some (.int x5)], [], _, _, _)) rfl ?_
      rw [if_pos q16]
      refine pe_blk mm_28 2 (s' := (305, [some (.ref 83), u1, some (.int x2), u3, some (.int x4), some (.int x5)], [.int x2, .ref 83], _, _, _)) rfl ?_
      skip
      cases hc19 : F21 n x2 M14 with
      | none => rw [hc19] at h; cases h
      | some w =>
        obtain ⟨v17, M18⟩ := w
        rw [hc19] at h
        dsimp only at h
        refine pe_stat (al := [.int x2]) (L0 := [some (.int x2)]) (r1 := (some (.int v17), 129, 17845, hp M18)) mm_28 rfl rfl rfl mm_21 rfl (Nat.le_of_ble_eq_true rfl) (Nat.le_of_ble_eq_true rfl) rfl rfl (F21_ev sc n x2 _ e1 (by omega) _ _ hc19) ?_
        show pm_ev _ _ _ _ _ (308, [some (.ref 83), u1, some (.int x2), u3, some (.int x4), some (.int x5)], [.int v17, .ref 83], _, _, _) _
        by_cases q20 : v17 = 0
        · rw [if_pos q20] at h
          refine pe_blk mm_28 1 (s' := (if v17 = 0 then 315 else 311, [some (.ref 83), u1, some (.int x2), u3, some (.int x4), some (.int x5)], [.ref 83], _, _, _)) rfl ?_
          rw [if_pos q20]
          refine pe_blk mm_28 1 (s' := (316, [some (.ref 83), u1, some (.int x2), u3, some (.int x4), some (.int x5)], [.int x2, .ref 83], _, _, _)) rfl ?_
          skip
          cases hc23 : F22 n x2 M18 with
          | none => rw [hc23] at h; cases h
          | some w =>
            obtain ⟨v21, M22⟩ := w
            rw [hc23] at h
            dsimp only at h
            refine pe_stat (al := [.int x2]) (L0 := [some (.int x2)]) (r1 := (some (.int v21), 129, 17845, hp M22)) mm_28 rfl rfl rfl mm_22 rfl (Nat.le_of_ble_eq_true rfl) (Nat.le_of_ble_eq_true rfl) rfl rfl (F22_ev sc n x2 _ e1 (by omega) _ _ hc23) ?_
            show pm_ev _ _ _ _ _ (319, [some (.ref 83), u1, some (.int x2), u3, some (.int x4), some (.int x5)], [.int v21, .ref 83], _, _, _) _
            by_cases q24 : v21 = 0
            · rw [if_pos q24] at h
              refine pe_blk mm_28 1 (s' := (if v21 = 0 then 326 else 322, [some (.ref 83), u1, some (.int x2), u3, some (.int x4), some (.int x5)], [.ref 83], _, _, _)) rfl ?_
              rw [if_pos q24]
              refine pe_blk mm_28 1 (s' := (327, [some (.ref 83), u1, some (.int x2), u3, some (.int x4), some (.int x5)], [.int x2, .ref 83], _, _, _)) rfl ?_
              skip
              cases hc27 : F24 n x2 M22 with
              | none => rw [hc27] at h; cases h
              | some w =>
                obtain ⟨v25, M26⟩ := w
                rw [hc27] at h
                dsimp only at h
                refine pe_stat (al := [.int x2]) (L0 := [some (.int x2)]) (r1 := (some (.int v25), 129, 17845, hp M26)) mm_28 rfl rfl rfl mm_24 rfl (Nat.le_of_ble_eq_true rfl) (Nat.le_of_ble_eq_true rfl) rfl rfl (F24_ev sc n x2 _ e1 (by omega) _ _ hc27) ?_
                show pm_ev _ _ _ _ _ (330, [some (.ref 83), u1, some (.int x2), u3, some (.int x4), some (.int x5)], [.int v25, .ref 83], _, _, _) _
                by_cases q28 : v25 = 0
                · rw [if_pos q28] at h
                  refine pe_blk mm_28 1 (s' := (if v25 = 0 then 337 else 333, [some (.ref 83), u1, some (.int x2), u3, some (.int x4), some (.int x5)], [.ref 83], _, _, _)) rfl ?_
                  rw [if_pos q28]
                  refine pe_blk mm_28 1 (s' := (338, [some (.ref 83), u1, some (.int x2), u3, some (.int x4), some (.int x5)], [.int 0, .ref 83], _, _, _)) rfl ?_
                  exact J28_338_ev sc n (e1 + 1) he 0 _ _ _ _ _ _ _ _ _ h
                · rw [if_neg q28] at h
                  refine pe_blk mm_28 1 (s' := (if v25 = 0 then 337 else 333, [some (.ref 83), u1, some (.int x2), u3, some (.int x4), some (.int x5)], [.ref 83], _, _, _)) rfl ?_
                  rw [if_neg q28]
                  refine pe_blk mm_28 2 (s' := (338, [some (.ref 83), u1, some (.int x2), u3, some (.int x4), some (.int x5)], [.int 3, .ref 83], _, _, _)) rfl ?_
                  exact J28_338_ev sc n (e1 + 1) he 3 _ _ _ _ _ _ _ _ _ h
            · rw [if_neg q24] at h
              refine pe_blk mm_28 1 (s' := (if v21 = 0 then 326 else 322, [some (.ref 83), u1, some (.int x2), u3, some (.int x4), some (.int x5)], [.ref 83], _, _, _)) rfl ?_
              rw [if_neg q24]
              refine pe_blk mm_28 2 (s' := (338, [some (.ref 83), u1, some (.int x2), u3, some (.int x4), some (.int x5)], [.int 5, .ref 83], _, _, _)) rfl ?_
              exact J28_338_ev sc n (e1 + 1) he 5 _ _ _ _ _ _ _ _ _ h
        · rw [if_neg q20] at h
          refine pe_blk mm_28 1 (s' := (if v17 = 0 then 315 else 311, [some (.ref 83), u1, some (.int x2), u3, some (.int x4), some (.int x5)], [.ref 83], _, _, _)) rfl ?_
          rw [if_neg q20]
          refine pe_blk mm_28 2 (s' := (338, [some (.ref 83), u1, some (.int x2), u3, some (.int x4), some (.int x5)], [.int 4, .ref 83], _, _, _)) rfl ?_
          exact J28_338_ev sc n (e1 + 1) he 4 _ _ _ _ _ _ _ _ _ h
    · rw [if_neg q16] at h
      refine pe_blk mm_28 1 (s' := (if v13 = 0 then 303 else 263, [some (.ref 83), u1, some (.int x2), u3, some (.int x4), some (.int x5)], [], _, _, _)) rfl ?_
      rw [if_neg q16]
      refine pe_blk mm_28 3 (s' := (267, [some (.ref 83), u1, some (.int x2), u3, some (.int x4), some (.int x5)], [.int 1, .int x5, .ref 83], _, _, _)) rfl ?_
      by_cases q30 : x5 = 1
      · rw [if_pos q30] at h
        refine pe_blk mm_28 1 (s' := (if x5 = 1 then 282 else 270, [some (.ref 83), u1, some (.int x2), u3, some (.int x4), some (.int x5)], [.ref 83], _, _, _)) rfl ?_
        rw [if_pos q30]
        exact J28_282_ev sc n (e1 + 1) he x4 _ _ _ _ _ _ _ h
      · rw [if_neg q30] at h
        refine pe_blk mm_28 1 (s' := (if x5 = 1 then 282 else 270, [some (.ref 83), u1, some (.int x2), u3, some (.int x4), some (.int x5)], [.ref 83], _, _, _)) rfl ?_
        rw [if_neg q30]
        refine pe_blk mm_28 2 (s' := (273, [some (.ref 83), u1, some (.int x2), u3, some (.int x4), some (.int x5)], [.int 2, .int x5, .ref 83], _, _, _)) rfl ?_
        by_cases q33 : x5 = 2
        · rw [if_pos q33] at h
          refine pe_blk mm_28 1 (s' := (if x5 = 2 then 276 else 286, [some (.ref 83), u1, some (.int x2), u3, some (.int x4), some (.int x5)], [.ref 83], _, _, _)) rfl ?_
          rw [if_pos q33]
          refine pe_blk mm_28 2 (s' := (279, [some (.ref 83), u1, some (.int x2), u3, some (.int x4), some (.int x5)], [.int 48, .int x2, .ref 83], _, _, _)) rfl ?_
          by_cases q34 : x2 = 48
          · rw [if_pos q34] at h
            refine pe_blk mm_28 1 (s' := (if x2 = 48 then 286 else 282, [some (.ref 83), u1, some (.int x2), u3, some (.int x4), some (.int x5)], [.ref 83], _, _, _)) rfl ?_
            rw [if_pos q34]
            exact J28_286_ev sc n (e1 + 1) he x4 _ _ _ _ _ _ _ h
          · rw [if_neg q34] at h
            refine pe_blk mm_28 1 (s' := (if x2 = 48 then 286 else 282, [some (.ref 83), u1, some (.int x2), u3, some (.int x4), some (.int x5)], [.ref 83], _, _, _)) rfl ?_
            rw [if_neg q34]
            exact J28_282_ev sc n (e1 + 1) he x4 _ _ _ _ _ _ _ h
        · rw [if_neg q33] at h
          refine pe_blk mm_28 1 (s' := (if x5 = 2 then 276 else 286, [some (.ref 83), u1, some (.int x2), u3, some (.int x4), some (.int x5)], [.ref 83], _, _, _)) rfl ?_
          rw [if_neg q33]
          exact J28_286_ev sc n (e1 + 1) he x4 _ _ _ _ _ _ _ h
def J28_240 (n : Nat) (x4 : Int32) (s0 : Int32) (M : Mem) : Option (Unit × Mem) :=
  mlet (m_i M 83 4 s0) (fun M36 => mlet (m_i M36 83 5 (1000 + x4)) (fun M37 => J28_341 n M37))
set_option maxRecDepth 100000 in
set_option maxHeartbeats 4000000 in
theorem J28_240_ev (sc : Option (Nat × (Nat → Int32))) (n : Nat)  (e : Nat) (he : 3 ≤ e) : ∀ (x4 : Int32) (s0 : Int32) (u1 : Option Value) (u2 : Option Value) (u3 : Option Value) (u5 : Option Value) (M : Mem) (r : Unit) (M' : Mem), J28_240 n x4 s0 M = some (r, M') → pm_ev pmT sc e 28 false (240, [some (.ref 83), u1, u2, u3, some (.int x4), u5], [.int s0, .ref 83], 129, 17845, hp M) (none, 129, 17845, hp M') := by
  intro x4 s0 u1 u2 u3 u5 M r M' h
  unfold J28_240 at h
  refine pe_puti mm_28 rfl rfl rfl (by decide) (Nat.le_of_ble_eq_true rfl) rfl rfl ?_
  show pm_ev _ _ _ _ _ (243, [some (.ref 83), u1, u2, u3, some (.int x4), u5], [], _, _, hp (m_i M 83 4 s0)) _
  generalize m_i M 83 4 s0 = M36 at h ⊢
  rw [mlet] at h
  refine pe_blk mm_28 4 (s' := (250, [some (.ref 83), u1, u2, u3, some (.int x4), u5], [.int (1000 + x4), .ref 83], _, _, _)) rfl ?_
  refine pe_puti mm_28 rfl rfl rfl (by decide) (Nat.le_of_ble_eq_true rfl) rfl rfl ?_
  show pm_ev _ _ _ _ _ (253, [some (.ref 83), u1, u2, u3, some (.int x4), u5], [], _, _, hp (m_i M36 83 5 (1000 + x4))) _
  generalize m_i M36 83 5 (1000 + x4) = M37 at h ⊢
  rw [mlet] at h
  refine pe_blk mm_28 1 (s' := (341, [some (.ref 83), u1, u2, u3, some (.int x4), u5], [], _, _, _)) rfl ?_
  exact J28_341_ev sc n e he _ _ _ _ _ _ _ _ _ h
def J28_228 (n : Nat) (x4 : Int32) (x5 : Int32) (M : Mem) : Option (Unit × Mem) :=
  if 3 < x5 then (J28_240 n x4 0 M) else (J28_240 n x4 1 M)
set_option maxRecDepth 100000 in
set_option maxHeartbeats 4000000 in
theorem J28_228_ev (sc : Option (Nat × (Nat → Int32))) (n : Nat)  (e : Nat) (he : 3 ≤ e) : ∀ (x4 : Int32) (x5 : Int32) (u1 : Option Value) (u2 : Option Value) (u3 : Option Value) (M : Mem) (r : Unit) (M' : Mem), J28_228 n x4 x5 M = some (r, M') → pm_ev pmT sc e 28 false (228, [some (.ref 83), u1, u2, u3, some (.int x4), some (.int x5)], [], 129, 17845, hp M) (none, 129, 17845, hp M') := by
  intro x4 x5 u1 u2 u3 M r M' h
  unfold J28_228 at h
  refine pe_blk mm_28 3 (s' := (232, [some (.ref 83), u1, u2, u3, some (.int x4), some (.int x5)], [.int 3, .int x5, .ref 83], _, _, _)) rfl ?_
  by_cases q35 : 3 < x5
  · rw [if_pos q35] at h
    refine pe_blk mm_28 1 (s' := (if 3 < x5 then 239 else 235, [some (.ref 83), u1, u2, u3, some (.int x4), some (.int x5)], [.ref 83], _, _, _)) rfl ?_
    rw [if_pos q35]
    refine pe_blk mm_28 1 (s' := (240, [some (.ref 83), u1, u2, u3, some (.int x4), some (.int x5)], [.int 0, .ref 83], _, _, _)) rfl ?_
    exact J28_240_ev sc n e he x4 0 _ _ _ _ _ _ _ h
  · rw [if_neg q35] at h
    refine pe_blk mm_28 1 (s' := (if 3 < x5 then 239 else 235, [some (.ref 83), u1, u2, u3, some (.int x4), some (.int x5)], [.ref 83], _, _, _)) rfl ?_
    rw [if_neg q35]
    refine pe_blk mm_28 2 (s' := (240, [some (.ref 83), u1, u2, u3, some (.int x4), some (.int x5)], [.int 1, .ref 83], _, _, _)) rfl ?_
    exact J28_240_ev sc n e he x4 1 _ _ _ _ _ _ _ h
def J28_213 (n : Nat) (x1 : Int32) (M : Mem) : Option (Unit × Mem) :=
  mlet (m_i M 83 7 x1) (fun M39 => J28_341 n M39)
set_option maxRecDepth 100000 in
set_option maxHeartbeats 4000000 in
theorem J28_213_ev (sc : Option (Nat × (Nat → Int32))) (n : Nat)  (e : Nat) (he : 3 ≤ e) : ∀ (x1 : Int32) (u2 : Option Value) (u3 : Option Value) (u4 : Option Value) (u5 : Option Value) (M : Mem) (r : Unit) (M' : Mem), J28_213 n x1 M = some (r, M') → pm_ev pmT sc e 28 false (213, [some (.ref 83), some (.int x1), u2, u3, u4, u5], [], 129, 17845, hp M) (none, 129, 17845, hp M') := by
  intro x1 u2 u3 u4 u5 M r M' h
  unfold J28_213 at h
  refine pe_blk mm_28 2 (s' := (215, [some (.ref 83), some (.int x1), u2, u3, u4, u5], [.int x1, .ref 83], _, _, _)) rfl ?_
  refine pe_puti mm_28 rfl rfl rfl (by decide) (Nat.le_of_ble_eq_true rfl) rfl rfl ?_
  show pm_ev _ _ _ _ _ (218, [some (.ref 83), some (.int x1), u2, u3, u4, u5], [], _, _, hp (m_i M 83 7 x1)) _
  generalize m_i M 83 7 x1 = M39 at h ⊢
  rw [mlet] at h
  refine pe_blk mm_28 1 (s' := (341, [some (.ref 83), some (.int x1), u2, u3, u4, u5], [], _, _, _)) rfl ?_
  exact J28_341_ev sc n e he _ _ _ _ _ _ _ _ _ h
def J28_191 (n : Nat) (x1 : Int32) (x2 : Int32) (x4 : Int32) (x5 : Int32) (s0 : Int32) (M : Mem) : Option (Unit × Mem) :=
  mlet (m_i M 83 7 s0) (fun M6 => mlet (m_i M6 83 5 x2) (fun M7 => if x1 < (M7.1 83 3) then (match F25 n x2 M7 with | some (v9, M10) => (if v9 = 0 then (J28_256 n x2 x4 x5 M10) else (J28_228 n x4 x5 M10)) | none => none) else (mlet (m_i M7 83 4 6) (fun M38 => J28_213 n x1 M38))))
set_option maxRecDepth 100000 in
set_option maxHeartbeats 4000000 in
theorem J28_191_ev (sc : Option (Nat × (Nat → Int32))) (n : Nat)  (e : Nat) (he : 3 ≤ e) : ∀ (x1 : Int32) (x2 : Int32) (x4 : Int32) (x5 : Int32) (s0 : Int32) (u3 : Option Value) (M : Mem) (r : Unit) (M' : Mem), J28_191 n x1 x2 x4 x5 s0 M = some (r, M') → pm_ev pmT sc e 28 false (191, [some (.ref 83), some (.int x1), some (.int x2), u3, some (.int x4), some (.int x5)], [.int s0, .ref 83], 129, 17845, hp M) (none, 129, 17845, hp M') := by
  intro x1 x2 x4 x5 s0 u3 M r M' h
  unfold J28_191 at h
  refine pe_puti mm_28 rfl rfl rfl (by decide) (Nat.le_of_ble_eq_true rfl) rfl rfl ?_
  show pm_ev _ _ _ _ _ (194, [some (.ref 83), some (.int x1), some (.int x2), u3, some (.int x4), some (.int x5)], [], _, _, hp (m_i M 83 7 s0)) _
  generalize m_i M 83 7 s0 = M6 at h ⊢
  rw [mlet] at h
  refine pe_blk mm_28 2 (s' := (196, [some (.ref 83), some (.int x1), some (.int x2), u3, some (.int x4), some (.int x5)], [.int x2, .ref 83], _, _, _)) rfl ?_
  refine pe_puti mm_28 rfl rfl rfl (by decide) (Nat.le_of_ble_eq_true rfl) rfl rfl ?_
  show pm_ev _ _ _ _ _ (199, [some (.ref 83), some (.int x1), some (.int x2), u3, some (.int x4), some (.int x5)], [], _, _, hp (m_i M6 83 5 x2)) _
  generalize m_i M6 83 5 x2 = M7 at h ⊢
  rw [mlet] at h
  refine pe_blk mm_28 2 (s' := (201, [some (.ref 83), some (.int x1), some (.int x2), u3, some (.int x4), some (.int x5)], [.ref 83, .int x1], _, _, _)) rfl ?_
  refine pe_get mm_28 rfl rfl rfl (by decide) rfl ?_
  by_cases q8 : x1 < (M7.1 83 3)
  · rw [if_pos q8] at h
    refine pe_blk mm_28 1 (s' := (if x1 < (M7.1 83 3) then 221 else 207, [some (.ref 83), some (.int x1), some (.int x2), u3, some (.int x4), some (.int x5)], [], _, _, _)) rfl ?_
    rw [if_pos q8]
    refine pe_blk mm_28 1 (s' := (222, [some (.ref 83), some (.int x1), some (.int x2), u3, some (.int x4), some (.int x5)], [.int x2], _, _, _)) rfl ?_
    obtain ⟨e1, rfl⟩ : ∃ e1, e = e1 + 1 := ⟨e - 1, by omega⟩
    cases hc11 : F25 n x2 M7 with
    | none => rw [hc11] at h; cases h
    | some w =>
      obtain ⟨v9, M10⟩ := w
      rw [hc11] at h
      dsimp only at h
      refine pe_stat (al := [.int x2]) (L0 := [some (.int x2)]) (r1 := (some (.int v9), 129, 17845, hp M10)) mm_28 rfl rfl rfl mm_25 rfl (Nat.le_of_ble_eq_true rfl) (Nat.le_of_ble_eq_true rfl) rfl rfl (F25_ev sc n x2 _ e1 (by omega) _ _ hc11) ?_
      show pm_ev _ _ _ _ _ (225, [some (.ref 83), some (.int x1), some (.int x2), u3, some (.int x4), some (.int x5)], [.int v9], _, _, _) _
      by_cases q12 : v9 = 0
      · rw [if_pos q12] at h
        refine pe_blk mm_28 1 (s' := (if v9 = 0 then 256 else 228, [some (.ref 83), some (.int x1), some (.int x2), u3, some (.int x4), some (.int x5)], [], _, _, _)) rfl ?_
        rw [if_pos q12]
        exact J28_256_ev sc n (e1 + 1) he x2 x4 x5 _ _ _ _ _ h
      · rw [if_neg q12] at h
        refine pe_blk mm_28 1 (s' := (if v9 = 0 then 256 else 228, [some (.ref 83), some (.int x1), some (.int x2), u3, some (.int x4), some (.int x5)], [], _, _, _)) rfl ?_
        rw [if_neg q12]
        exact J28_228_ev sc n (e1 + 1) he x4 x5 _ _ _ _ _ _ h
  · rw [if_neg q8] at h
    refine pe_blk mm_28 1 (s' := (if x1 < (M7.1 83 3) then 221 else 207, [some (.ref 83), some (.int x1), some (.int x2), u3, some (.int x4), some (.int x5)], [], _, _, _)) rfl ?_
    rw [if_neg q8]
    refine pe_blk mm_28 2 (s' := (210, [some (.ref 83), some (.int x1), some (.int x2), u3, some (.int x4), some (.int x5)], [.int 6, .ref 83], _, _, _)) rfl ?_
    refine pe_puti mm_28 rfl rfl rfl (by decide) (Nat.le_of_ble_eq_true rfl) rfl rfl ?_
    show pm_ev _ _ _ _ _ (213, [some (.ref 83), some (.int x1), some (.int x2), u3, some (.int x4), some (.int x5)], [], _, _, hp (m_i M7 83 4 6)) _
    generalize m_i M7 83 4 6 = M38 at h ⊢
    rw [mlet] at h
    exact J28_213_ev sc n e he x1 _ _ _ _ _ _ _ h
def J28_173 (n : Nat) (x1 : Int32) (x2 : Int32) (x3 : Int32) (x4 : Int32) (M : Mem) : Option (Unit × Mem) :=
  if (x3 - x1) ≤ 0 then (J28_191 n x1 x2 x4 (x3 - x1) (x1 + 1) M) else (J28_191 n x1 x2 x4 (x3 - x1) x3 M)
set_option maxRecDepth 100000 in
set_option maxHeartbeats 4000000 in
theorem J28_173_ev (sc : Option (Nat × (Nat → Int32))) (n : Nat)  (e : Nat) (he : 3 ≤ e) : ∀ (x1 : Int32) (x2 : Int32) (x3 : Int32) (x4 : Int32) (u5 : Option Value) (M : Mem) (r : Unit) (M' : Mem), J28_173 n x1 x2 x3 x4 M = some (r, M') → pm_ev pmT sc e 28 false (173, [some (.ref 83), some (.int x1), some (.int x2), some (.int x3), some (.int x4), u5], [], 129, 17845, hp M) (none, 129, 17845, hp M') := by
  intro x1 x2 x3 x4 u5 M r M' h
  unfold J28_173 at h
  refine pe_blk mm_28 6 (s' := (181, [some (.ref 83), some (.int x1), some (.int x2), some (.int x3), some (.int x4), some (.int (x3 - x1))], [.int (x3 - x1), .ref 83], _, _, _)) rfl ?_
  by_cases q5 : (x3 - x1) ≤ 0
  · rw [if_pos q5] at h
    refine pe_blk mm_28 1 (s' := (if (x3 - x1) ≤ 0 then 188 else 184, [some (.ref 83), some (.int x1), some (.int x2), some (.int x3), some (.int x4), some (.int (x3 - x1))], [.ref 83], _, _, _)) rfl ?_
    rw [if_pos q5]
    refine pe_blk mm_28 3 (s' := (191, [some (.ref 83), some (.int x1), some (.int x2), some (.int x3), some (.int x4), some (.int (x3 - x1))], [.int (x1 + 1), .ref 83], _, _, _)) rfl ?_
    exact J28_191_ev sc n e he x1 x2 x4 (x3 - x1) (x1 + 1) _ _ _ _ h
  · rw [if_neg q5] at h
    refine pe_blk mm_28 1 (s' := (if (x3 - x1) ≤ 0 then 188 else 184, [some (.ref 83), some (.int x1), some (.int x2), some (.int x3), some (.int x4), some (.int (x3 - x1))], [.ref 83], _, _, _)) rfl ?_
    rw [if_neg q5]
    refine pe_blk mm_28 2 (s' := (191, [some (.ref 83), some (.int x1), some (.int x2), some (.int x3), some (.int x4), some (.int (x3 - x1))], [.int x3, .ref 83], _, _, _)) rfl ?_
    exact J28_191_ev sc n e he x1 x2 x4 (x3 - x1) x3 _ _ _ _ h
def J28_164 (n : Nat) (rec60 : Int32 → Int32 → Int32 → Int32 → Mem → Option (Unit × Mem)) (x1 : Int32) (x2 : Int32) (x3 : Int32) (s0 : Int32) (M : Mem) : Option (Unit × Mem) :=
  rec60 x1 x2 (x3 + 1) s0 M
set_option maxRecDepth 100000 in
set_option maxHeartbeats 4000000 in
theorem J28_164_ev (sc : Option (Nat × (Nat → Int32))) (n : Nat)  (e : Nat) (he : 3 ≤ e) (rec60 : Int32 → Int32 → Int32 → Int32 → Mem → Option (Unit × Mem)) (hr60 : ∀ (x1 : Int32) (x2 : Int32) (x3 : Int32) (x4 : Int32) (u5 : Option Value) (M : Mem) (r : Unit) (M' : Mem), rec60 x1 x2 x3 x4 M = some (r, M') → pm_ev pmT sc e 28 false (60, [some (.ref 83), some (.int x1), some (.int x2), some (.int x3), some (.int x4), u5], [], 129, 17845, hp M) (none, 129, 17845, hp M')) : ∀ (x1 : Int32) (x2 : Int32) (x3 : Int32) (s0 : Int32) (u4 : Option Value) (u5 : Option Value) (M : Mem) (r : Unit) (M' : Mem), J28_164 n rec60 x1 x2 x3 s0 M = some (r, M') → pm_ev pmT sc e 28 false (164, [some (.ref 83), some (.int x1), some (.int x2), some (.int x3), u4, u5], [.int s0], 129, 17845, hp M) (none, 129, 17845, hp M') := by
  intro x1 x2 x3 s0 u4 u5 M r M' h
  unfold J28_164 at h
  refine pe_blk mm_28 6 (s' := (60, [some (.ref 83), some (.int x1), some (.int x2), some (.int (x3 + 1)), some (.int s0), u5], [], _, _, _)) rfl ?_
  exact hr60 x1 x2 (x3 + 1) s0 _ _ _ _ h
def J28_149 (n : Nat) (rec60 : Int32 → Int32 → Int32 → Int32 → Mem → Option (Unit × Mem)) (x1 : Int32) (x2 : Int32) (x3 : Int32) (s0 : Int32) (M : Mem) : Option (Unit × Mem) :=
  if 4 ≤ (x3 - x1) then (J28_164 n rec60 x1 x2 x3 0 M) else (J28_164 n rec60 x1 x2 x3 s0 M)
set_option maxRecDepth 100000 in
set_option maxHeartbeats 4000000 in
theorem J28_149_ev (sc : Option (Nat × (Nat → Int32))) (n : Nat)  (e : Nat) (he : 3 ≤ e) (rec60 : Int32 → Int32 → Int32 → Int32 → Mem → Option (Unit × Mem)) (hr60 : ∀ (x1 : Int32) (x2 : Int32) (x3 : Int32) (x4 : Int32) (u5 : Option Value) (M : Mem) (r : Unit) (M' : Mem), rec60 x1 x2 x3 x4 M = some (r, M') → pm_ev pmT sc e 28 false (60, [some (.ref 83), some (.int x1), some (.int x2), some (.int x3), some (.int x4), u5], [], 129, 17845, hp M) (none, 129, 17845, hp M')) : ∀ (x1 : Int32) (x2 : Int32) (x3 : Int32) (s0 : Int32) (u4 : Option Value) (u5 : Option Value) (M : Mem) (r : Unit) (M' : Mem), J28_149 n rec60 x1 x2 x3 s0 M = some (r, M') → pm_ev pmT sc e 28 false (149, [some (.ref 83), some (.int x1), some (.int x2), some (.int x3), u4, u5], [.int s0], 129, 17845, hp M) (none, 129, 17845, hp M') := by
  intro x1 x2 x3 s0 u4 u5 M r M' h
  unfold J28_149 at h
  refine pe_blk mm_28 5 (s' := (155, [some (.ref 83), some (.int x1), some (.int x2), some (.int x3), some (.int s0), u5], [.int 4, .int (x3 - x1)], _, _, _)) rfl ?_
  by_cases q58 : 4 ≤ (x3 - x1)
  · rw [if_pos q58] at h
    refine pe_blk mm_28 1 (s' := (if 4 ≤ (x3 - x1) then 163 else 158, [some (.ref 83), some (.int x1), some (.int x2), some (.int x3), some (.int s0), u5], [], _, _, _)) rfl ?_
    rw [if_pos q58]
    refine pe_blk mm_28 1 (s' := (164, [some (.ref 83), some (.int x1), some (.int x2), some (.int x3), some (.int s0), u5], [.int 0], _, _, _)) rfl ?_
    exact J28_164_ev sc n e he rec60 hr60 x1 x2 x3 0 _ _ _ _ _ h
  · rw [if_neg q58] at h
    refine pe_blk mm_28 1 (s' := (if 4 ≤ (x3 - x1) then 163 else 158, [some (.ref 83), some (.int x1), some (.int x2), some (.int x3), some (.int s0), u5], [], _, _, _)) rfl ?_
    rw [if_neg q58]
    refine pe_blk mm_28 2 (s' := (164, [some (.ref 83), some (.int x1), some (.int x2), some (.int x3), some (.int s0), u5], [.int s0], _, _, _)) rfl ?_
    exact J28_164_ev sc n e he rec60 hr60 x1 x2 x3 s0 _ _ _ _ _ h
def J28_109 (n : Nat) (rec60 : Int32 → Int32 → Int32 → Int32 → Mem → Option (Unit × Mem)) (x1 : Int32) (x2 : Int32) (x3 : Int32) (x4 : Int32) (M : Mem) : Option (Unit × Mem) :=
  match F25 n x2 M with | some (v53, M54) => (if v53 = 0 then (if x3 < 0 ∨ 120 ≤ (x3 : Int32).toNatClampNeg then none else (J28_149 n rec60 x1 x2 x3 (((x4 * 10) + (M54.1 85 (x3 : Int32).toNatClampNeg)) - 48) M54)) else (if x3 < 0 ∨ 120 ≤ (x3 : Int32).toNatClampNeg then none else (J28_149 n rec60 x1 x2 x3 (((x4 * 27) + (M54.1 85 (x3 : Int32).toNatClampNeg)) - 96) M54))) | none => none
set_option maxRecDepth 100000 in
set_option maxHeartbeats 4000000 in
theorem J28_109_ev (sc : Option (Nat × (Nat → Int32))) (n : Nat)  (e : Nat) (he : 3 ≤ e) (rec60 : Int32 → Int32 → Int32 → Int32 → Mem → Option (Unit × Mem)) (hr60 : ∀ (x1 : Int32) (x2 : Int32) (x3 : Int32) (x4 : Int32) (u5 : Option Value) (M : Mem) (r : Unit) (M' : Mem), rec60 x1 x2 x3 x4 M = some (r, M') → pm_ev pmT sc e 28 false (60, [some (.ref 83), some (.int x1), some (.int x2), some (.int x3), some (.int x4), u5], [], 129, 17845, hp M) (none, 129, 17845, hp M')) : ∀ (x1 : Int32) (x2 : Int32) (x3 : Int32) (x4 : Int32) (u5 : Option Value) (M : Mem) (r : Unit) (M' : Mem), J28_109 n rec60 x1 x2 x3 x4 M = some (r, M') → pm_ev pmT sc e 28 false (109, [some (.ref 83), some (.int x1), some (.int x2), some (.int x3), some (.int x4), u5], [], 129, 17845, hp M) (none, 129, 17845, hp M') := by
  intro x1 x2 x3 x4 u5 M r M' h
  unfold J28_109 at h
  refine pe_blk mm_28 1 (s' := (110, [some (.ref 83), some (.int x1), some (.int x2), some (.int x3), some (.int x4), u5], [.int x2], _, _, _)) rfl ?_
  obtain ⟨e1, rfl⟩ : ∃ e1, e = e1 + 1 := ⟨e - 1, by omega⟩
  cases hc55 : F25 n x2 M with
  | none => rw [hc55] at h; cases h
  | some w =>
    obtain ⟨v53, M54⟩ := w
    rw [hc55] at h
    dsimp only at h
    refine pe_stat (al := [.int x2]) (L0 := [some (.int x2)]) (r1 := (some (.int v53), 129, 17845, hp M54)) mm_28 rfl rfl rfl mm_25 rfl (Nat.le_of_ble_eq_true rfl) (Nat.le_of_ble_eq_true rfl) rfl rfl (F25_ev sc n x2 _ e1 (by omega) _ _ hc55) ?_
    show pm_ev _ _ _ _ _ (113, [some (.ref 83), some (.int x1), some (.int x2), some (.int x3), some (.int x4), u5], [.int v53], _, _, _) _
    by_cases q56 : v53 = 0
    · rw [if_pos q56] at h
      refine pe_blk mm_28 1 (s' := (if v53 = 0 then 134 else 116, [some (.ref 83), some (.int x1), some (.int x2), some (.int x3), some (.int x4), u5], [], _, _, _)) rfl ?_
      rw [if_pos q56]
      refine pe_blk mm_28 4 (s' := (140, [some (.ref 83), some (.int x1), some (.int x2), some (.int x3), some (.int x4), u5], [.ref 83, .int (x4 * 10)], _, _, _)) rfl ?_
      refine pe_get mm_28 rfl rfl rfl (by decide) rfl ?_
      refine pe_blk mm_28 1 (s' := (144, [some (.ref 83), some (.int x1), some (.int x2), some (.int x3), some (.int x4), u5], [.int x3, .ref 85, .int (x4 * 10)], _, _, _)) rfl ?_
      by_cases q57 : x3 < 0 ∨ 120 ≤ (x3 : Int32).toNatClampNeg
      · rw [if_pos q57] at h
        cases h
      · rw [if_neg q57] at h
        refine pe_iald (f := M54.1 85) mm_28 rfl rfl (by decide) q57 ?_
        refine pe_blk mm_28 3 (s' := (149, [some (.ref 83), some (.int x1), some (.int x2), some (.int x3), some (.int x4), u5], [.int (((x4 * 10) + (M54.1 85 (x3 : Int32).toNatClampNeg)) - 48)], _, _, _)) rfl ?_
        exact J28_149_ev sc n (e1 + 1) he rec60 hr60 x1 x2 x3 (((x4 * 10) + (M54.1 85 (x3 : Int32).toNatClampNeg)) - 48) _ _ _ _ _ h
    · rw [if_neg q56] at h
      refine pe_blk mm_28 1 (s' := (if v53 = 0 then 134 else 116, [some (.ref 83), some (.int x1), some (.int x2), some (.int x3), some (.int x4), u5], [], _, _, _)) rfl ?_
      rw [if_neg q56]
      refine pe_blk mm_28 4 (s' := (122, [some (.ref 83), some (.int x1), some (.int x2), some (.int x3), some (.int x4), u5], [.ref 83, .int (x4 * 27)], _, _, _)) rfl ?_
      refine pe_get mm_28 rfl rfl rfl (by decide) rfl ?_
      refine pe_blk mm_28 1 (s' := (126, [some (.ref 83), some (.int x1), some (.int x2), some (.int x3), some (.int x4), u5], [.int x3, .ref 85, .int (x4 * 27)], _, _, _)) rfl ?_
      by_cases q59 : x3 < 0 ∨ 120 ≤ (x3 : Int32).toNatClampNeg
      · rw [if_pos q59] at h
        cases h
      · rw [if_neg q59] at h
        refine pe_iald (f := M54.1 85) mm_28 rfl rfl (by decide) q59 ?_
        refine pe_blk mm_28 4 (s' := (149, [some (.ref 83), some (.int x1), some (.int x2), some (.int x3), some (.int x4), u5], [.int (((x4 * 27) + (M54.1 85 (x3 : Int32).toNatClampNeg)) - 96)], _, _, _)) rfl ?_
        exact J28_149_ev sc n (e1 + 1) he rec60 hr60 x1 x2 x3 (((x4 * 27) + (M54.1 85 (x3 : Int32).toNatClampNeg)) - 96) _ _ _ _ _ h
def J28_97 (n : Nat) (rec60 : Int32 → Int32 → Int32 → Int32 → Mem → Option (Unit × Mem)) (x1 : Int32) (x2 : Int32) (x3 : Int32) (x4 : Int32) (M : Mem) : Option (Unit × Mem) :=
  if x3 < 0 ∨ 120 ≤ (x3 : Int32).toNatClampNeg then none else (match F26 n (M.1 85 (x3 : Int32).toNatClampNeg) M with | some (v49, M50) => (if v49 = 0 then (J28_173 n x1 x2 x3 x4 M50) else (J28_109 n rec60 x1 x2 x3 x4 M50)) | none => none)
set_option maxRecDepth 100000 in
set_option maxHeartbeats 4000000 in
theorem J28_97_ev (sc : Option (Nat × (Nat → Int32))) (n : Nat)  (e : Nat) (he : 3 ≤ e) (rec60 : Int32 → Int32 → Int32 → Int32 → Mem → Option (Unit × Mem)) (hr60 : ∀ (x1 : Int32) (x2 : Int32) (x3 : Int32) (x4 : Int32) (u5 : Option Value) (M : Mem) (r : Unit) (M' : Mem), rec60 x1 x2 x3 x4 M = some (r, M') → pm_ev pmT sc e 28 false (60, [some (.ref 83), some (.int x1), some (.int x2), some (.int x3), some (.int x4), u5], [], 129, 17845, hp M) (none, 129, 17845, hp M')) : ∀ (x1 : Int32) (x2 : Int32) (x3 : Int32) (x4 : Int32) (u5 : Option Value) (M : Mem) (r : Unit) (M' : Mem), J28_97 n rec60 x1 x2 x3 x4 M = some (r, M') → pm_ev pmT sc e 28 false (97, [some (.ref 83), some (.int x1), some (.int x2), some (.int x3), some (.int x4), u5], [], 129, 17845, hp M) (none, 129, 17845, hp M') := by
  intro x1 x2 x3 x4 u5 M r M' h
  unfold J28_97 at h
  refine pe_blk mm_28 1 (s' := (98, [some (.ref 83), some (.int x1), some (.int x2), some (.int x3), some (.int x4), u5], [.ref 83], _, _, _)) rfl ?_
  refine pe_get mm_28 rfl rfl rfl (by decide) rfl ?_
  refine pe_blk mm_28 1 (s' := (102, [some (.ref 83), some (.int x1), some (.int x2), some (.int x3), some (.int x4), u5], [.int x3, .ref 85], _, _, _)) rfl ?_
  by_cases q48 : x3 < 0 ∨ 120 ≤ (x3 : Int32).toNatClampNeg
  · rw [if_pos q48] at h
    cases h
  · rw [if_neg q48] at h
    refine pe_iald (f := M.1 85) mm_28 rfl rfl (by decide) q48 ?_
    obtain ⟨e1, rfl⟩ : ∃ e1, e = e1 + 1 := ⟨e - 1, by omega⟩
    cases hc51 : F26 n (M.1 85 (x3 : Int32).toNatClampNeg) M with
    | none => rw [hc51] at h; cases h
    | some w =>
      obtain ⟨v49, M50⟩ := w
      rw [hc51] at h
      dsimp only at h
      refine pe_stat (al := [.int (M.1 85 (x3 : Int32).toNatClampNeg)]) (L0 := [some (.int (M.1 85 (x3 : Int32).toNatClampNeg))]) (r1 := (some (.int v49), 129, 17845, hp M50)) mm_28 rfl rfl rfl mm_26 rfl (Nat.le_of_ble_eq_true rfl) (Nat.le_of_ble_eq_true rfl) rfl rfl (F26_ev sc n (M.1 85 (x3 : Int32).toNatClampNeg) _ e1 (by omega) _ _ hc51) ?_
      show pm_ev _ _ _ _ _ (106, [some (.ref 83), some (.int x1), some (.int x2), some (.int x3), some (.int x4), u5], [.int v49], _, _, _) _
      by_cases q52 : v49 = 0
      · rw [if_pos q52] at h
        refine pe_blk mm_28 1 (s' := (if v49 = 0 then 173 else 109, [some (.ref 83), some (.int x1), some (.int x2), some (.int x3), some (.int x4), u5], [], _, _, _)) rfl ?_
        rw [if_pos q52]
        exact J28_173_ev sc n (e1 + 1) he x1 x2 x3 x4 _ _ _ _ h
      · rw [if_neg q52] at h
        refine pe_blk mm_28 1 (s' := (if v49 = 0 then 173 else 109, [some (.ref 83), some (.int x1), some (.int x2), some (.int x3), some (.int x4), u5], [], _, _, _)) rfl ?_
        rw [if_neg q52]
        exact J28_109_ev sc n (e1 + 1) he rec60 hr60 x1 x2 x3 x4 _ _ _ _ h
def L28_60 (n : Nat) : Nat → Int32 → Int32 → Int32 → Int32 → Mem → Option (Unit × Mem)
  | 0, _, _, _, _, _ => none
  | k + 1, x1, x2, x3, x4, M => if (M.1 83 3) ≤ x3 then (J28_173 n x1 x2 x3 x4 M) else (match F25 n x2 M with | some (v40, M41) => (if v40 = 0 then (match F26 n x2 M41 with | some (v44, M45) => (if v44 = 0 then (J28_173 n x1 x2 x3 x4 M45) else (J28_97 n (L28_60 n k) x1 x2 x3 x4 M45)) | none => none) else (if x3 < 0 ∨ 120 ≤ (x3 : Int32).toNatClampNeg then none else (match F25 n (M41.1 85 (x3 : Int32).toNatClampNeg) M41 with | some (v61, M62) => (if v61 = 0 then (J28_173 n x1 x2 x3 x4 M62) else (J28_109 n (L28_60 n k) x1 x2 x3 x4 M62)) | none => none))) | none => none)
set_option maxRecDepth 100000 in
set_option maxHeartbeats 4000000 in
theorem L28_60_ev (sc : Option (Nat × (Nat → Int32))) (n : Nat)  (e : Nat) (he : 3 ≤ e) : ∀ k : Nat, ∀ (x1 : Int32) (x2 : Int32) (x3 : Int32) (x4 : Int32) (u5 : Option Value) (M : Mem) (r : Unit) (M' : Mem), L28_60 n k x1 x2 x3 x4 M = some (r, M') → pm_ev pmT sc e 28 false (60, [some (.ref 83), some (.int x1), some (.int x2), some (.int x3), some (.int x4), u5], [], 129, 17845, hp M) (none, 129, 17845, hp M') := by
  intro k
  induction k with
  | zero => intro x1 x2 x3 x4 u5 M r M' h; cases h
  | succ k hr60 =>
    intro x1 x2 x3 x4 u5 M r M' h
    rw [L28_60] at h
    refine pe_blk mm_28 2 (s' := (62, [some (.ref 83), some (.int x1), some (.int x2), some (.int x3), some (.int x4), u5], [.ref 83, .int x3], _, _, _)) rfl ?_
    refine pe_get mm_28 rfl rfl rfl (by decide) rfl ?_
    by_cases q4 : (M.1 83 3) ≤ x3
    · rw [if_pos q4] at h
      refine pe_blk mm_28 1 (s' := (if (M.1 83 3) ≤ x3 then 173 else 68, [some (.ref 83), some (.int x1), some (.int x2), some (.int x3), some (.int x4), u5], [], _, _, _)) rfl ?_
      rw [if_pos q4]
      exact J28_173_ev sc n e he x1 x2 x3 x4 _ _ _ _ h
    · rw [if_neg q4] at h
      refine pe_blk mm_28 1 (s' := (if (M.1 83 3) ≤ x3 then 173 else 68, [some (.ref 83), some (.int x1), some (.int x2), some (.int x3), some (.int x4), u5], [], _, _, _)) rfl ?_
      rw [if_neg q4]
      refine pe_blk mm_28 1 (s' := (69, [some (.ref 83), some (.int x1), some (.int x2), some (.int x3), some (.int x4), u5], [.int x2], _, _, _)) rfl ?_
      obtain ⟨e1, rfl⟩ : ∃ e1, e = e1 + 1 := ⟨e - 1, by omega⟩
      cases hc42 : F25 n x2 M with
      | none => rw [hc42] at h; cases h
      | some w =>
        obtain ⟨v40, M41⟩ := w
        rw [hc42] at h
        dsimp only at h
        refine pe_stat (al := [.int x2]) (L0 := [some (.int x2)]) (r1 := (some (.int v40), 129, 17845, hp M41)) mm_28 rfl rfl rfl mm_25 rfl (Nat.le_of_ble_eq_true rfl) (Nat.le_of_ble_eq_true rfl) rfl rfl (F25_ev sc n x2 _ e1 (by omega) _ _ hc42) ?_
        show pm_ev _ _ _ _ _ (72, [some (.ref 83), some (.int x1), some (.int x2), some (.int x3), some (.int x4), u5], [.int v40], _, _, _) _
        by_cases q43 : v40 = 0
        · rw [if_pos q43] at h
          refine pe_blk mm_28 1 (s' := (if v40 = 0 then 90 else 75, [some (.ref 83), some (.int x1), some (.int x2), some (.int x3), some (.int x4), u5], [], _, _, _)) rfl ?_
          rw [if_pos q43]
          refine pe_blk mm_28 1 (s' := (91, [some (.ref 83), some (.int x1), some (.int x2), some (.int x3), some (.int x4), u5], [.int x2], _, _, _)) rfl ?_
          skip
          cases hc46 : F26 n x2 M41 with
          | none => rw [hc46] at h; cases h
          | some w =>
            obtain ⟨v44, M45⟩ := w
            rw [hc46] at h
            dsimp only at h
            refine pe_stat (al := [.int x2]) (L0 := [some (.int x2)]) (r1 := (some (.int v44), 129, 17845, hp M45)) mm_28 rfl rfl rfl mm_26 rfl (Nat.le_of_ble_eq_true rfl) (Nat.le_of_ble_eq_true rfl) rfl rfl (F26_ev sc n x2 _ e1 (by omega) _ _ hc46) ?_
            show pm_ev _ _ _ _ _ (94, [some (.ref 83), some (.int x1), some (.int x2), some (.int x3), some (.int x4), u5], [.int v44], _, _, _) _
            by_cases q47 : v44 = 0
            · rw [if_pos q47] at h
              refine pe_blk mm_28 1 (s' := (if v44 = 0 then 173 else 97, [some (.ref 83), some (.int x1), some (.int x2), some (.int x3), some (.int x4), u5], [], _, _, _)) rfl ?_
              rw [if_pos q47]
              exact J28_173_ev sc n (e1 + 1) he x1 x2 x3 x4 _ _ _ _ h
            · rw [if_neg q47] at h
              refine pe_blk mm_28 1 (s' := (if v44 = 0 then 173 else 97, [some (.ref 83), some (.int x1), some (.int x2), some (.int x3), some (.int x4), u5], [], _, _, _)) rfl ?_
              rw [if_neg q47]
              exact J28_97_ev sc n (e1 + 1) he (L28_60 n k) hr60 x1 x2 x3 x4 _ _ _ _ h
        · rw [if_neg q43] at h
          refine pe_blk mm_28 1 (s' := (if v40 = 0 then 90 else 75, [some (.ref 83), some (.int x1), some (.int x2), some (.int x3), some (.int x4), u5], [], _, _, _)) rfl ?_
          rw [if_neg q43]
          refine pe_blk mm_28 1 (s' := (76, [some (.ref 83), some (.int x1), some (.int x2), some (.int x3), some (.int x4), u5], [.ref 83], _, _, _)) rfl ?_
          refine pe_get mm_28 rfl rfl rfl (by decide) rfl ?_
          refine pe_blk mm_28 1 (s' := (80, [some (.ref 83), some (.int x1), some (.int x2), some (.int x3), some (.int x4), u5], [.int x3, .ref 85], _, _, _)) rfl ?_
          by_cases q60 : x3 < 0 ∨ 120 ≤ (x3 : Int32).toNatClampNeg
          · rw [if_pos q60] at h
            cases h
          · rw [if_neg q60] at h
            refine pe_iald (f := M41.1 85) mm_28 rfl rfl (by decide) q60 ?_
            skip
            cases hc63 : F25 n (M41.1 85 (x3 : Int32).toNatClampNeg) M41 with
            | none => rw [hc63] at h; cases h
            | some w =>
              obtain ⟨v61, M62⟩ := w
              rw [hc63] at h
              dsimp only at h
              refine pe_stat (al := [.int (M41.1 85 (x3 : Int32).toNatClampNeg)]) (L0 := [some (.int (M41.1 85 (x3 : Int32).toNatClampNeg))]) (r1 := (some (.int v61), 129, 17845, hp M62)) mm_28 rfl rfl rfl mm_25 rfl (Nat.le_of_ble_eq_true rfl) (Nat.le_of_ble_eq_true rfl) rfl rfl (F25_ev sc n (M41.1 85 (x3 : Int32).toNatClampNeg) _ e1 (by omega) _ _ hc63) ?_
              show pm_ev _ _ _ _ _ (84, [some (.ref 83), some (.int x1), some (.int x2), some (.int x3), some (.int x4), u5], [.int v61], _, _, _) _
              by_cases q64 : v61 = 0
              · rw [if_pos q64] at h
                refine pe_blk mm_28 1 (s' := (if v61 = 0 then 173 else 87, [some (.ref 83), some (.int x1), some (.int x2), some (.int x3), some (.int x4), u5], [], _, _, _)) rfl ?_
                rw [if_pos q64]
                exact J28_173_ev sc n (e1 + 1) he x1 x2 x3 x4 _ _ _ _ h
              · rw [if_neg q64] at h
                refine pe_blk mm_28 1 (s' := (if v61 = 0 then 173 else 87, [some (.ref 83), some (.int x1), some (.int x2), some (.int x3), some (.int x4), u5], [], _, _, _)) rfl ?_
                rw [if_neg q64]
                refine pe_blk mm_28 1 (s' := (109, [some (.ref 83), some (.int x1), some (.int x2), some (.int x3), some (.int x4), u5], [], _, _, _)) rfl ?_
                exact J28_109_ev sc n (e1 + 1) he (L28_60 n k) hr60 x1 x2 x3 x4 _ _ _ _ h
def J28_54 (n : Nat) (x1 : Int32) (s0 : Int32) (M : Mem) : Option (Unit × Mem) :=
  L28_60 n n x1 s0 x1 0 M
set_option maxRecDepth 100000 in
set_option maxHeartbeats 4000000 in
theorem J28_54_ev (sc : Option (Nat × (Nat → Int32))) (n : Nat)  (e : Nat) (he : 3 ≤ e) : ∀ (x1 : Int32) (s0 : Int32) (u2 : Option Value) (u3 : Option Value) (u4 : Option Value) (u5 : Option Value) (M : Mem) (r : Unit) (M' : Mem), J28_54 n x1 s0 M = some (r, M') → pm_ev pmT sc e 28 false (54, [some (.ref 83), some (.int x1), u2, u3, u4, u5], [.int s0], 129, 17845, hp M) (none, 129, 17845, hp M') := by
  intro x1 s0 u2 u3 u4 u5 M r M' h
  unfold J28_54 at h
  refine pe_blk mm_28 5 (s' := (60, [some (.ref 83), some (.int x1), some (.int s0), some (.int x1), some (.int 0), u5], [], _, _, _)) rfl ?_
  exact L28_60_ev sc n e he n x1 s0 x1 0 _ _ _ _ h
def J28_31 (n : Nat) (x1 : Int32) (M : Mem) : Option (Unit × Mem) :=
  mlet (m_i M 83 6 x1) (fun M2 => if (M2.1 83 3) ≤ x1 then (J28_54 n x1 0 M2) else (if x1 < 0 ∨ 120 ≤ (x1 : Int32).toNatClampNeg then none else (J28_54 n x1 (M2.1 85 (x1 : Int32).toNatClampNeg) M2)))
set_option maxRecDepth 100000 in
set_option maxHeartbeats 4000000 in
theorem J28_31_ev (sc : Option (Nat × (Nat → Int32))) (n : Nat)  (e : Nat) (he : 3 ≤ e) : ∀ (x1 : Int32) (u2 : Option Value) (u3 : Option Value) (u4 : Option Value) (u5 : Option Value) (M : Mem) (r : Unit) (M' : Mem), J28_31 n x1 M = some (r, M') → pm_ev pmT sc e 28 false (31, [some (.ref 83), some (.int x1), u2, u3, u4, u5], [], 129, 17845, hp M) (none, 129, 17845, hp M') := by
  intro x1 u2 u3 u4 u5 M r M' h
  unfold J28_31 at h
  refine pe_blk mm_28 2 (s' := (33, [some (.ref 83), some (.int x1), u2, u3, u4, u5], [.int x1, .ref 83], _, _, _)) rfl ?_
  refine pe_puti mm_28 rfl rfl rfl (by decide) (Nat.le_of_ble_eq_true rfl) rfl rfl ?_
  show pm_ev _ _ _ _ _ (36, [some (.ref 83), some (.int x1), u2, u3, u4, u5], [], _, _, hp (m_i M 83 6 x1)) _
  generalize m_i M 83 6 x1 = M2 at h ⊢
  rw [mlet] at h
  refine pe_blk mm_28 2 (s' := (38, [some (.ref 83), some (.int x1), u2, u3, u4, u5], [.ref 83, .int x1], _, _, _)) rfl ?_
  refine pe_get mm_28 rfl rfl rfl (by decide) rfl ?_
  by_cases q3 : (M2.1 83 3) ≤ x1
  · rw [if_pos q3] at h
    refine pe_blk mm_28 1 (s' := (if (M2.1 83 3) ≤ x1 then 53 else 44, [some (.ref 83), some (.int x1), u2, u3, u4, u5], [], _, _, _)) rfl ?_
    rw [if_pos q3]
    refine pe_blk mm_28 1 (s' := (54, [some (.ref 83), some (.int x1), u2, u3, u4, u5], [.int 0], _, _, _)) rfl ?_
    exact J28_54_ev sc n e he x1 0 _ _ _ _ _ _ _ h
  · rw [if_neg q3] at h
    refine pe_blk mm_28 1 (s' := (if (M2.1 83 3) ≤ x1 then 53 else 44, [some (.ref 83), some (.int x1), u2, u3, u4, u5], [], _, _, _)) rfl ?_
    rw [if_neg q3]
    refine pe_blk mm_28 1 (s' := (45, [some (.ref 83), some (.int x1), u2, u3, u4, u5], [.ref 83], _, _, _)) rfl ?_
    refine pe_get mm_28 rfl rfl rfl (by decide) rfl ?_
    refine pe_blk mm_28 1 (s' := (49, [some (.ref 83), some (.int x1), u2, u3, u4, u5], [.int x1, .ref 85], _, _, _)) rfl ?_
    by_cases q65 : x1 < 0 ∨ 120 ≤ (x1 : Int32).toNatClampNeg
    · rw [if_pos q65] at h
      cases h
    · rw [if_neg q65] at h
      refine pe_iald (f := M2.1 85) mm_28 rfl rfl (by decide) q65 ?_
      refine pe_blk mm_28 1 (s' := (54, [some (.ref 83), some (.int x1), u2, u3, u4, u5], [.int (M2.1 85 (x1 : Int32).toNatClampNeg)], _, _, _)) rfl ?_
      exact J28_54_ev sc n e he x1 (M2.1 85 (x1 : Int32).toNatClampNeg) _ _ _ _ _ _ _ h
def L28_5 (n : Nat) : Nat → Int32 → Mem → Option (Unit × Mem)
  | 0, _, _ => none
  | k + 1, x1, M => if (M.1 83 3) ≤ x1 then (J28_31 n x1 M) else (if x1 < 0 ∨ 120 ≤ (x1 : Int32).toNatClampNeg then none else (if (M.1 85 (x1 : Int32).toNatClampNeg) = 32 then ((L28_5 n k) (x1 + 1) M) else (J28_31 n x1 M)))
set_option maxRecDepth 100000 in
set_option maxHeartbeats 4000000 in
theorem L28_5_ev (sc : Option (Nat × (Nat → Int32))) (n : Nat)  (e : Nat) (he : 3 ≤ e) : ∀ k : Nat, ∀ (x1 : Int32) (u2 : Option Value) (u3 : Option Value) (u4 : Option Value) (u5 : Option Value) (M : Mem) (r : Unit) (M' : Mem), L28_5 n k x1 M = some (r, M') → pm_ev pmT sc e 28 false (5, [some (.ref 83), some (.int x1), u2, u3, u4, u5], [], 129, 17845, hp M) (none, 129, 17845, hp M') := by
  intro k
  induction k with
  | zero => intro x1 u2 u3 u4 u5 M r M' h; cases h
  | succ k hr5 =>
    intro x1 u2 u3 u4 u5 M r M' h
    rw [L28_5] at h
    refine pe_blk mm_28 2 (s' := (7, [some (.ref 83), some (.int x1), u2, u3, u4, u5], [.ref 83, .int x1], _, _, _)) rfl ?_
    refine pe_get mm_28 rfl rfl rfl (by decide) rfl ?_
    by_cases q1 : (M.1 83 3) ≤ x1
    · rw [if_pos q1] at h
      refine pe_blk mm_28 1 (s' := (if (M.1 83 3) ≤ x1 then 31 else 13, [some (.ref 83), some (.int x1), u2, u3, u4, u5], [], _, _, _)) rfl ?_
      rw [if_pos q1]
      exact J28_31_ev sc n e he x1 _ _ _ _ _ _ _ h
    · rw [if_neg q1] at h
      refine pe_blk mm_28 1 (s' := (if (M.1 83 3) ≤ x1 then 31 else 13, [some (.ref 83), some (.int x1), u2, u3, u4, u5], [], _, _, _)) rfl ?_
      rw [if_neg q1]
      refine pe_blk mm_28 1 (s' := (14, [some (.ref 83), some (.int x1), u2, u3, u4, u5], [.ref 83], _, _, _)) rfl ?_
      refine pe_get mm_28 rfl rfl rfl (by decide) rfl ?_
      refine pe_blk mm_28 1 (s' := (18, [some (.ref 83), some (.int x1), u2, u3, u4, u5], [.int x1, .ref 85], _, _, _)) rfl ?_
      by_cases q66 : x1 < 0 ∨ 120 ≤ (x1 : Int32).toNatClampNeg
      · rw [if_pos q66] at h
        cases h
      · rw [if_neg q66] at h
        refine pe_iald (f := M.1 85) mm_28 rfl rfl (by decide) q66 ?_
        refine pe_blk mm_28 1 (s' := (21, [some (.ref 83), some (.int x1), u2, u3, u4, u5], [.int 32, .int (M.1 85 (x1 : Int32).toNatClampNeg)], _, _, _)) rfl ?_
        by_cases q67 : (M.1 85 (x1 : Int32).toNatClampNeg) = 32
        · rw [if_pos q67] at h
          refine pe_blk mm_28 1 (s' := (if (M.1 85 (x1 : Int32).toNatClampNeg) = 32 then 24 else 31, [some (.ref 83), some (.int x1), u2, u3, u4, u5], [], _, _, _)) rfl ?_
          rw [if_pos q67]
          refine pe_blk mm_28 5 (s' := (5, [some (.ref 83), some (.int (x1 + 1)), u2, u3, u4, u5], [], _, _, _)) rfl ?_
          exact hr5 (x1 + 1) _ _ _ _ _ _ _ h
        · rw [if_neg q67] at h
          refine pe_blk mm_28 1 (s' := (if (M.1 85 (x1 : Int32).toNatClampNeg) = 32 then 24 else 31, [some (.ref 83), some (.int x1), u2, u3, u4, u5], [], _, _, _)) rfl ?_
          rw [if_neg q67]
          exact J28_31_ev sc n e he x1 _ _ _ _ _ _ _ h
/-- ArmExpanderModel.next -/
def F28 (n : Nat) (M : Mem) : Option (Unit × Mem) :=
  L28_5 n n (M.1 83 7) M
set_option maxRecDepth 100000 in
set_option maxHeartbeats 4000000 in
theorem F28_ev (sc : Option (Nat × (Nat → Int32))) (n : Nat)  (M : Mem) (e : Nat) (he : 3 ≤ e) (r : Unit) (M' : Mem) (h : F28 n M = some (r, M')) : pm_ev pmT sc e 28 false (0, [some (.ref 83), none, none, none, none, none], [], 129, 17845, hp M) (none, 129, 17845, hp M') := by
  unfold F28 at h
  refine pe_blk mm_28 1 (s' := (1, [some (.ref 83), none, none, none, none, none], [.ref 83], _, _, _)) rfl ?_
  refine pe_get mm_28 rfl rfl rfl (by decide) rfl ?_
  refine pe_blk mm_28 1 (s' := (5, [some (.ref 83), some (.int (M.1 83 7)), none, none, none, none], [], _, _, _)) rfl ?_
  exact L28_5_ev sc n e he n (M.1 83 7) _ _ _ _ _ _ _ h
/-- ArmExpanderModel.wrong -/
def F29 (n : Nat) (M : Mem) : Option (Int32 × Mem) :=
  mlet (m_i M 83 8 (M.1 83 6)) (fun M1 => some (0, M1))
set_option maxRecDepth 100000 in
set_option maxHeartbeats 4000000 in
theorem F29_ev (sc : Option (Nat × (Nat → Int32))) (n : Nat)  (M : Mem) (e : Nat) (he : 1 ≤ e) (r : Int32) (M' : Mem) (h : F29 n M = some (r, M')) : pm_ev pmT sc e 29 false (0, [some (.ref 83)], [], 129, 17845, hp M) (some (.int r), 129, 17845, hp M') := by
  unfold F29 at h
  refine pe_blk mm_29 2 (s' := (2, [some (.ref 83)], [.ref 83, .ref 83], _, _, _)) rfl ?_
  refine pe_get mm_29 rfl rfl rfl (by decide) rfl ?_
  refine pe_puti mm_29 rfl rfl rfl (by decide) (Nat.le_of_ble_eq_true rfl) rfl rfl ?_
  show pm_ev _ _ _ _ _ (8, [some (.ref 83)], [], _, _, hp (m_i M 83 8 (M.1 83 6))) _
  generalize m_i M 83 8 (M.1 83 6) = M1 at h ⊢
  rw [mlet] at h
  refine pe_blk mm_29 1 (s' := (9, [some (.ref 83)], [.int 0], _, _, _)) rfl ?_
  cases h
  exact pe_ret mm_29 rfl rfl
/-- ArmExpanderModel.pass -/
def F30 (n : Nat) (a0 : Int32) (M : Mem) : Option (Int32 × Mem) :=
  if a0 = 0 then (match F29 n M with | some (v2, M3) => (if v2 = 0 ∨ v2 = 1 then some (v2, M3) else none) | none => none) else (match F28 n M with | some (v6, M7) => (some (1, M7)) | none => none)
set_option maxRecDepth 100000 in
set_option maxHeartbeats 4000000 in
theorem F30_ev (sc : Option (Nat × (Nat → Int32))) (n : Nat) (a0 : Int32)  (M : Mem) (e : Nat) (he : 4 ≤ e) (r : Int32) (M' : Mem) (h : F30 n a0 M = some (r, M')) : pm_ev pmT sc e 30 false (0, [some (.ref 83), some (.int a0)], [], 129, 17845, hp M) (some (.int r), 129, 17845, hp M') := by
  unfold F30 at h
  refine pe_blk mm_30 1 (s' := (1, [some (.ref 83), some (.int a0)], [.int a0], _, _, _)) rfl ?_
  by_cases q1 : a0 = 0
  · rw [if_pos q1] at h
    refine pe_blk mm_30 1 (s' := (if a0 = 0 then 4 else 9, [some (.ref 83), some (.int a0)], [], _, _, _)) rfl ?_
    rw [if_pos q1]
    refine pe_blk mm_30 1 (s' := (5, [some (.ref 83), some (.int a0)], [.ref 83], _, _, _)) rfl ?_
    obtain ⟨e1, rfl⟩ : ∃ e1, e = e1 + 1 := ⟨e - 1, by omega⟩
    cases hc4 : F29 n M with
    | none => rw [hc4] at h; cases h
    | some w =>
      obtain ⟨v2, M3⟩ := w
      rw [hc4] at h
      dsimp only at h
      refine pe_virt (al := []) (a := 83) (L0 := [some (.ref 83)]) (r1 := (some (.int v2), 129, 17845, hp M3)) mm_30 rfl rfl rfl mm_29 rfl (by decide) (by decide) rfl (Nat.le_of_ble_eq_true rfl) (Nat.le_of_ble_eq_true rfl) rfl rfl (F29_ev sc n _ e1 (by omega) _ _ hc4) ?_
      show pm_ev _ _ _ _ _ (8, [some (.ref 83), some (.int a0)], [.int v2], _, _, _) _
      by_cases q5 : v2 = 0 ∨ v2 = 1
      · rw [if_pos q5] at h
        cases h
        exact pe_ret mm_30 rfl (if_pos q5)
      · rw [if_neg q5] at h
        cases h
  · rw [if_neg q1] at h
    refine pe_blk mm_30 1 (s' := (if a0 = 0 then 4 else 9, [some (.ref 83), some (.int a0)], [], _, _, _)) rfl ?_
    rw [if_neg q1]
    refine pe_blk mm_30 1 (s' := (10, [some (.ref 83), some (.int a0)], [.ref 83], _, _, _)) rfl ?_
    obtain ⟨e1, rfl⟩ : ∃ e1, e = e1 + 1 := ⟨e - 1, by omega⟩
    cases hc8 : F28 n M with
    | none => rw [hc8] at h; cases h
    | some w =>
      obtain ⟨v6, M7⟩ := w
      rw [hc8] at h
      dsimp only at h
      refine pe_virt (al := []) (a := 83) (L0 := [some (.ref 83), none, none, none, none, none]) (r1 := (none, 129, 17845, hp M7)) mm_30 rfl rfl rfl mm_28 rfl (by decide) (by decide) rfl (Nat.le_of_ble_eq_true rfl) (Nat.le_of_ble_eq_true rfl) rfl rfl (F28_ev sc n _ e1 (by omega) _ _ hc8) ?_
      show pm_ev _ _ _ _ _ (13, [some (.ref 83), some (.int a0)], [], _, _, _) _
      refine pe_blk mm_30 1 (s' := (14, [some (.ref 83), some (.int a0)], [.int 1], _, _, _)) rfl ?_
      cases h
      exact pe_ret mm_30 rfl rfl
