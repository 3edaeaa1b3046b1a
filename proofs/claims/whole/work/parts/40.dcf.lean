/-! The methods as functions over Mem; written by program. -/
def J62_202 (n : Nat) (s0 : Int32) (M : Mem) : Option (Int32 × Mem) :=
  some (s0, M)
set_option maxRecDepth 100000 in
set_option maxHeartbeats 4000000 in
theorem J62_202_ev (sc : Option (Nat × (Nat → Int32))) (n : Nat)  (e : Nat) (he : 3 ≤ e) : ∀ (s0 : Int32) (u0 : Option Value) (u1 : Option Value) (u2 : Option Value) (u3 : Option Value) (u4 : Option Value) (u5 : Option Value) (u6 : Option Value) (u7 : Option Value) (u8 : Option Value) (M : Mem) (r : Int32) (M' : Mem), J62_202 n s0 M = some (r, M') → pm_ev pmT sc e 62 false (202, [u0, u1, u2, u3, u4, u5, u6, u7, u8], [.int s0], 129, 17845, hp M) (some (.int r), 129, 17845, hp M') := by
  intro s0 u0 u1 u2 u3 u4 u5 u6 u7 u8 M r M' h
  unfold J62_202 at h
  cases h
  exact pe_ret mm_62 rfl rfl
def J62_190 (n : Nat) (x3 : Int32) (x6 : Int32) (M : Mem) : Option (Int32 × Mem) :=
  if x6 = 0 then (J62_202 n (-1) M) else (J62_202 n (x3 + 1) M)
set_option maxRecDepth 100000 in
set_option maxHeartbeats 4000000 in
theorem J62_190_ev (sc : Option (Nat × (Nat → Int32))) (n : Nat)  (e : Nat) (he : 3 ≤ e) : ∀ (x3 : Int32) (x6 : Int32) (u0 : Option Value) (u1 : Option Value) (u2 : Option Value) (u4 : Option Value) (u5 : Option Value) (u7 : Option Value) (u8 : Option Value) (M : Mem) (r : Int32) (M' : Mem), J62_190 n x3 x6 M = some (r, M') → pm_ev pmT sc e 62 false (190, [u0, u1, u2, some (.int x3), u4, u5, some (.int x6), u7, u8], [], 129, 17845, hp M) (some (.int r), 129, 17845, hp M') := by
  intro x3 x6 u0 u1 u2 u4 u5 u7 u8 M r M' h
  unfold J62_190 at h
  refine pe_blk mm_62 1 (s' := (192, [u0, u1, u2, some (.int x3), u4, u5, some (.int x6), u7, u8], [.int x6], _, _, _)) rfl ?_
  by_cases q10 : x6 = 0
  · rw [if_pos q10] at h
    refine pe_blk mm_62 1 (s' := (if x6 = 0 then 201 else 195, [u0, u1, u2, some (.int x3), u4, u5, some (.int x6), u7, u8], [], _, _, _)) rfl ?_
    rw [if_pos q10]
    refine pe_blk mm_62 1 (s' := (202, [u0, u1, u2, some (.int x3), u4, u5, some (.int x6), u7, u8], [.int (-1)], _, _, _)) rfl ?_
    exact J62_202_ev sc n e he (-1) _ _ _ _ _ _ _ _ _ _ _ _ h
  · rw [if_neg q10] at h
    refine pe_blk mm_62 1 (s' := (if x6 = 0 then 201 else 195, [u0, u1, u2, some (.int x3), u4, u5, some (.int x6), u7, u8], [], _, _, _)) rfl ?_
    rw [if_neg q10]
    refine pe_blk mm_62 4 (s' := (202, [u0, u1, u2, some (.int x3), u4, u5, some (.int x6), u7, u8], [.int (x3 + 1)], _, _, _)) rfl ?_
    exact J62_202_ev sc n e he (x3 + 1) _ _ _ _ _ _ _ _ _ _ _ _ h
def J62_184 (n : Nat) (rec54 : Int32 → Int32 → Int32 → Int32 → Int32 → Mem → Option (Int32 × Mem)) (x3 : Int32) (x4 : Int32) (x5 : Int32) (x6 : Int32) (x7 : Int32) (M : Mem) : Option (Int32 × Mem) :=
  rec54 x3 x4 x5 x6 (x7 + 1) M
set_option maxRecDepth 100000 in
set_option maxHeartbeats 4000000 in
theorem J62_184_ev (sc : Option (Nat × (Nat → Int32))) (n : Nat)  (e : Nat) (he : 3 ≤ e) (rec54 : Int32 → Int32 → Int32 → Int32 → Int32 → Mem → Option (Int32 × Mem)) (hr54 : ∀ (x3 : Int32) (x4 : Int32) (x5 : Int32) (x6 : Int32) (x7 : Int32) (u1 : Option Value) (u2 : Option Value) (u8 : Option Value) (M : Mem) (r : Int32) (M' : Mem), rec54 x3 x4 x5 x6 x7 M = some (r, M') → pm_ev pmT sc e 62 false (54, [some (.ref 83), u1, u2, some (.int x3), some (.int x4), some (.int x5), some (.int x6), some (.int x7), u8], [], 129, 17845, hp M) (some (.int r), 129, 17845, hp M')) : ∀ (x3 : Int32) (x4 : Int32) (x5 : Int32) (x6 : Int32) (x7 : Int32) (u1 : Option Value) (u2 : Option Value) (u8 : Option Value) (M : Mem) (r : Int32) (M' : Mem), J62_184 n rec54 x3 x4 x5 x6 x7 M = some (r, M') → pm_ev pmT sc e 62 false (184, [some (.ref 83), u1, u2, some (.int x3), some (.int x4), some (.int x5), some (.int x6), some (.int x7), u8], [], 129, 17845, hp M) (some (.int r), 129, 17845, hp M') := by
  intro x3 x4 x5 x6 x7 u1 u2 u8 M r M' h
  unfold J62_184 at h
  refine pe_blk mm_62 2 (s' := (54, [some (.ref 83), u1, u2, some (.int x3), some (.int x4), some (.int x5), some (.int x6), some (.int (x7 + 1)), u8], [], _, _, _)) rfl ?_
  exact hr54 x3 x4 x5 x6 (x7 + 1) _ _ _ _ _ _ h
def J62_122 (n : Nat) (rec54 : Int32 → Int32 → Int32 → Int32 → Int32 → Mem → Option (Int32 × Mem)) (x3 : Int32) (x4 : Int32) (x5 : Int32) (x7 : Int32) (s0 : Int32) (M : Mem) : Option (Int32 × Mem) :=
  J62_184 n rec54 x3 x4 x5 s0 x7 M
set_option maxRecDepth 100000 in
set_option maxHeartbeats 4000000 in
theorem J62_122_ev (sc : Option (Nat × (Nat → Int32))) (n : Nat)  (e : Nat) (he : 3 ≤ e) (rec54 : Int32 → Int32 → Int32 → Int32 → Int32 → Mem → Option (Int32 × Mem)) (hr54 : ∀ (x3 : Int32) (x4 : Int32) (x5 : Int32) (x6 : Int32) (x7 : Int32) (u1 : Option Value) (u2 : Option Value) (u8 : Option Value) (M : Mem) (r : Int32) (M' : Mem), rec54 x3 x4 x5 x6 x7 M = some (r, M') → pm_ev pmT sc e 62 false (54, [some (.ref 83), u1, u2, some (.int x3), some (.int x4), some (.int x5), some (.int x6), some (.int x7), u8], [], 129, 17845, hp M) (some (.int r), 129, 17845, hp M')) : ∀ (x3 : Int32) (x4 : Int32) (x5 : Int32) (x7 : Int32) (s0 : Int32) (u1 : Option Value) (u2 : Option Value) (u6 : Option Value) (u8 : Option Value) (M : Mem) (r : Int32) (M' : Mem), J62_122 n rec54 x3 x4 x5 x7 s0 M = some (r, M') → pm_ev pmT sc e 62 false (122, [some (.ref 83), u1, u2, some (.int x3), some (.int x4), some (.int x5), u6, some (.int x7), u8], [.int s0], 129, 17845, hp M) (some (.int r), 129, 17845, hp M') := by
  intro x3 x4 x5 x7 s0 u1 u2 u6 u8 M r M' h
  unfold J62_122 at h
  refine pe_blk mm_62 2 (s' := (184, [some (.ref 83), u1, u2, some (.int x3), some (.int x4), some (.int x5), some (.int s0), some (.int x7), u8], [], _, _, _)) rfl ?_
  exact J62_184_ev sc n e he rec54 hr54 x3 x4 x5 s0 x7 _ _ _ _ _ _ h
def J62_121 (n : Nat) (rec54 : Int32 → Int32 → Int32 → Int32 → Int32 → Mem → Option (Int32 × Mem)) (x3 : Int32) (x4 : Int32) (x5 : Int32) (x7 : Int32) (M : Mem) : Option (Int32 × Mem) :=
  J62_122 n rec54 x3 x4 x5 x7 0 M
set_option maxRecDepth 100000 in
set_option maxHeartbeats 4000000 in
theorem J62_121_ev (sc : Option (Nat × (Nat → Int32))) (n : Nat)  (e : Nat) (he : 3 ≤ e) (rec54 : Int32 → Int32 → Int32 → Int32 → Int32 → Mem → Option (Int32 × Mem)) (hr54 : ∀ (x3 : Int32) (x4 : Int32) (x5 : Int32) (x6 : Int32) (x7 : Int32) (u1 : Option Value) (u2 : Option Value) (u8 : Option Value) (M : Mem) (r : Int32) (M' : Mem), rec54 x3 x4 x5 x6 x7 M = some (r, M') → pm_ev pmT sc e 62 false (54, [some (.ref 83), u1, u2, some (.int x3), some (.int x4), some (.int x5), some (.int x6), some (.int x7), u8], [], 129, 17845, hp M) (some (.int r), 129, 17845, hp M')) : ∀ (x3 : Int32) (x4 : Int32) (x5 : Int32) (x7 : Int32) (u1 : Option Value) (u2 : Option Value) (u6 : Option Value) (u8 : Option Value) (M : Mem) (r : Int32) (M' : Mem), J62_121 n rec54 x3 x4 x5 x7 M = some (r, M') → pm_ev pmT sc e 62 false (121, [some (.ref 83), u1, u2, some (.int x3), some (.int x4), some (.int x5), u6, some (.int x7), u8], [], 129, 17845, hp M) (some (.int r), 129, 17845, hp M') := by
  intro x3 x4 x5 x7 u1 u2 u6 u8 M r M' h
  unfold J62_121 at h
  refine pe_blk mm_62 1 (s' := (122, [some (.ref 83), u1, u2, some (.int x3), some (.int x4), some (.int x5), u6, some (.int x7), u8], [.int 0], _, _, _)) rfl ?_
  exact J62_122_ev sc n e he rec54 hr54 x3 x4 x5 x7 0 _ _ _ _ _ _ _ h
def J62_150 (n : Nat) (rec54 : Int32 → Int32 → Int32 → Int32 → Int32 → Mem → Option (Int32 × Mem)) (x3 : Int32) (x4 : Int32) (x5 : Int32) (x7 : Int32) (s0 : Int32) (M : Mem) : Option (Int32 × Mem) :=
  J62_184 n rec54 x3 x4 x5 s0 x7 M
set_option maxRecDepth 100000 in
set_option maxHeartbeats 4000000 in
theorem J62_150_ev (sc : Option (Nat × (Nat → Int32))) (n : Nat)  (e : Nat) (he : 3 ≤ e) (rec54 : Int32 → Int32 → Int32 → Int32 → Int32 → Mem → Option (Int32 × Mem)) (hr54 : ∀ (x3 : Int32) (x4 : Int32) (x5 : Int32) (x6 : Int32) (x7 : Int32) (u1 : Option Value) (u2 : Option Value) (u8 : Option Value) (M : Mem) (r : Int32) (M' : Mem), rec54 x3 x4 x5 x6 x7 M = some (r, M') → pm_ev pmT sc e 62 false (54, [some (.ref 83), u1, u2, some (.int x3), some (.int x4), some (.int x5), some (.int x6), some (.int x7), u8], [], 129, 17845, hp M) (some (.int r), 129, 17845, hp M')) : ∀ (x3 : Int32) (x4 : Int32) (x5 : Int32) (x7 : Int32) (s0 : Int32) (u1 : Option Value) (u2 : Option Value) (u6 : Option Value) (u8 : Option Value) (M : Mem) (r : Int32) (M' : Mem), J62_150 n rec54 x3 x4 x5 x7 s0 M = some (r, M') → pm_ev pmT sc e 62 false (150, [some (.ref 83), u1, u2, some (.int x3), some (.int x4), some (.int x5), u6, some (.int x7), u8], [.int s0], 129, 17845, hp M) (some (.int r), 129, 17845, hp M') := by
  intro x3 x4 x5 x7 s0 u1 u2 u6 u8 M r M' h
  unfold J62_150 at h
  refine pe_blk mm_62 2 (s' := (184, [some (.ref 83), u1, u2, some (.int x3), some (.int x4), some (.int x5), some (.int s0), some (.int x7), u8], [], _, _, _)) rfl ?_
  exact J62_184_ev sc n e he rec54 hr54 x3 x4 x5 s0 x7 _ _ _ _ _ _ h
def J62_179 (n : Nat) (rec54 : Int32 → Int32 → Int32 → Int32 → Int32 → Mem → Option (Int32 × Mem)) (x3 : Int32) (x4 : Int32) (x7 : Int32) (s0 : Int32) (M : Mem) : Option (Int32 × Mem) :=
  J62_184 n rec54 x3 x4 1 s0 x7 M
set_option maxRecDepth 100000 in
set_option maxHeartbeats 4000000 in
theorem J62_179_ev (sc : Option (Nat × (Nat → Int32))) (n : Nat)  (e : Nat) (he : 3 ≤ e) (rec54 : Int32 → Int32 → Int32 → Int32 → Int32 → Mem → Option (Int32 × Mem)) (hr54 : ∀ (x3 : Int32) (x4 : Int32) (x5 : Int32) (x6 : Int32) (x7 : Int32) (u1 : Option Value) (u2 : Option Value) (u8 : Option Value) (M : Mem) (r : Int32) (M' : Mem), rec54 x3 x4 x5 x6 x7 M = some (r, M') → pm_ev pmT sc e 62 false (54, [some (.ref 83), u1, u2, some (.int x3), some (.int x4), some (.int x5), some (.int x6), some (.int x7), u8], [], 129, 17845, hp M) (some (.int r), 129, 17845, hp M')) : ∀ (x3 : Int32) (x4 : Int32) (x7 : Int32) (s0 : Int32) (u1 : Option Value) (u2 : Option Value) (u5 : Option Value) (u6 : Option Value) (u8 : Option Value) (M : Mem) (r : Int32) (M' : Mem), J62_179 n rec54 x3 x4 x7 s0 M = some (r, M') → pm_ev pmT sc e 62 false (179, [some (.ref 83), u1, u2, some (.int x3), some (.int x4), u5, u6, some (.int x7), u8], [.int s0], 129, 17845, hp M) (some (.int r), 129, 17845, hp M') := by
  intro x3 x4 x7 s0 u1 u2 u5 u6 u8 M r M' h
  unfold J62_179 at h
  refine pe_blk mm_62 3 (s' := (184, [some (.ref 83), u1, u2, some (.int x3), some (.int x4), some (.int 1), some (.int s0), some (.int x7), u8], [], _, _, _)) rfl ?_
  exact J62_184_ev sc n e he rec54 hr54 x3 x4 1 s0 x7 _ _ _ _ _ _ h
def J62_174 (n : Nat) (rec54 : Int32 → Int32 → Int32 → Int32 → Int32 → Mem → Option (Int32 × Mem)) (x3 : Int32) (x4 : Int32) (x7 : Int32) (M : Mem) : Option (Int32 × Mem) :=
  J62_179 n rec54 x3 x4 x7 1 M
set_option maxRecDepth 100000 in
set_option maxHeartbeats 4000000 in
theorem J62_174_ev (sc : Option (Nat × (Nat → Int32))) (n : Nat)  (e : Nat) (he : 3 ≤ e) (rec54 : Int32 → Int32 → Int32 → Int32 → Int32 → Mem → Option (Int32 × Mem)) (hr54 : ∀ (x3 : Int32) (x4 : Int32) (x5 : Int32) (x6 : Int32) (x7 : Int32) (u1 : Option Value) (u2 : Option Value) (u8 : Option Value) (M : Mem) (r : Int32) (M' : Mem), rec54 x3 x4 x5 x6 x7 M = some (r, M') → pm_ev pmT sc e 62 false (54, [some (.ref 83), u1, u2, some (.int x3), some (.int x4), some (.int x5), some (.int x6), some (.int x7), u8], [], 129, 17845, hp M) (some (.int r), 129, 17845, hp M')) : ∀ (x3 : Int32) (x4 : Int32) (x7 : Int32) (u1 : Option Value) (u2 : Option Value) (u5 : Option Value) (u6 : Option Value) (u8 : Option Value) (M : Mem) (r : Int32) (M' : Mem), J62_174 n rec54 x3 x4 x7 M = some (r, M') → pm_ev pmT sc e 62 false (174, [some (.ref 83), u1, u2, some (.int x3), some (.int x4), u5, u6, some (.int x7), u8], [], 129, 17845, hp M) (some (.int r), 129, 17845, hp M') := by
  intro x3 x4 x7 u1 u2 u5 u6 u8 M r M' h
  unfold J62_174 at h
  refine pe_blk mm_62 2 (s' := (179, [some (.ref 83), u1, u2, some (.int x3), some (.int x4), u5, u6, some (.int x7), u8], [.int 1], _, _, _)) rfl ?_
  exact J62_179_ev sc n e he rec54 hr54 x3 x4 x7 1 _ _ _ _ _ _ _ _ h
def J62_178 (n : Nat) (rec54 : Int32 → Int32 → Int32 → Int32 → Int32 → Mem → Option (Int32 × Mem)) (x3 : Int32) (x4 : Int32) (x7 : Int32) (M : Mem) : Option (Int32 × Mem) :=
  J62_179 n rec54 x3 x4 x7 0 M
set_option maxRecDepth 100000 in
set_option maxHeartbeats 4000000 in
theorem J62_178_ev (sc : Option (Nat × (Nat → Int32))) (n : Nat)  (e : Nat) (he : 3 ≤ e) (rec54 : Int32 → Int32 → Int32 → Int32 → Int32 → Mem → Option (Int32 × Mem)) (hr54 : ∀ (x3 : Int32) (x4 : Int32) (x5 : Int32) (x6 : Int32) (x7 : Int32) (u1 : Option Value) (u2 : Option Value) (u8 : Option Value) (M : Mem) (r : Int32) (M' : Mem), rec54 x3 x4 x5 x6 x7 M = some (r, M') → pm_ev pmT sc e 62 false (54, [some (.ref 83), u1, u2, some (.int x3), some (.int x4), some (.int x5), some (.int x6), some (.int x7), u8], [], 129, 17845, hp M) (some (.int r), 129, 17845, hp M')) : ∀ (x3 : Int32) (x4 : Int32) (x7 : Int32) (u1 : Option Value) (u2 : Option Value) (u5 : Option Value) (u6 : Option Value) (u8 : Option Value) (M : Mem) (r : Int32) (M' : Mem), J62_178 n rec54 x3 x4 x7 M = some (r, M') → pm_ev pmT sc e 62 false (178, [some (.ref 83), u1, u2, some (.int x3), some (.int x4), u5, u6, some (.int x7), u8], [], 129, 17845, hp M) (some (.int r), 129, 17845, hp M') := by
  intro x3 x4 x7 u1 u2 u5 u6 u8 M r M' h
  unfold J62_178 at h
  refine pe_blk mm_62 1 (s' := (179, [some (.ref 83), u1, u2, some (.int x3), some (.int x4), u5, u6, some (.int x7), u8], [.int 0], _, _, _)) rfl ?_
  exact J62_179_ev sc n e he rec54 hr54 x3 x4 x7 0 _ _ _ _ _ _ _ _ h
def J62_92 (n : Nat) (rec54 : Int32 → Int32 → Int32 → Int32 → Int32 → Mem → Option (Int32 × Mem)) (x3 : Int32) (x4 : Int32) (x5 : Int32) (x7 : Int32) (x8 : Int32) (M : Mem) : Option (Int32 × Mem) :=
  if x8 = 40 then (if x5 = 0 then (J62_121 n rec54 x3 (x4 + 1) x5 x7 M) else (if 6 < (x4 + 1) then (J62_121 n rec54 x3 (x4 + 1) x5 x7 M) else (J62_122 n rec54 x3 (x4 + 1) x5 x7 1 M))) else (if x8 = 41 then (if x5 = 0 then (J62_150 n rec54 x3 (x4 - 1) x5 x7 1 M) else (J62_150 n rec54 x3 (x4 - 1) x5 x7 0 M)) else (if x5 = 0 then (if x8 = 43 then (J62_174 n rec54 x3 x4 x7 M) else (if x8 = 42 then (J62_174 n rec54 x3 x4 x7 M) else (J62_178 n rec54 x3 x4 x7 M))) else (J62_178 n rec54 x3 x4 x7 M)))
set_option maxRecDepth 100000 in
set_option maxHeartbeats 4000000 in
theorem J62_92_ev (sc : Option (Nat × (Nat → Int32))) (n : Nat)  (e : Nat) (he : 3 ≤ e) (rec54 : Int32 → Int32 → Int32 → Int32 → Int32 → Mem → Option (Int32 × Mem)) (hr54 : ∀ (x3 : Int32) (x4 : Int32) (x5 : Int32) (x6 : Int32) (x7 : Int32) (u1 : Option Value) (u2 : Option Value) (u8 : Option Value) (M : Mem) (r : Int32) (M' : Mem), rec54 x3 x4 x5 x6 x7 M = some (r, M') → pm_ev pmT sc e 62 false (54, [some (.ref 83), u1, u2, some (.int x3), some (.int x4), some (.int x5), some (.int x6), some (.int x7), u8], [], 129, 17845, hp M) (some (.int r), 129, 17845, hp M')) : ∀ (x3 : Int32) (x4 : Int32) (x5 : Int32) (x7 : Int32) (x8 : Int32) (u1 : Option Value) (u2 : Option Value) (u6 : Option Value) (M : Mem) (r : Int32) (M' : Mem), J62_92 n rec54 x3 x4 x5 x7 x8 M = some (r, M') → pm_ev pmT sc e 62 false (92, [some (.ref 83), u1, u2, some (.int x3), some (.int x4), some (.int x5), u6, some (.int x7), some (.int x8)], [], 129, 17845, hp M) (some (.int r), 129, 17845, hp M') := by
  intro x3 x4 x5 x7 x8 u1 u2 u6 M r M' h
  unfold J62_92 at h
  refine pe_blk mm_62 2 (s' := (96, [some (.ref 83), u1, u2, some (.int x3), some (.int x4), some (.int x5), u6, some (.int x7), some (.int x8)], [.int 40, .int x8], _, _, _)) rfl ?_
  by_cases q14 : x8 = 40
  · rw [if_pos q14] at h
    refine pe_blk mm_62 1 (s' := (if x8 = 40 then 99 else 127, [some (.ref 83), u1, u2, some (.int x3), some (.int x4), some (.int x5), u6, some (.int x7), some (.int x8)], [], _, _, _)) rfl ?_
    rw [if_pos q14]
    refine pe_blk mm_62 5 (s' := (107, [some (.ref 83), u1, u2, some (.int x3), some (.int (x4 + 1)), some (.int x5), u6, some (.int x7), some (.int x8)], [.int x5], _, _, _)) rfl ?_
    by_cases q15 : x5 = 0
    · rw [if_pos q15] at h
      refine pe_blk mm_62 1 (s' := (if x5 = 0 then 121 else 110, [some (.ref 83), u1, u2, some (.int x3), some (.int (x4 + 1)), some (.int x5), u6, some (.int x7), some (.int x8)], [], _, _, _)) rfl ?_
      rw [if_pos q15]
      exact J62_121_ev sc n e he rec54 hr54 x3 (x4 + 1) x5 x7 _ _ _ _ _ _ _ h
    · rw [if_neg q15] at h
      refine pe_blk mm_62 1 (s' := (if x5 = 0 then 121 else 110, [some (.ref 83), u1, u2, some (.int x3), some (.int (x4 + 1)), some (.int x5), u6, some (.int x7), some (.int x8)], [], _, _, _)) rfl ?_
      rw [if_neg q15]
      refine pe_blk mm_62 2 (s' := (114, [some (.ref 83), u1, u2, some (.int x3), some (.int (x4 + 1)), some (.int x5), u6, some (.int x7), some (.int x8)], [.int 6, .int (x4 + 1)], _, _, _)) rfl ?_
      by_cases q16 : 6 < (x4 + 1)
      · rw [if_pos q16] at h
        refine pe_blk mm_62 1 (s' := (if 6 < (x4 + 1) then 121 else 117, [some (.ref 83), u1, u2, some (.int x3), some (.int (x4 + 1)), some (.int x5), u6, some (.int x7), some (.int x8)], [], _, _, _)) rfl ?_
        rw [if_pos q16]
        exact J62_121_ev sc n e he rec54 hr54 x3 (x4 + 1) x5 x7 _ _ _ _ _ _ _ h
      · rw [if_neg q16] at h
        refine pe_blk mm_62 1 (s' := (if 6 < (x4 + 1) then 121 else 117, [some (.ref 83), u1, u2, some (.int x3), some (.int (x4 + 1)), some (.int x5), u6, some (.int x7), some (.int x8)], [], _, _, _)) rfl ?_
        rw [if_neg q16]
        refine pe_blk mm_62 2 (s' := (122, [some (.ref 83), u1, u2, some (.int x3), some (.int (x4 + 1)), some (.int x5), u6, some (.int x7), some (.int x8)], [.int 1], _, _, _)) rfl ?_
        exact J62_122_ev sc n e he rec54 hr54 x3 (x4 + 1) x5 x7 1 _ _ _ _ _ _ _ h
  · rw [if_neg q14] at h
    refine pe_blk mm_62 1 (s' := (if x8 = 40 then 99 else 127, [some (.ref 83), u1, u2, some (.int x3), some (.int x4), some (.int x5), u6, some (.int x7), some (.int x8)], [], _, _, _)) rfl ?_
    rw [if_neg q14]
    refine pe_blk mm_62 2 (s' := (131, [some (.ref 83), u1, u2, some (.int x3), some (.int x4), some (.int x5), u6, some (.int x7), some (.int x8)], [.int 41, .int x8], _, _, _)) rfl ?_
    by_cases q17 : x8 = 41
    · rw [if_pos q17] at h
      refine pe_blk mm_62 1 (s' := (if x8 = 41 then 134 else 155, [some (.ref 83), u1, u2, some (.int x3), some (.int x4), some (.int x5), u6, some (.int x7), some (.int x8)], [], _, _, _)) rfl ?_
      rw [if_pos q17]
      refine pe_blk mm_62 5 (s' := (142, [some (.ref 83), u1, u2, some (.int x3), some (.int (x4 - 1)), some (.int x5), u6, some (.int x7), some (.int x8)], [.int x5], _, _, _)) rfl ?_
      by_cases q18 : x5 = 0
      · rw [if_pos q18] at h
        refine pe_blk mm_62 1 (s' := (if x5 = 0 then 145 else 149, [some (.ref 83), u1, u2, some (.int x3), some (.int (x4 - 1)), some (.int x5), u6, some (.int x7), some (.int x8)], [], _, _, _)) rfl ?_
        rw [if_pos q18]
        refine pe_blk mm_62 2 (s' := (150, [some (.ref 83), u1, u2, some (.int x3), some (.int (x4 - 1)), some (.int x5), u6, some (.int x7), some (.int x8)], [.int 1], _, _, _)) rfl ?_
        exact J62_150_ev sc n e he rec54 hr54 x3 (x4 - 1) x5 x7 1 _ _ _ _ _ _ _ h
      · rw [if_neg q18] at h
        refine pe_blk mm_62 1 (s' := (if x5 = 0 then 145 else 149, [some (.ref 83), u1, u2, some (.int x3), some (.int (x4 - 1)), some (.int x5), u6, some (.int x7), some (.int x8)], [], _, _, _)) rfl ?_
        rw [if_neg q18]
        refine pe_blk mm_62 1 (s' := (150, [some (.ref 83), u1, u2, some (.int x3), some (.int (x4 - 1)), some (.int x5), u6, some (.int x7), some (.int x8)], [.int 0], _, _, _)) rfl ?_
        exact J62_150_ev sc n e he rec54 hr54 x3 (x4 - 1) x5 x7 0 _ _ _ _ _ _ _ h
    · rw [if_neg q17] at h
      refine pe_blk mm_62 1 (s' := (if x8 = 41 then 134 else 155, [some (.ref 83), u1, u2, some (.int x3), some (.int x4), some (.int x5), u6, some (.int x7), some (.int x8)], [], _, _, _)) rfl ?_
      rw [if_neg q17]
      refine pe_blk mm_62 1 (s' := (157, [some (.ref 83), u1, u2, some (.int x3), some (.int x4), some (.int x5), u6, some (.int x7), some (.int x8)], [.int x5], _, _, _)) rfl ?_
      by_cases q19 : x5 = 0
      · rw [if_pos q19] at h
        refine pe_blk mm_62 1 (s' := (if x5 = 0 then 160 else 178, [some (.ref 83), u1, u2, some (.int x3), some (.int x4), some (.int x5), u6, some (.int x7), some (.int x8)], [], _, _, _)) rfl ?_
        rw [if_pos q19]
        refine pe_blk mm_62 2 (s' := (164, [some (.ref 83), u1, u2, some (.int x3), some (.int x4), some (.int x5), u6, some (.int x7), some (.int x8)], [.int 43, .int x8], _, _, _)) rfl ?_
        by_cases q20 : x8 = 43
        · rw [if_pos q20] at h
          refine pe_blk mm_62 1 (s' := (if x8 = 43 then 174 else 167, [some (.ref 83), u1, u2, some (.int x3), some (.int x4), some (.int x5), u6, some (.int x7), some (.int x8)], [], _, _, _)) rfl ?_
          rw [if_pos q20]
          exact J62_174_ev sc n e he rec54 hr54 x3 x4 x7 _ _ _ _ _ _ _ _ h
        · rw [if_neg q20] at h
          refine pe_blk mm_62 1 (s' := (if x8 = 43 then 174 else 167, [some (.ref 83), u1, u2, some (.int x3), some (.int x4), some (.int x5), u6, some (.int x7), some (.int x8)], [], _, _, _)) rfl ?_
          rw [if_neg q20]
          refine pe_blk mm_62 2 (s' := (171, [some (.ref 83), u1, u2, some (.int x3), some (.int x4), some (.int x5), u6, some (.int x7), some (.int x8)], [.int 42, .int x8], _, _, _)) rfl ?_
          by_cases q21 : x8 = 42
          · rw [if_pos q21] at h
            refine pe_blk mm_62 1 (s' := (if x8 = 42 then 174 else 178, [some (.ref 83), u1, u2, some (.int x3), some (.int x4), some (.int x5), u6, some (.int x7), some (.int x8)], [], _, _, _)) rfl ?_
            rw [if_pos q21]
            exact J62_174_ev sc n e he rec54 hr54 x3 x4 x7 _ _ _ _ _ _ _ _ h
          · rw [if_neg q21] at h
            refine pe_blk mm_62 1 (s' := (if x8 = 42 then 174 else 178, [some (.ref 83), u1, u2, some (.int x3), some (.int x4), some (.int x5), u6, some (.int x7), some (.int x8)], [], _, _, _)) rfl ?_
            rw [if_neg q21]
            exact J62_178_ev sc n e he rec54 hr54 x3 x4 x7 _ _ _ _ _ _ _ _ h
      · rw [if_neg q19] at h
        refine pe_blk mm_62 1 (s' := (if x5 = 0 then 160 else 178, [some (.ref 83), u1, u2, some (.int x3), some (.int x4), some (.int x5), u6, some (.int x7), some (.int x8)], [], _, _, _)) rfl ?_
        rw [if_neg q19]
        exact J62_178_ev sc n e he rec54 hr54 x3 x4 x7 _ _ _ _ _ _ _ _ h
def J62_82 (n : Nat) (rec54 : Int32 → Int32 → Int32 → Int32 → Int32 → Mem → Option (Int32 × Mem)) (x3 : Int32) (x4 : Int32) (x5 : Int32) (x7 : Int32) (M : Mem) : Option (Int32 × Mem) :=
  J62_184 n rec54 x3 x4 0 x5 x7 M
set_option maxRecDepth 100000 in
set_option maxHeartbeats 4000000 in
theorem J62_82_ev (sc : Option (Nat × (Nat → Int32))) (n : Nat)  (e : Nat) (he : 3 ≤ e) (rec54 : Int32 → Int32 → Int32 → Int32 → Int32 → Mem → Option (Int32 × Mem)) (hr54 : ∀ (x3 : Int32) (x4 : Int32) (x5 : Int32) (x6 : Int32) (x7 : Int32) (u1 : Option Value) (u2 : Option Value) (u8 : Option Value) (M : Mem) (r : Int32) (M' : Mem), rec54 x3 x4 x5 x6 x7 M = some (r, M') → pm_ev pmT sc e 62 false (54, [some (.ref 83), u1, u2, some (.int x3), some (.int x4), some (.int x5), some (.int x6), some (.int x7), u8], [], 129, 17845, hp M) (some (.int r), 129, 17845, hp M')) : ∀ (x3 : Int32) (x4 : Int32) (x5 : Int32) (x7 : Int32) (u1 : Option Value) (u2 : Option Value) (u6 : Option Value) (u8 : Option Value) (M : Mem) (r : Int32) (M' : Mem), J62_82 n rec54 x3 x4 x5 x7 M = some (r, M') → pm_ev pmT sc e 62 false (82, [some (.ref 83), u1, u2, some (.int x3), some (.int x4), some (.int x5), u6, some (.int x7), u8], [], 129, 17845, hp M) (some (.int r), 129, 17845, hp M') := by
  intro x3 x4 x5 x7 u1 u2 u6 u8 M r M' h
  unfold J62_82 at h
  refine pe_blk mm_62 5 (s' := (184, [some (.ref 83), u1, u2, some (.int x3), some (.int x4), some (.int 0), some (.int x5), some (.int x7), u8], [], _, _, _)) rfl ?_
  exact J62_184_ev sc n e he rec54 hr54 x3 x4 0 x5 x7 _ _ _ _ _ _ h
def L62_54 (n : Nat) : Nat → Int32 → Int32 → Int32 → Int32 → Int32 → Mem → Option (Int32 × Mem)
  | 0, _, _, _, _, _, _ => none
  | k + 1, x3, x4, x5, x6, x7, M => if x3 < x7 then (J62_190 n x3 x6 M) else (if x6 = 0 then (J62_190 n x3 x6 M) else (if x7 < 0 ∨ 320 ≤ (x7 : Int32).toNatClampNeg then none else (if (M.1 105 (x7 : Int32).toNatClampNeg) < 300 then (J62_92 n (L62_54 n k) x3 x4 x5 x7 (M.1 105 (x7 : Int32).toNatClampNeg) M) else (J62_82 n (L62_54 n k) x3 x4 x5 x7 M))))
set_option maxRecDepth 100000 in
set_option maxHeartbeats 4000000 in
theorem L62_54_ev (sc : Option (Nat × (Nat → Int32))) (n : Nat)  (e : Nat) (he : 3 ≤ e) : ∀ k : Nat, ∀ (x3 : Int32) (x4 : Int32) (x5 : Int32) (x6 : Int32) (x7 : Int32) (u1 : Option Value) (u2 : Option Value) (u8 : Option Value) (M : Mem) (r : Int32) (M' : Mem), L62_54 n k x3 x4 x5 x6 x7 M = some (r, M') → pm_ev pmT sc e 62 false (54, [some (.ref 83), u1, u2, some (.int x3), some (.int x4), some (.int x5), some (.int x6), some (.int x7), u8], [], 129, 17845, hp M) (some (.int r), 129, 17845, hp M') := by
  intro k
  induction k with
  | zero => intro x3 x4 x5 x6 x7 u1 u2 u8 M r M' h; cases h
  | succ k hr54 =>
    intro x3 x4 x5 x6 x7 u1 u2 u8 M r M' h
    rw [L62_54] at h
    refine pe_blk mm_62 2 (s' := (57, [some (.ref 83), u1, u2, some (.int x3), some (.int x4), some (.int x5), some (.int x6), some (.int x7), u8], [.int x3, .int x7], _, _, _)) rfl ?_
    by_cases q9 : x3 < x7
    · rw [if_pos q9] at h
      refine pe_blk mm_62 1 (s' := (if x3 < x7 then 190 else 60, [some (.ref 83), u1, u2, some (.int x3), some (.int x4), some (.int x5), some (.int x6), some (.int x7), u8], [], _, _, _)) rfl ?_
      rw [if_pos q9]
      exact J62_190_ev sc n e he x3 x6 _ _ _ _ _ _ _ _ _ _ h
    · rw [if_neg q9] at h
      refine pe_blk mm_62 1 (s' := (if x3 < x7 then 190 else 60, [some (.ref 83), u1, u2, some (.int x3), some (.int x4), some (.int x5), some (.int x6), some (.int x7), u8], [], _, _, _)) rfl ?_
      rw [if_neg q9]
      refine pe_blk mm_62 1 (s' := (62, [some (.ref 83), u1, u2, some (.int x3), some (.int x4), some (.int x5), some (.int x6), some (.int x7), u8], [.int x6], _, _, _)) rfl ?_
      by_cases q11 : x6 = 0
      · rw [if_pos q11] at h
        refine pe_blk mm_62 1 (s' := (if x6 = 0 then 190 else 65, [some (.ref 83), u1, u2, some (.int x3), some (.int x4), some (.int x5), some (.int x6), some (.int x7), u8], [], _, _, _)) rfl ?_
        rw [if_pos q11]
        exact J62_190_ev sc n e he x3 x6 _ _ _ _ _ _ _ _ _ _ h
      · rw [if_neg q11] at h
        refine pe_blk mm_62 1 (s' := (if x6 = 0 then 190 else 65, [some (.ref 83), u1, u2, some (.int x3), some (.int x4), some (.int x5), some (.int x6), some (.int x7), u8], [], _, _, _)) rfl ?_
        rw [if_neg q11]
        refine pe_blk mm_62 1 (s' := (66, [some (.ref 83), u1, u2, some (.int x3), some (.int x4), some (.int x5), some (.int x6), some (.int x7), u8], [.ref 83], _, _, _)) rfl ?_
        refine pe_get mm_62 rfl rfl rfl (by decide) rfl ?_
        refine pe_blk mm_62 1 (s' := (71, [some (.ref 83), u1, u2, some (.int x3), some (.int x4), some (.int x5), some (.int x6), some (.int x7), u8], [.int x7, .ref 105], _, _, _)) rfl ?_
        by_cases q12 : x7 < 0 ∨ 320 ≤ (x7 : Int32).toNatClampNeg
        · rw [if_pos q12] at h
          cases h
        · rw [if_neg q12] at h
          refine pe_iald (f := M.1 105) mm_62 rfl rfl (by decide) q12 ?_
          refine pe_blk mm_62 3 (s' := (79, [some (.ref 83), u1, u2, some (.int x3), some (.int x4), some (.int x5), some (.int x6), some (.int x7), some (.int (M.1 105 (x7 : Int32).toNatClampNeg))], [.int 300, .int (M.1 105 (x7 : Int32).toNatClampNeg)], _, _, _)) rfl ?_
          by_cases q13 : (M.1 105 (x7 : Int32).toNatClampNeg) < 300
          · rw [if_pos q13] at h
            refine pe_blk mm_62 1 (s' := (if (M.1 105 (x7 : Int32).toNatClampNeg) < 300 then 92 else 82, [some (.ref 83), u1, u2, some (.int x3), some (.int x4), some (.int x5), some (.int x6), some (.int x7), some (.int (M.1 105 (x7 : Int32).toNatClampNeg))], [], _, _, _)) rfl ?_
            rw [if_pos q13]
            exact J62_92_ev sc n e he (L62_54 n k) hr54 x3 x4 x5 x7 (M.1 105 (x7 : Int32).toNatClampNeg) _ _ _ _ _ _ h
          · rw [if_neg q13] at h
            refine pe_blk mm_62 1 (s' := (if (M.1 105 (x7 : Int32).toNatClampNeg) < 300 then 92 else 82, [some (.ref 83), u1, u2, some (.int x3), some (.int x4), some (.int x5), some (.int x6), some (.int x7), some (.int (M.1 105 (x7 : Int32).toNatClampNeg))], [], _, _, _)) rfl ?_
            rw [if_neg q13]
            exact J62_82_ev sc n e he (L62_54 n k) hr54 x3 x4 x5 x7 _ _ _ _ _ _ _ h
def J62_36 (n : Nat) (x1 : Int32) (M : Mem) : Option (Int32 × Mem) :=
  match F61 n x1 M with | some (v6, M7) => (L62_54 n n v6 0 1 1 x1 M7) | none => none
set_option maxRecDepth 100000 in
set_option maxHeartbeats 4000000 in
theorem J62_36_ev (sc : Option (Nat × (Nat → Int32))) (n : Nat)  (e : Nat) (he : 3 ≤ e) : ∀ (x1 : Int32) (u2 : Option Value) (u3 : Option Value) (u4 : Option Value) (u5 : Option Value) (u6 : Option Value) (u7 : Option Value) (u8 : Option Value) (M : Mem) (r : Int32) (M' : Mem), J62_36 n x1 M = some (r, M') → pm_ev pmT sc e 62 false (36, [some (.ref 83), some (.int x1), u2, u3, u4, u5, u6, u7, u8], [], 129, 17845, hp M) (some (.int r), 129, 17845, hp M') := by
  intro x1 u2 u3 u4 u5 u6 u7 u8 M r M' h
  unfold J62_36 at h
  refine pe_blk mm_62 2 (s' := (38, [some (.ref 83), some (.int x1), u2, u3, u4, u5, u6, u7, u8], [.int x1, .ref 83], _, _, _)) rfl ?_
  obtain ⟨e1, rfl⟩ : ∃ e1, e = e1 + 1 := ⟨e - 1, by omega⟩
  cases hc8 : F61 n x1 M with
  | none => rw [hc8] at h; cases h
  | some w =>
    obtain ⟨v6, M7⟩ := w
    rw [hc8] at h
    dsimp only at h
    refine pe_virt (al := [.int x1]) (a := 83) (L0 := [some (.ref 83), some (.int x1), none, none]) (r1 := (some (.int v6), 129, 17845, hp M7)) mm_62 rfl rfl rfl mm_61 rfl (by decide) (by decide) rfl (Nat.le_of_ble_eq_true rfl) (Nat.le_of_ble_eq_true rfl) rfl rfl (F61_ev sc n x1 _ e1 (by omega) _ _ hc8) ?_
    show pm_ev _ _ _ _ _ (41, [some (.ref 83), some (.int x1), u2, u3, u4, u5, u6, u7, u8], [.int v6], _, _, _) _
    refine pe_blk mm_62 9 (s' := (54, [some (.ref 83), some (.int x1), u2, some (.int v6), some (.int 0), some (.int 1), some (.int 1), some (.int x1), u8], [], _, _, _)) rfl ?_
    exact L62_54_ev sc n (e1 + 1) he n v6 0 1 1 x1 _ _ _ _ _ _ h
def J62_34 (n : Nat) (M : Mem) : Option (Int32 × Mem) :=
  some ((-1), M)
set_option maxRecDepth 100000 in
set_option maxHeartbeats 4000000 in
theorem J62_34_ev (sc : Option (Nat × (Nat → Int32))) (n : Nat)  (e : Nat) (he : 3 ≤ e) : ∀ (u0 : Option Value) (u1 : Option Value) (u2 : Option Value) (u3 : Option Value) (u4 : Option Value) (u5 : Option Value) (u6 : Option Value) (u7 : Option Value) (u8 : Option Value) (M : Mem) (r : Int32) (M' : Mem), J62_34 n  M = some (r, M') → pm_ev pmT sc e 62 false (34, [u0, u1, u2, u3, u4, u5, u6, u7, u8], [], 129, 17845, hp M) (some (.int r), 129, 17845, hp M') := by
  intro u0 u1 u2 u3 u4 u5 u6 u7 u8 M r M' h
  unfold J62_34 at h
  refine pe_blk mm_62 1 (s' := (35, [u0, u1, u2, u3, u4, u5, u6, u7, u8], [.int (-1)], _, _, _)) rfl ?_
  cases h
  exact pe_ret mm_62 rfl rfl
/-- ArmExpanderModel.operand -/
def F62 (n : Nat) (a0 : Int32) (a1 : Int32) (M : Mem) : Option (Int32 × Mem) :=
  if a0 < a1 then (if a0 < 0 ∨ 320 ≤ (a0 : Int32).toNatClampNeg then none else (if (M.1 105 (a0 : Int32).toNatClampNeg) < 300 then (if a0 < 0 ∨ 320 ≤ (a0 : Int32).toNatClampNeg then none else (if (M.1 105 (a0 : Int32).toNatClampNeg) = 40 then (J62_36 n a0 M) else (J62_34 n M))) else (some (a0 + 1, M)))) else (some ((-1), M))
set_option maxRecDepth 100000 in
set_option maxHeartbeats 4000000 in
theorem F62_ev (sc : Option (Nat × (Nat → Int32))) (n : Nat) (a0 : Int32) (a1 : Int32)  (M : Mem) (e : Nat) (he : 3 ≤ e) (r : Int32) (M' : Mem) (h : F62 n a0 a1 M = some (r, M')) : pm_ev pmT sc e 62 false (0, [some (.ref 83), some (.int a0), some (.int a1), none, none, none, none, none, none], [], 129, 17845, hp M) (some (.int r), 129, 17845, hp M') := by
  unfold F62 at h
  refine pe_blk mm_62 2 (s' := (2, [some (.ref 83), some (.int a0), some (.int a1), none, none, none, none, none, none], [.int a1, .int a0], _, _, _)) rfl ?_
  by_cases q1 : a0 < a1
  · rw [if_pos q1] at h
    refine pe_blk mm_62 1 (s' := (if a0 < a1 then 7 else 5, [some (.ref 83), some (.int a0), some (.int a1), none, none, none, none, none, none], [], _, _, _)) rfl ?_
    rw [if_pos q1]
    refine pe_blk mm_62 1 (s' := (8, [some (.ref 83), some (.int a0), some (.int a1), none, none, none, none, none, none], [.ref 83], _, _, _)) rfl ?_
    refine pe_get mm_62 rfl rfl rfl (by decide) rfl ?_
    refine pe_blk mm_62 1 (s' := (12, [some (.ref 83), some (.int a0), some (.int a1), none, none, none, none, none, none], [.int a0, .ref 105], _, _, _)) rfl ?_
    by_cases q2 : a0 < 0 ∨ 320 ≤ (a0 : Int32).toNatClampNeg
    · rw [if_pos q2] at h
      cases h
    · rw [if_neg q2] at h
      refine pe_iald (f := M.1 105) mm_62 rfl rfl (by decide) q2 ?_
      refine pe_blk mm_62 1 (s' := (16, [some (.ref 83), some (.int a0), some (.int a1), none, none, none, none, none, none], [.int 300, .int (M.1 105 (a0 : Int32).toNatClampNeg)], _, _, _)) rfl ?_
      by_cases q3 : (M.1 105 (a0 : Int32).toNatClampNeg) < 300
      · rw [if_pos q3] at h
        refine pe_blk mm_62 1 (s' := (if (M.1 105 (a0 : Int32).toNatClampNeg) < 300 then 23 else 19, [some (.ref 83), some (.int a0), some (.int a1), none, none, none, none, none, none], [], _, _, _)) rfl ?_
        rw [if_pos q3]
        refine pe_blk mm_62 1 (s' := (24, [some (.ref 83), some (.int a0), some (.int a1), none, none, none, none, none, none], [.ref 83], _, _, _)) rfl ?_
        refine pe_get mm_62 rfl rfl rfl (by decide) rfl ?_
        refine pe_blk mm_62 1 (s' := (28, [some (.ref 83), some (.int a0), some (.int a1), none, none, none, none, none, none], [.int a0, .ref 105], _, _, _)) rfl ?_
        by_cases q4 : a0 < 0 ∨ 320 ≤ (a0 : Int32).toNatClampNeg
        · rw [if_pos q4] at h
          cases h
        · rw [if_neg q4] at h
          refine pe_iald (f := M.1 105) mm_62 rfl rfl (by decide) q4 ?_
          refine pe_blk mm_62 1 (s' := (31, [some (.ref 83), some (.int a0), some (.int a1), none, none, none, none, none, none], [.int 40, .int (M.1 105 (a0 : Int32).toNatClampNeg)], _, _, _)) rfl ?_
          by_cases q5 : (M.1 105 (a0 : Int32).toNatClampNeg) = 40
          · rw [if_pos q5] at h
            refine pe_blk mm_62 1 (s' := (if (M.1 105 (a0 : Int32).toNatClampNeg) = 40 then 36 else 34, [some (.ref 83), some (.int a0), some (.int a1), none, none, none, none, none, none], [], _, _, _)) rfl ?_
            rw [if_pos q5]
            exact J62_36_ev sc n e he a0 _ _ _ _ _ _ _ _ _ _ h
          · rw [if_neg q5] at h
            refine pe_blk mm_62 1 (s' := (if (M.1 105 (a0 : Int32).toNatClampNeg) = 40 then 36 else 34, [some (.ref 83), some (.int a0), some (.int a1), none, none, none, none, none, none], [], _, _, _)) rfl ?_
            rw [if_neg q5]
            exact J62_34_ev sc n e he _ _ _ _ _ _ _ _ _ _ _ _ h
      · rw [if_neg q3] at h
        refine pe_blk mm_62 1 (s' := (if (M.1 105 (a0 : Int32).toNatClampNeg) < 300 then 23 else 19, [some (.ref 83), some (.int a0), some (.int a1), none, none, none, none, none, none], [], _, _, _)) rfl ?_
        rw [if_neg q3]
        refine pe_blk mm_62 3 (s' := (22, [some (.ref 83), some (.int a0), some (.int a1), none, none, none, none, none, none], [.int (a0 + 1)], _, _, _)) rfl ?_
        cases h
        exact pe_ret mm_62 rfl rfl
  · rw [if_neg q1] at h
    refine pe_blk mm_62 1 (s' := (if a0 < a1 then 7 else 5, [some (.ref 83), some (.int a0), some (.int a1), none, none, none, none, none, none], [], _, _, _)) rfl ?_
    rw [if_neg q1]
    refine pe_blk mm_62 1 (s' := (6, [some (.ref 83), some (.int a0), some (.int a1), none, none, none, none, none, none], [.int (-1)], _, _, _)) rfl ?_
    cases h
    exact pe_ret mm_62 rfl rfl
def J63_87 (n : Nat) (rec18 : Int32 → Int32 → Int32 → Mem → Option (Int32 × Mem)) (x2 : Int32) (x4 : Int32) (s0 : Int32) (M : Mem) : Option (Int32 × Mem) :=
  rec18 x2 s0 x4 M
set_option maxRecDepth 100000 in
set_option maxHeartbeats 4000000 in
theorem J63_87_ev (sc : Option (Nat × (Nat → Int32))) (n : Nat)  (e : Nat) (he : 4 ≤ e) (rec18 : Int32 → Int32 → Int32 → Mem → Option (Int32 × Mem)) (hr18 : ∀ (x2 : Int32) (x3 : Int32) (x4 : Int32) (u1 : Option Value) (u5 : Option Value) (M : Mem) (r : Int32) (M' : Mem), rec18 x2 x3 x4 M = some (r, M') → pm_ev pmT sc e 63 false (18, [some (.ref 83), u1, some (.int x2), some (.int x3), some (.int x4), u5], [], 129, 17845, hp M) (some (.int r), 129, 17845, hp M')) : ∀ (x2 : Int32) (x4 : Int32) (s0 : Int32) (u1 : Option Value) (u3 : Option Value) (u5 : Option Value) (M : Mem) (r : Int32) (M' : Mem), J63_87 n rec18 x2 x4 s0 M = some (r, M') → pm_ev pmT sc e 63 false (87, [some (.ref 83), u1, some (.int x2), u3, some (.int x4), u5], [.int s0], 129, 17845, hp M) (some (.int r), 129, 17845, hp M') := by
  intro x2 x4 s0 u1 u3 u5 M r M' h
  unfold J63_87 at h
  refine pe_blk mm_63 2 (s' := (18, [some (.ref 83), u1, some (.int x2), some (.int s0), some (.int x4), u5], [], _, _, _)) rfl ?_
  exact hr18 x2 s0 x4 _ _ _ _ _ h
def J63_74 (n : Nat) (rec18 : Int32 → Int32 → Int32 → Mem → Option (Int32 × Mem)) (x2 : Int32) (x3 : Int32) (x5 : Int32) (s0 : Int32) (M : Mem) : Option (Int32 × Mem) :=
  if s0 = 0 then (J63_87 n rec18 x2 s0 x3 M) else (J63_87 n rec18 x2 s0 x5 M)
set_option maxRecDepth 100000 in
set_option maxHeartbeats 4000000 in
theorem J63_74_ev (sc : Option (Nat × (Nat → Int32))) (n : Nat)  (e : Nat) (he : 4 ≤ e) (rec18 : Int32 → Int32 → Int32 → Mem → Option (Int32 × Mem)) (hr18 : ∀ (x2 : Int32) (x3 : Int32) (x4 : Int32) (u1 : Option Value) (u5 : Option Value) (M : Mem) (r : Int32) (M' : Mem), rec18 x2 x3 x4 M = some (r, M') → pm_ev pmT sc e 63 false (18, [some (.ref 83), u1, some (.int x2), some (.int x3), some (.int x4), u5], [], 129, 17845, hp M) (some (.int r), 129, 17845, hp M')) : ∀ (x2 : Int32) (x3 : Int32) (x5 : Int32) (s0 : Int32) (u1 : Option Value) (u4 : Option Value) (M : Mem) (r : Int32) (M' : Mem), J63_74 n rec18 x2 x3 x5 s0 M = some (r, M') → pm_ev pmT sc e 63 false (74, [some (.ref 83), u1, some (.int x2), some (.int x3), u4, some (.int x5)], [.int s0], 129, 17845, hp M) (some (.int r), 129, 17845, hp M') := by
  intro x2 x3 x5 s0 u1 u4 M r M' h
  unfold J63_74 at h
  refine pe_blk mm_63 2 (s' := (78, [some (.ref 83), u1, some (.int x2), some (.int x3), some (.int s0), some (.int x5)], [.int s0], _, _, _)) rfl ?_
  by_cases q8 : s0 = 0
  · rw [if_pos q8] at h
    refine pe_blk mm_63 1 (s' := (if s0 = 0 then 86 else 81, [some (.ref 83), u1, some (.int x2), some (.int x3), some (.int s0), some (.int x5)], [], _, _, _)) rfl ?_
    rw [if_pos q8]
    refine pe_blk mm_63 1 (s' := (87, [some (.ref 83), u1, some (.int x2), some (.int x3), some (.int s0), some (.int x5)], [.int x3], _, _, _)) rfl ?_
    exact J63_87_ev sc n e he rec18 hr18 x2 s0 x3 _ _ _ _ _ _ h
  · rw [if_neg q8] at h
    refine pe_blk mm_63 1 (s' := (if s0 = 0 then 86 else 81, [some (.ref 83), u1, some (.int x2), some (.int x3), some (.int s0), some (.int x5)], [], _, _, _)) rfl ?_
    rw [if_neg q8]
    refine pe_blk mm_63 2 (s' := (87, [some (.ref 83), u1, some (.int x2), some (.int x3), some (.int s0), some (.int x5)], [.int x5], _, _, _)) rfl ?_
    exact J63_87_ev sc n e he rec18 hr18 x2 s0 x5 _ _ _ _ _ _ h
def J63_62 (n : Nat) (rec18 : Int32 → Int32 → Int32 → Mem → Option (Int32 × Mem)) (x2 : Int32) (x3 : Int32) (s0 : Int32) (M : Mem) : Option (Int32 × Mem) :=
  if s0 < 0 then (J63_74 n rec18 x2 x3 s0 0 M) else (J63_74 n rec18 x2 x3 s0 1 M)
set_option maxRecDepth 100000 in
set_option maxHeartbeats 4000000 in
theorem J63_62_ev (sc : Option (Nat × (Nat → Int32))) (n : Nat)  (e : Nat) (he : 4 ≤ e) (rec18 : Int32 → Int32 → Int32 → Mem → Option (Int32 × Mem)) (hr18 : ∀ (x2 : Int32) (x3 : Int32) (x4 : Int32) (u1 : Option Value) (u5 : Option Value) (M : Mem) (r : Int32) (M' : Mem), rec18 x2 x3 x4 M = some (r, M') → pm_ev pmT sc e 63 false (18, [some (.ref 83), u1, some (.int x2), some (.int x3), some (.int x4), u5], [], 129, 17845, hp M) (some (.int r), 129, 17845, hp M')) : ∀ (x2 : Int32) (x3 : Int32) (s0 : Int32) (u1 : Option Value) (u4 : Option Value) (u5 : Option Value) (M : Mem) (r : Int32) (M' : Mem), J63_62 n rec18 x2 x3 s0 M = some (r, M') → pm_ev pmT sc e 63 false (62, [some (.ref 83), u1, some (.int x2), some (.int x3), u4, u5], [.int s0], 129, 17845, hp M) (some (.int r), 129, 17845, hp M') := by
  intro x2 x3 s0 u1 u4 u5 M r M' h
  unfold J63_62 at h
  refine pe_blk mm_63 2 (s' := (66, [some (.ref 83), u1, some (.int x2), some (.int x3), u4, some (.int s0)], [.int s0], _, _, _)) rfl ?_
  by_cases q7 : s0 < 0
  · rw [if_pos q7] at h
    refine pe_blk mm_63 1 (s' := (if s0 < 0 then 73 else 69, [some (.ref 83), u1, some (.int x2), some (.int x3), u4, some (.int s0)], [], _, _, _)) rfl ?_
    rw [if_pos q7]
    refine pe_blk mm_63 1 (s' := (74, [some (.ref 83), u1, some (.int x2), some (.int x3), u4, some (.int s0)], [.int 0], _, _, _)) rfl ?_
    exact J63_74_ev sc n e he rec18 hr18 x2 x3 s0 0 _ _ _ _ _ h
  · rw [if_neg q7] at h
    refine pe_blk mm_63 1 (s' := (if s0 < 0 then 73 else 69, [some (.ref 83), u1, some (.int x2), some (.int x3), u4, some (.int s0)], [], _, _, _)) rfl ?_
    rw [if_neg q7]
    refine pe_blk mm_63 2 (s' := (74, [some (.ref 83), u1, some (.int x2), some (.int x3), u4, some (.int s0)], [.int 1], _, _, _)) rfl ?_
    exact J63_74_ev sc n e he rec18 hr18 x2 x3 s0 1 _ _ _ _ _ h
def J63_61 (n : Nat) (rec18 : Int32 → Int32 → Int32 → Mem → Option (Int32 × Mem)) (x2 : Int32) (x3 : Int32) (M : Mem) : Option (Int32 × Mem) :=
  J63_62 n rec18 x2 x3 (-1) M
set_option maxRecDepth 100000 in
set_option maxHeartbeats 4000000 in
theorem J63_61_ev (sc : Option (Nat × (Nat → Int32))) (n : Nat)  (e : Nat) (he : 4 ≤ e) (rec18 : Int32 → Int32 → Int32 → Mem → Option (Int32 × Mem)) (hr18 : ∀ (x2 : Int32) (x3 : Int32) (x4 : Int32) (u1 : Option Value) (u5 : Option Value) (M : Mem) (r : Int32) (M' : Mem), rec18 x2 x3 x4 M = some (r, M') → pm_ev pmT sc e 63 false (18, [some (.ref 83), u1, some (.int x2), some (.int x3), some (.int x4), u5], [], 129, 17845, hp M) (some (.int r), 129, 17845, hp M')) : ∀ (x2 : Int32) (x3 : Int32) (u1 : Option Value) (u4 : Option Value) (u5 : Option Value) (M : Mem) (r : Int32) (M' : Mem), J63_61 n rec18 x2 x3 M = some (r, M') → pm_ev pmT sc e 63 false (61, [some (.ref 83), u1, some (.int x2), some (.int x3), u4, u5], [], 129, 17845, hp M) (some (.int r), 129, 17845, hp M') := by
  intro x2 x3 u1 u4 u5 M r M' h
  unfold J63_61 at h
  refine pe_blk mm_63 1 (s' := (62, [some (.ref 83), u1, some (.int x2), some (.int x3), u4, u5], [.int (-1)], _, _, _)) rfl ?_
  exact J63_62_ev sc n e he rec18 hr18 x2 x3 (-1) _ _ _ _ _ _ h
def J63_50 (n : Nat) (rec18 : Int32 → Int32 → Int32 → Mem → Option (Int32 × Mem)) (x2 : Int32) (x3 : Int32) (M : Mem) : Option (Int32 × Mem) :=
  match F62 n (x3 + 1) x2 M with | some (v11, M12) => (J63_62 n rec18 x2 x3 v11 M12) | none => none
set_option maxRecDepth 100000 in
set_option maxHeartbeats 4000000 in
theorem J63_50_ev (sc : Option (Nat × (Nat → Int32))) (n : Nat)  (e : Nat) (he : 4 ≤ e) (rec18 : Int32 → Int32 → Int32 → Mem → Option (Int32 × Mem)) (hr18 : ∀ (x2 : Int32) (x3 : Int32) (x4 : Int32) (u1 : Option Value) (u5 : Option Value) (M : Mem) (r : Int32) (M' : Mem), rec18 x2 x3 x4 M = some (r, M') → pm_ev pmT sc e 63 false (18, [some (.ref 83), u1, some (.int x2), some (.int x3), some (.int x4), u5], [], 129, 17845, hp M) (some (.int r), 129, 17845, hp M')) : ∀ (x2 : Int32) (x3 : Int32) (u1 : Option Value) (u4 : Option Value) (u5 : Option Value) (M : Mem) (r : Int32) (M' : Mem), J63_50 n rec18 x2 x3 M = some (r, M') → pm_ev pmT sc e 63 false (50, [some (.ref 83), u1, some (.int x2), some (.int x3), u4, u5], [], 129, 17845, hp M) (some (.int r), 129, 17845, hp M') := by
  intro x2 x3 u1 u4 u5 M r M' h
  unfold J63_50 at h
  refine pe_blk mm_63 5 (s' := (55, [some (.ref 83), u1, some (.int x2), some (.int x3), u4, u5], [.int x2, .int (x3 + 1), .ref 83], _, _, _)) rfl ?_
  obtain ⟨e1, rfl⟩ : ∃ e1, e = e1 + 1 := ⟨e - 1, by omega⟩
  cases hc13 : F62 n (x3 + 1) x2 M with
  | none => rw [hc13] at h; cases h
  | some w =>
    obtain ⟨v11, M12⟩ := w
    rw [hc13] at h
    dsimp only at h
    refine pe_virt (al := [.int x2, .int (x3 + 1)]) (a := 83) (L0 := [some (.ref 83), some (.int (x3 + 1)), some (.int x2), none, none, none, none, none, none]) (r1 := (some (.int v11), 129, 17845, hp M12)) mm_63 rfl rfl rfl mm_62 rfl (by decide) (by decide) rfl (Nat.le_of_ble_eq_true rfl) (Nat.le_of_ble_eq_true rfl) rfl rfl (F62_ev sc n (x3 + 1) x2 _ e1 (by omega) _ _ hc13) ?_
    show pm_ev _ _ _ _ _ (58, [some (.ref 83), u1, some (.int x2), some (.int x3), u4, u5], [.int v11], _, _, _) _
    refine pe_blk mm_63 1 (s' := (62, [some (.ref 83), u1, some (.int x2), some (.int x3), u4, u5], [.int v11], _, _, _)) rfl ?_
    exact J63_62_ev sc n (e1 + 1) he rec18 hr18 x2 x3 v11 _ _ _ _ _ _ h
def J63_39 (n : Nat) (rec18 : Int32 → Int32 → Int32 → Mem → Option (Int32 × Mem)) (x2 : Int32) (x3 : Int32) (M : Mem) : Option (Int32 × Mem) :=
  if x3 < 0 ∨ 320 ≤ (x3 : Int32).toNatClampNeg then none else (if (M.1 105 (x3 : Int32).toNatClampNeg) = 42 then (J63_50 n rec18 x2 x3 M) else (J63_61 n rec18 x2 x3 M))
set_option maxRecDepth 100000 in
set_option maxHeartbeats 4000000 in
theorem J63_39_ev (sc : Option (Nat × (Nat → Int32))) (n : Nat)  (e : Nat) (he : 4 ≤ e) (rec18 : Int32 → Int32 → Int32 → Mem → Option (Int32 × Mem)) (hr18 : ∀ (x2 : Int32) (x3 : Int32) (x4 : Int32) (u1 : Option Value) (u5 : Option Value) (M : Mem) (r : Int32) (M' : Mem), rec18 x2 x3 x4 M = some (r, M') → pm_ev pmT sc e 63 false (18, [some (.ref 83), u1, some (.int x2), some (.int x3), some (.int x4), u5], [], 129, 17845, hp M) (some (.int r), 129, 17845, hp M')) : ∀ (x2 : Int32) (x3 : Int32) (u1 : Option Value) (u4 : Option Value) (u5 : Option Value) (M : Mem) (r : Int32) (M' : Mem), J63_39 n rec18 x2 x3 M = some (r, M') → pm_ev pmT sc e 63 false (39, [some (.ref 83), u1, some (.int x2), some (.int x3), u4, u5], [], 129, 17845, hp M) (some (.int r), 129, 17845, hp M') := by
  intro x2 x3 u1 u4 u5 M r M' h
  unfold J63_39 at h
  refine pe_blk mm_63 1 (s' := (40, [some (.ref 83), u1, some (.int x2), some (.int x3), u4, u5], [.ref 83], _, _, _)) rfl ?_
  refine pe_get mm_63 rfl rfl rfl (by decide) rfl ?_
  refine pe_blk mm_63 1 (s' := (44, [some (.ref 83), u1, some (.int x2), some (.int x3), u4, u5], [.int x3, .ref 105], _, _, _)) rfl ?_
  by_cases q14 : x3 < 0 ∨ 320 ≤ (x3 : Int32).toNatClampNeg
  · rw [if_pos q14] at h
    cases h
  · rw [if_neg q14] at h
    refine pe_iald (f := M.1 105) mm_63 rfl rfl (by decide) q14 ?_
    refine pe_blk mm_63 1 (s' := (47, [some (.ref 83), u1, some (.int x2), some (.int x3), u4, u5], [.int 42, .int (M.1 105 (x3 : Int32).toNatClampNeg)], _, _, _)) rfl ?_
    by_cases q15 : (M.1 105 (x3 : Int32).toNatClampNeg) = 42
    · rw [if_pos q15] at h
      refine pe_blk mm_63 1 (s' := (if (M.1 105 (x3 : Int32).toNatClampNeg) = 42 then 50 else 61, [some (.ref 83), u1, some (.int x2), some (.int x3), u4, u5], [], _, _, _)) rfl ?_
      rw [if_pos q15]
      exact J63_50_ev sc n e he rec18 hr18 x2 x3 _ _ _ _ _ _ h
    · rw [if_neg q15] at h
      refine pe_blk mm_63 1 (s' := (if (M.1 105 (x3 : Int32).toNatClampNeg) = 42 then 50 else 61, [some (.ref 83), u1, some (.int x2), some (.int x3), u4, u5], [], _, _, _)) rfl ?_
      rw [if_neg q15]
      exact J63_61_ev sc n e he rec18 hr18 x2 x3 _ _ _ _ _ _ h
def L63_18 (n : Nat) : Nat → Int32 → Int32 → Int32 → Mem → Option (Int32 × Mem)
  | 0, _, _, _, _ => none
  | k + 1, x2, x3, x4, M => if x4 = 0 then (some (x3, M)) else (if x2 ≤ x3 then (J63_61 n (L63_18 n k) x2 x3 M) else (if x3 < 0 ∨ 320 ≤ (x3 : Int32).toNatClampNeg then none else (if (M.1 105 (x3 : Int32).toNatClampNeg) = 43 then (J63_50 n (L63_18 n k) x2 x3 M) else (J63_39 n (L63_18 n k) x2 x3 M))))
set_option maxRecDepth 100000 in
set_option maxHeartbeats 4000000 in
theorem L63_18_ev (sc : Option (Nat × (Nat → Int32))) (n : Nat)  (e : Nat) (he : 4 ≤ e) : ∀ k : Nat, ∀ (x2 : Int32) (x3 : Int32) (x4 : Int32) (u1 : Option Value) (u5 : Option Value) (M : Mem) (r : Int32) (M' : Mem), L63_18 n k x2 x3 x4 M = some (r, M') → pm_ev pmT sc e 63 false (18, [some (.ref 83), u1, some (.int x2), some (.int x3), some (.int x4), u5], [], 129, 17845, hp M) (some (.int r), 129, 17845, hp M') := by
  intro k
  induction k with
  | zero => intro x2 x3 x4 u1 u5 M r M' h; cases h
  | succ k hr18 =>
    intro x2 x3 x4 u1 u5 M r M' h
    rw [L63_18] at h
    refine pe_blk mm_63 1 (s' := (20, [some (.ref 83), u1, some (.int x2), some (.int x3), some (.int x4), u5], [.int x4], _, _, _)) rfl ?_
    by_cases q5 : x4 = 0
    · rw [if_pos q5] at h
      refine pe_blk mm_63 1 (s' := (if x4 = 0 then 91 else 23, [some (.ref 83), u1, some (.int x2), some (.int x3), some (.int x4), u5], [], _, _, _)) rfl ?_
      rw [if_pos q5]
      refine pe_blk mm_63 1 (s' := (92, [some (.ref 83), u1, some (.int x2), some (.int x3), some (.int x4), u5], [.int x3], _, _, _)) rfl ?_
      cases h
      exact pe_ret mm_63 rfl rfl
    · rw [if_neg q5] at h
      refine pe_blk mm_63 1 (s' := (if x4 = 0 then 91 else 23, [some (.ref 83), u1, some (.int x2), some (.int x3), some (.int x4), u5], [], _, _, _)) rfl ?_
      rw [if_neg q5]
      refine pe_blk mm_63 2 (s' := (25, [some (.ref 83), u1, some (.int x2), some (.int x3), some (.int x4), u5], [.int x2, .int x3], _, _, _)) rfl ?_
      by_cases q6 : x2 ≤ x3
      · rw [if_pos q6] at h
        refine pe_blk mm_63 1 (s' := (if x2 ≤ x3 then 61 else 28, [some (.ref 83), u1, some (.int x2), some (.int x3), some (.int x4), u5], [], _, _, _)) rfl ?_
        rw [if_pos q6]
        exact J63_61_ev sc n e he (L63_18 n k) hr18 x2 x3 _ _ _ _ _ _ h
      · rw [if_neg q6] at h
        refine pe_blk mm_63 1 (s' := (if x2 ≤ x3 then 61 else 28, [some (.ref 83), u1, some (.int x2), some (.int x3), some (.int x4), u5], [], _, _, _)) rfl ?_
        rw [if_neg q6]
        refine pe_blk mm_63 1 (s' := (29, [some (.ref 83), u1, some (.int x2), some (.int x3), some (.int x4), u5], [.ref 83], _, _, _)) rfl ?_
        refine pe_get mm_63 rfl rfl rfl (by decide) rfl ?_
        refine pe_blk mm_63 1 (s' := (33, [some (.ref 83), u1, some (.int x2), some (.int x3), some (.int x4), u5], [.int x3, .ref 105], _, _, _)) rfl ?_
        by_cases q9 : x3 < 0 ∨ 320 ≤ (x3 : Int32).toNatClampNeg
        · rw [if_pos q9] at h
          cases h
        · rw [if_neg q9] at h
          refine pe_iald (f := M.1 105) mm_63 rfl rfl (by decide) q9 ?_
          refine pe_blk mm_63 1 (s' := (36, [some (.ref 83), u1, some (.int x2), some (.int x3), some (.int x4), u5], [.int 43, .int (M.1 105 (x3 : Int32).toNatClampNeg)], _, _, _)) rfl ?_
          by_cases q10 : (M.1 105 (x3 : Int32).toNatClampNeg) = 43
          · rw [if_pos q10] at h
            refine pe_blk mm_63 1 (s' := (if (M.1 105 (x3 : Int32).toNatClampNeg) = 43 then 50 else 39, [some (.ref 83), u1, some (.int x2), some (.int x3), some (.int x4), u5], [], _, _, _)) rfl ?_
            rw [if_pos q10]
            exact J63_50_ev sc n e he (L63_18 n k) hr18 x2 x3 _ _ _ _ _ _ h
          · rw [if_neg q10] at h
            refine pe_blk mm_63 1 (s' := (if (M.1 105 (x3 : Int32).toNatClampNeg) = 43 then 50 else 39, [some (.ref 83), u1, some (.int x2), some (.int x3), some (.int x4), u5], [], _, _, _)) rfl ?_
            rw [if_neg q10]
            exact J63_39_ev sc n e he (L63_18 n k) hr18 x2 x3 _ _ _ _ _ _ h
def J63_16 (n : Nat) (x2 : Int32) (x3 : Int32) (s0 : Int32) (M : Mem) : Option (Int32 × Mem) :=
  L63_18 n n x2 x3 s0 M
set_option maxRecDepth 100000 in
set_option maxHeartbeats 4000000 in
theorem J63_16_ev (sc : Option (Nat × (Nat → Int32))) (n : Nat)  (e : Nat) (he : 4 ≤ e) : ∀ (x2 : Int32) (x3 : Int32) (s0 : Int32) (u1 : Option Value) (u4 : Option Value) (u5 : Option Value) (M : Mem) (r : Int32) (M' : Mem), J63_16 n x2 x3 s0 M = some (r, M') → pm_ev pmT sc e 63 false (16, [some (.ref 83), u1, some (.int x2), some (.int x3), u4, u5], [.int s0], 129, 17845, hp M) (some (.int r), 129, 17845, hp M') := by
  intro x2 x3 s0 u1 u4 u5 M r M' h
  unfold J63_16 at h
  refine pe_blk mm_63 1 (s' := (18, [some (.ref 83), u1, some (.int x2), some (.int x3), some (.int s0), u5], [], _, _, _)) rfl ?_
  exact L63_18_ev sc n e he n x2 x3 s0 _ _ _ _ _ h
/-- ArmExpanderModel.expression -/
def F63 (n : Nat) (a0 : Int32) (a1 : Int32) (M : Mem) : Option (Int32 × Mem) :=
  match F62 n a0 a1 M with | some (v1, M2) => (if v1 < 0 then (J63_16 n a1 v1 0 M2) else (J63_16 n a1 v1 1 M2)) | none => none
set_option maxRecDepth 100000 in
set_option maxHeartbeats 4000000 in
theorem F63_ev (sc : Option (Nat × (Nat → Int32))) (n : Nat) (a0 : Int32) (a1 : Int32)  (M : Mem) (e : Nat) (he : 4 ≤ e) (r : Int32) (M' : Mem) (h : F63 n a0 a1 M = some (r, M')) : pm_ev pmT sc e 63 false (0, [some (.ref 83), some (.int a0), some (.int a1), none, none, none], [], 129, 17845, hp M) (some (.int r), 129, 17845, hp M') := by
  unfold F63 at h
  refine pe_blk mm_63 3 (s' := (3, [some (.ref 83), some (.int a0), some (.int a1), none, none, none], [.int a1, .int a0, .ref 83], _, _, _)) rfl ?_
  obtain ⟨e1, rfl⟩ : ∃ e1, e = e1 + 1 := ⟨e - 1, by omega⟩
  cases hc3 : F62 n a0 a1 M with
  | none => rw [hc3] at h; cases h
  | some w =>
    obtain ⟨v1, M2⟩ := w
    rw [hc3] at h
    dsimp only at h
    refine pe_virt (al := [.int a1, .int a0]) (a := 83) (L0 := [some (.ref 83), some (.int a0), some (.int a1), none, none, none, none, none, none]) (r1 := (some (.int v1), 129, 17845, hp M2)) mm_63 rfl rfl rfl mm_62 rfl (by decide) (by decide) rfl (Nat.le_of_ble_eq_true rfl) (Nat.le_of_ble_eq_true rfl) rfl rfl (F62_ev sc n a0 a1 _ e1 (by omega) _ _ hc3) ?_
    show pm_ev _ _ _ _ _ (6, [some (.ref 83), some (.int a0), some (.int a1), none, none, none], [.int v1], _, _, _) _
    refine pe_blk mm_63 2 (s' := (8, [some (.ref 83), some (.int a0), some (.int a1), some (.int v1), none, none], [.int v1], _, _, _)) rfl ?_
    by_cases q4 : v1 < 0
    · rw [if_pos q4] at h
      refine pe_blk mm_63 1 (s' := (if v1 < 0 then 15 else 11, [some (.ref 83), some (.int a0), some (.int a1), some (.int v1), none, none], [], _, _, _)) rfl ?_
      rw [if_pos q4]
      refine pe_blk mm_63 1 (s' := (16, [some (.ref 83), some (.int a0), some (.int a1), some (.int v1), none, none], [.int 0], _, _, _)) rfl ?_
      exact J63_16_ev sc n (e1 + 1) he a1 v1 0 _ _ _ _ _ _ h
    · rw [if_neg q4] at h
      refine pe_blk mm_63 1 (s' := (if v1 < 0 then 15 else 11, [some (.ref 83), some (.int a0), some (.int a1), some (.int v1), none, none], [], _, _, _)) rfl ?_
      rw [if_neg q4]
      refine pe_blk mm_63 2 (s' := (16, [some (.ref 83), some (.int a0), some (.int a1), some (.int v1), none, none], [.int 1], _, _, _)) rfl ?_
      exact J63_16_ev sc n (e1 + 1) he a1 v1 1 _ _ _ _ _ _ h
def J64_17 (n : Nat) (s0 : Int32) (M : Mem) : Option (Int32 × Mem) :=
  if s0 = 0 ∨ s0 = 1 then some (s0, M) else none
set_option maxRecDepth 100000 in
set_option maxHeartbeats 4000000 in
theorem J64_17_ev (sc : Option (Nat × (Nat → Int32))) (n : Nat)  (e : Nat) (he : 2 ≤ e) : ∀ (s0 : Int32) (u0 : Option Value) (u1 : Option Value) (u2 : Option Value) (M : Mem) (r : Int32) (M' : Mem), J64_17 n s0 M = some (r, M') → pm_ev pmT sc e 64 false (17, [u0, u1, u2], [.int s0], 129, 17845, hp M) (some (.int r), 129, 17845, hp M') := by
  intro s0 u0 u1 u2 M r M' h
  unfold J64_17 at h
  by_cases q3 : s0 = 0 ∨ s0 = 1
  · rw [if_pos q3] at h
    cases h
    exact pe_ret mm_64 rfl (if_pos q3)
  · rw [if_neg q3] at h
    cases h
def J64_42 (n : Nat) (s0 : Int32) (M : Mem) : Option (Int32 × Mem) :=
  if s0 = 0 ∨ s0 = 1 then some (s0, M) else none
set_option maxRecDepth 100000 in
set_option maxHeartbeats 4000000 in
theorem J64_42_ev (sc : Option (Nat × (Nat → Int32))) (n : Nat)  (e : Nat) (he : 2 ≤ e) : ∀ (s0 : Int32) (u0 : Option Value) (u1 : Option Value) (u2 : Option Value) (M : Mem) (r : Int32) (M' : Mem), J64_42 n s0 M = some (r, M') → pm_ev pmT sc e 64 false (42, [u0, u1, u2], [.int s0], 129, 17845, hp M) (some (.int r), 129, 17845, hp M') := by
  intro s0 u0 u1 u2 M r M' h
  unfold J64_42 at h
  by_cases q6 : s0 = 0 ∨ s0 = 1
  · rw [if_pos q6] at h
    cases h
    exact pe_ret mm_64 rfl (if_pos q6)
  · rw [if_neg q6] at h
    cases h
def J64_41 (n : Nat) (M : Mem) : Option (Int32 × Mem) :=
  J64_42 n 0 M
set_option maxRecDepth 100000 in
set_option maxHeartbeats 4000000 in
theorem J64_41_ev (sc : Option (Nat × (Nat → Int32))) (n : Nat)  (e : Nat) (he : 2 ≤ e) : ∀ (u0 : Option Value) (u1 : Option Value) (u2 : Option Value) (M : Mem) (r : Int32) (M' : Mem), J64_41 n  M = some (r, M') → pm_ev pmT sc e 64 false (41, [u0, u1, u2], [], 129, 17845, hp M) (some (.int r), 129, 17845, hp M') := by
  intro u0 u1 u2 M r M' h
  unfold J64_41 at h
  refine pe_blk mm_64 1 (s' := (42, [u0, u1, u2], [.int 0], _, _, _)) rfl ?_
  exact J64_42_ev sc n e he 0 _ _ _ _ _ _ h
def J64_81 (n : Nat) (s0 : Int32) (M : Mem) : Option (Int32 × Mem) :=
  if s0 = 0 ∨ s0 = 1 then some (s0, M) else none
set_option maxRecDepth 100000 in
set_option maxHeartbeats 4000000 in
theorem J64_81_ev (sc : Option (Nat × (Nat → Int32))) (n : Nat)  (e : Nat) (he : 2 ≤ e) : ∀ (s0 : Int32) (u0 : Option Value) (u1 : Option Value) (u2 : Option Value) (M : Mem) (r : Int32) (M' : Mem), J64_81 n s0 M = some (r, M') → pm_ev pmT sc e 64 false (81, [u0, u1, u2], [.int s0], 129, 17845, hp M) (some (.int r), 129, 17845, hp M') := by
  intro s0 u0 u1 u2 M r M' h
  unfold J64_81 at h
  by_cases q13 : s0 = 0 ∨ s0 = 1
  · rw [if_pos q13] at h
    cases h
    exact pe_ret mm_64 rfl (if_pos q13)
  · rw [if_neg q13] at h
    cases h
def J64_55 (n : Nat) (M : Mem) : Option (Int32 × Mem) :=
  J64_81 n 1 M
set_option maxRecDepth 100000 in
set_option maxHeartbeats 4000000 in
theorem J64_55_ev (sc : Option (Nat × (Nat → Int32))) (n : Nat)  (e : Nat) (he : 2 ≤ e) : ∀ (u0 : Option Value) (u1 : Option Value) (u2 : Option Value) (M : Mem) (r : Int32) (M' : Mem), J64_55 n  M = some (r, M') → pm_ev pmT sc e 64 false (55, [u0, u1, u2], [], 129, 17845, hp M) (some (.int r), 129, 17845, hp M') := by
  intro u0 u1 u2 M r M' h
  unfold J64_55 at h
  refine pe_blk mm_64 2 (s' := (81, [u0, u1, u2], [.int 1], _, _, _)) rfl ?_
  exact J64_81_ev sc n e he 1 _ _ _ _ _ _ h
def J64_59 (n : Nat) (M : Mem) : Option (Int32 × Mem) :=
  J64_81 n 0 M
set_option maxRecDepth 100000 in
set_option maxHeartbeats 4000000 in
theorem J64_59_ev (sc : Option (Nat × (Nat → Int32))) (n : Nat)  (e : Nat) (he : 2 ≤ e) : ∀ (u0 : Option Value) (u1 : Option Value) (u2 : Option Value) (M : Mem) (r : Int32) (M' : Mem), J64_59 n  M = some (r, M') → pm_ev pmT sc e 64 false (59, [u0, u1, u2], [], 129, 17845, hp M) (some (.int r), 129, 17845, hp M') := by
  intro u0 u1 u2 M r M' h
  unfold J64_59 at h
  refine pe_blk mm_64 2 (s' := (81, [u0, u1, u2], [.int 0], _, _, _)) rfl ?_
  exact J64_81_ev sc n e he 0 _ _ _ _ _ _ h
def J64_76 (n : Nat) (M : Mem) : Option (Int32 × Mem) :=
  J64_81 n 1 M
set_option maxRecDepth 100000 in
set_option maxHeartbeats 4000000 in
theorem J64_76_ev (sc : Option (Nat × (Nat → Int32))) (n : Nat)  (e : Nat) (he : 2 ≤ e) : ∀ (u0 : Option Value) (u1 : Option Value) (u2 : Option Value) (M : Mem) (r : Int32) (M' : Mem), J64_76 n  M = some (r, M') → pm_ev pmT sc e 64 false (76, [u0, u1, u2], [], 129, 17845, hp M) (some (.int r), 129, 17845, hp M') := by
  intro u0 u1 u2 M r M' h
  unfold J64_76 at h
  refine pe_blk mm_64 2 (s' := (81, [u0, u1, u2], [.int 1], _, _, _)) rfl ?_
  exact J64_81_ev sc n e he 1 _ _ _ _ _ _ h
def J64_80 (n : Nat) (M : Mem) : Option (Int32 × Mem) :=
  J64_81 n 0 M
set_option maxRecDepth 100000 in
set_option maxHeartbeats 4000000 in
theorem J64_80_ev (sc : Option (Nat × (Nat → Int32))) (n : Nat)  (e : Nat) (he : 2 ≤ e) : ∀ (u0 : Option Value) (u1 : Option Value) (u2 : Option Value) (M : Mem) (r : Int32) (M' : Mem), J64_80 n  M = some (r, M') → pm_ev pmT sc e 64 false (80, [u0, u1, u2], [], 129, 17845, hp M) (some (.int r), 129, 17845, hp M') := by
  intro u0 u1 u2 M r M' h
  unfold J64_80 at h
  refine pe_blk mm_64 1 (s' := (81, [u0, u1, u2], [.int 0], _, _, _)) rfl ?_
  exact J64_81_ev sc n e he 0 _ _ _ _ _ _ h
/-- ArmExpanderModel.begins -/
def F64 (n : Nat) (a0 : Int32) (a1 : Int32) (M : Mem) : Option (Int32 × Mem) :=
  if a0 = 1 then (if a1 < 1000 then (J64_17 n 0 M) else (J64_17 n 1 M)) else (if a0 = 2 then (if a1 < 300 then (J64_41 n M) else (if 1000 ≤ a1 then (J64_41 n M) else (J64_42 n 1 M))) else (if a0 = 3 then (match F22 n a1 M with | some (v9, M10) => (if v9 = 0 then (J64_55 n M10) else (J64_59 n M10)) | none => none) else (if 300 ≤ a1 then (J64_76 n M) else (if a1 = 40 then (J64_76 n M) else (J64_80 n M)))))
set_option maxRecDepth 100000 in
set_option maxHeartbeats 4000000 in
theorem F64_ev (sc : Option (Nat × (Nat → Int32))) (n : Nat) (a0 : Int32) (a1 : Int32)  (M : Mem) (e : Nat) (he : 2 ≤ e) (r : Int32) (M' : Mem) (h : F64 n a0 a1 M = some (r, M')) : pm_ev pmT sc e 64 false (0, [some (.ref 83), some (.int a0), some (.int a1)], [], 129, 17845, hp M) (some (.int r), 129, 17845, hp M') := by
  unfold F64 at h
  refine pe_blk mm_64 2 (s' := (2, [some (.ref 83), some (.int a0), some (.int a1)], [.int 1, .int a0], _, _, _)) rfl ?_
  by_cases q1 : a0 = 1
  · rw [if_pos q1] at h
    refine pe_blk mm_64 1 (s' := (if a0 = 1 then 5 else 18, [some (.ref 83), some (.int a0), some (.int a1)], [], _, _, _)) rfl ?_
    rw [if_pos q1]
    refine pe_blk mm_64 2 (s' := (9, [some (.ref 83), some (.int a0), some (.int a1)], [.int 1000, .int a1], _, _, _)) rfl ?_
    by_cases q2 : a1 < 1000
    · rw [if_pos q2] at h
      refine pe_blk mm_64 1 (s' := (if a1 < 1000 then 16 else 12, [some (.ref 83), some (.int a0), some (.int a1)], [], _, _, _)) rfl ?_
      rw [if_pos q2]
      refine pe_blk mm_64 1 (s' := (17, [some (.ref 83), some (.int a0), some (.int a1)], [.int 0], _, _, _)) rfl ?_
      exact J64_17_ev sc n e he 0 _ _ _ _ _ _ h
    · rw [if_neg q2] at h
      refine pe_blk mm_64 1 (s' := (if a1 < 1000 then 16 else 12, [some (.ref 83), some (.int a0), some (.int a1)], [], _, _, _)) rfl ?_
      rw [if_neg q2]
      refine pe_blk mm_64 2 (s' := (17, [some (.ref 83), some (.int a0), some (.int a1)], [.int 1], _, _, _)) rfl ?_
      exact J64_17_ev sc n e he 1 _ _ _ _ _ _ h
  · rw [if_neg q1] at h
    refine pe_blk mm_64 1 (s' := (if a0 = 1 then 5 else 18, [some (.ref 83), some (.int a0), some (.int a1)], [], _, _, _)) rfl ?_
    rw [if_neg q1]
    refine pe_blk mm_64 2 (s' := (20, [some (.ref 83), some (.int a0), some (.int a1)], [.int 2, .int a0], _, _, _)) rfl ?_
    by_cases q4 : a0 = 2
    · rw [if_pos q4] at h
      refine pe_blk mm_64 1 (s' := (if a0 = 2 then 23 else 43, [some (.ref 83), some (.int a0), some (.int a1)], [], _, _, _)) rfl ?_
      rw [if_pos q4]
      refine pe_blk mm_64 2 (s' := (27, [some (.ref 83), some (.int a0), some (.int a1)], [.int 300, .int a1], _, _, _)) rfl ?_
      by_cases q5 : a1 < 300
      · rw [if_pos q5] at h
        refine pe_blk mm_64 1 (s' := (if a1 < 300 then 41 else 30, [some (.ref 83), some (.int a0), some (.int a1)], [], _, _, _)) rfl ?_
        rw [if_pos q5]
        exact J64_41_ev sc n e he _ _ _ _ _ _ h
      · rw [if_neg q5] at h
        refine pe_blk mm_64 1 (s' := (if a1 < 300 then 41 else 30, [some (.ref 83), some (.int a0), some (.int a1)], [], _, _, _)) rfl ?_
        rw [if_neg q5]
        refine pe_blk mm_64 2 (s' := (34, [some (.ref 83), some (.int a0), some (.int a1)], [.int 1000, .int a1], _, _, _)) rfl ?_
        by_cases q7 : 1000 ≤ a1
        · rw [if_pos q7] at h
          refine pe_blk mm_64 1 (s' := (if 1000 ≤ a1 then 41 else 37, [some (.ref 83), some (.int a0), some (.int a1)], [], _, _, _)) rfl ?_
          rw [if_pos q7]
          exact J64_41_ev sc n e he _ _ _ _ _ _ h
        · rw [if_neg q7] at h
          refine pe_blk mm_64 1 (s' := (if 1000 ≤ a1 then 41 else 37, [some (.ref 83), some (.int a0), some (.int a1)], [], _, _, _)) rfl ?_
          rw [if_neg q7]
          refine pe_blk mm_64 2 (s' := (42, [some (.ref 83), some (.int a0), some (.int a1)], [.int 1], _, _, _)) rfl ?_
          exact J64_42_ev sc n e he 1 _ _ _ _ _ _ h
    · rw [if_neg q4] at h
      refine pe_blk mm_64 1 (s' := (if a0 = 2 then 23 else 43, [some (.ref 83), some (.int a0), some (.int a1)], [], _, _, _)) rfl ?_
      rw [if_neg q4]
      refine pe_blk mm_64 2 (s' := (45, [some (.ref 83), some (.int a0), some (.int a1)], [.int 3, .int a0], _, _, _)) rfl ?_
      by_cases q8 : a0 = 3
      · rw [if_pos q8] at h
        refine pe_blk mm_64 1 (s' := (if a0 = 3 then 48 else 63, [some (.ref 83), some (.int a0), some (.int a1)], [], _, _, _)) rfl ?_
        rw [if_pos q8]
        refine pe_blk mm_64 1 (s' := (49, [some (.ref 83), some (.int a0), some (.int a1)], [.int a1], _, _, _)) rfl ?_
        obtain ⟨e1, rfl⟩ : ∃ e1, e = e1 + 1 := ⟨e - 1, by omega⟩
        cases hc11 : F22 n a1 M with
        | none => rw [hc11] at h; cases h
        | some w =>
          obtain ⟨v9, M10⟩ := w
          rw [hc11] at h
          dsimp only at h
          refine pe_stat (al := [.int a1]) (L0 := [some (.int a1)]) (r1 := (some (.int v9), 129, 17845, hp M10)) mm_64 rfl rfl rfl mm_22 rfl (Nat.le_of_ble_eq_true rfl) (Nat.le_of_ble_eq_true rfl) rfl rfl (F22_ev sc n a1 _ e1 (by omega) _ _ hc11) ?_
          show pm_ev _ _ _ _ _ (52, [some (.ref 83), some (.int a0), some (.int a1)], [.int v9], _, _, _) _
          by_cases q12 : v9 = 0
          · rw [if_pos q12] at h
            refine pe_blk mm_64 1 (s' := (if v9 = 0 then 55 else 59, [some (.ref 83), some (.int a0), some (.int a1)], [], _, _, _)) rfl ?_
            rw [if_pos q12]
            exact J64_55_ev sc n (e1 + 1) he _ _ _ _ _ _ h
          · rw [if_neg q12] at h
            refine pe_blk mm_64 1 (s' := (if v9 = 0 then 55 else 59, [some (.ref 83), some (.int a0), some (.int a1)], [], _, _, _)) rfl ?_
            rw [if_neg q12]
            exact J64_59_ev sc n (e1 + 1) he _ _ _ _ _ _ h
      · rw [if_neg q8] at h
        refine pe_blk mm_64 1 (s' := (if a0 = 3 then 48 else 63, [some (.ref 83), some (.int a0), some (.int a1)], [], _, _, _)) rfl ?_
        rw [if_neg q8]
        refine pe_blk mm_64 2 (s' := (67, [some (.ref 83), some (.int a0), some (.int a1)], [.int 300, .int a1], _, _, _)) rfl ?_
        by_cases q14 : 300 ≤ a1
        · rw [if_pos q14] at h
          refine pe_blk mm_64 1 (s' := (if 300 ≤ a1 then 76 else 70, [some (.ref 83), some (.int a0), some (.int a1)], [], _, _, _)) rfl ?_
          rw [if_pos q14]
          exact J64_76_ev sc n e he _ _ _ _ _ _ h
        · rw [if_neg q14] at h
          refine pe_blk mm_64 1 (s' := (if 300 ≤ a1 then 76 else 70, [some (.ref 83), some (.int a0), some (.int a1)], [], _, _, _)) rfl ?_
          rw [if_neg q14]
          refine pe_blk mm_64 2 (s' := (73, [some (.ref 83), some (.int a0), some (.int a1)], [.int 40, .int a1], _, _, _)) rfl ?_
          by_cases q15 : a1 = 40
          · rw [if_pos q15] at h
            refine pe_blk mm_64 1 (s' := (if a1 = 40 then 76 else 80, [some (.ref 83), some (.int a0), some (.int a1)], [], _, _, _)) rfl ?_
            rw [if_pos q15]
            exact J64_76_ev sc n e he _ _ _ _ _ _ h
          · rw [if_neg q15] at h
            refine pe_blk mm_64 1 (s' := (if a1 = 40 then 76 else 80, [some (.ref 83), some (.int a0), some (.int a1)], [], _, _, _)) rfl ?_
            rw [if_neg q15]
            exact J64_80_ev sc n e he _ _ _ _ _ _ h
def J65_44 (n : Nat) (s0 : Int32) (M : Mem) : Option (Int32 × Mem) :=
  some (s0, M)
set_option maxRecDepth 100000 in
set_option maxHeartbeats 4000000 in
theorem J65_44_ev (sc : Option (Nat × (Nat → Int32))) (n : Nat)  (e : Nat) (he : 5 ≤ e) : ∀ (s0 : Int32) (u0 : Option Value) (u1 : Option Value) (u2 : Option Value) (u3 : Option Value) (M : Mem) (r : Int32) (M' : Mem), J65_44 n s0 M = some (r, M') → pm_ev pmT sc e 65 false (44, [u0, u1, u2, u3], [.int s0], 129, 17845, hp M) (some (.int r), 129, 17845, hp M') := by
  intro s0 u0 u1 u2 u3 M r M' h
  unfold J65_44 at h
  cases h
  exact pe_ret mm_65 rfl rfl
def J65_41 (n : Nat) (x2 : Int32) (M : Mem) : Option (Int32 × Mem) :=
  J65_44 n (x2 + 1) M
set_option maxRecDepth 100000 in
set_option maxHeartbeats 4000000 in
theorem J65_41_ev (sc : Option (Nat × (Nat → Int32))) (n : Nat)  (e : Nat) (he : 5 ≤ e) : ∀ (x2 : Int32) (u0 : Option Value) (u1 : Option Value) (u3 : Option Value) (M : Mem) (r : Int32) (M' : Mem), J65_41 n x2 M = some (r, M') → pm_ev pmT sc e 65 false (41, [u0, u1, some (.int x2), u3], [], 129, 17845, hp M) (some (.int r), 129, 17845, hp M') := by
  intro x2 u0 u1 u3 M r M' h
  unfold J65_41 at h
  refine pe_blk mm_65 3 (s' := (44, [u0, u1, some (.int x2), u3], [.int (x2 + 1)], _, _, _)) rfl ?_
  exact J65_44_ev sc n e he (x2 + 1) _ _ _ _ _ _ _ h
def J65_31 (n : Nat) (x2 : Int32) (M : Mem) : Option (Int32 × Mem) :=
  match F61 n x2 M with | some (v11, M12) => (J65_44 n (v11 + 1) M12) | none => none
set_option maxRecDepth 100000 in
set_option maxHeartbeats 4000000 in
theorem J65_31_ev (sc : Option (Nat × (Nat → Int32))) (n : Nat)  (e : Nat) (he : 5 ≤ e) : ∀ (x2 : Int32) (u1 : Option Value) (u3 : Option Value) (M : Mem) (r : Int32) (M' : Mem), J65_31 n x2 M = some (r, M') → pm_ev pmT sc e 65 false (31, [some (.ref 83), u1, some (.int x2), u3], [], 129, 17845, hp M) (some (.int r), 129, 17845, hp M') := by
  intro x2 u1 u3 M r M' h
  unfold J65_31 at h
  refine pe_blk mm_65 2 (s' := (33, [some (.ref 83), u1, some (.int x2), u3], [.int x2, .ref 83], _, _, _)) rfl ?_
  obtain ⟨e1, rfl⟩ : ∃ e1, e = e1 + 1 := ⟨e - 1, by omega⟩
  cases hc13 : F61 n x2 M with
  | none => rw [hc13] at h; cases h
  | some w =>
    obtain ⟨v11, M12⟩ := w
    rw [hc13] at h
    dsimp only at h
    refine pe_virt (al := [.int x2]) (a := 83) (L0 := [some (.ref 83), some (.int x2), none, none]) (r1 := (some (.int v11), 129, 17845, hp M12)) mm_65 rfl rfl rfl mm_61 rfl (by decide) (by decide) rfl (Nat.le_of_ble_eq_true rfl) (Nat.le_of_ble_eq_true rfl) rfl rfl (F61_ev sc n x2 _ e1 (by omega) _ _ hc13) ?_
    show pm_ev _ _ _ _ _ (36, [some (.ref 83), u1, some (.int x2), u3], [.int v11], _, _, _) _
    refine pe_blk mm_65 3 (s' := (44, [some (.ref 83), u1, some (.int x2), u3], [.int (v11 + 1)], _, _, _)) rfl ?_
    exact J65_44_ev sc n (e1 + 1) he (v11 + 1) _ _ _ _ _ _ _ h
/-- ArmExpanderModel.take -/
def F65 (n : Nat) (a0 : Int32) (a1 : Int32) (a2 : Int32) (M : Mem) : Option (Int32 × Mem) :=
  if a0 = 4 then (match F63 n a1 a2 M with | some (v2, M3) => (J65_44 n v2 M3) | none => none) else (if a0 = 3 then (if a1 < 0 ∨ 320 ≤ (a1 : Int32).toNatClampNeg then none else (match F21 n (M.1 105 (a1 : Int32).toNatClampNeg) M with | some (v7, M8) => (if v7 = 0 then (J65_41 n a1 M8) else (J65_31 n a1 M8)) | none => none)) else (J65_41 n a1 M))
set_option maxRecDepth 100000 in
set_option maxHeartbeats 4000000 in
theorem F65_ev (sc : Option (Nat × (Nat → Int32))) (n : Nat) (a0 : Int32) (a1 : Int32) (a2 : Int32)  (M : Mem) (e : Nat) (he : 5 ≤ e) (r : Int32) (M' : Mem) (h : F65 n a0 a1 a2 M = some (r, M')) : pm_ev pmT sc e 65 false (0, [some (.ref 83), some (.int a0), some (.int a1), some (.int a2)], [], 129, 17845, hp M) (some (.int r), 129, 17845, hp M') := by
  unfold F65 at h
  refine pe_blk mm_65 2 (s' := (2, [some (.ref 83), some (.int a0), some (.int a1), some (.int a2)], [.int 4, .int a0], _, _, _)) rfl ?_
  by_cases q1 : a0 = 4
  · rw [if_pos q1] at h
    refine pe_blk mm_65 1 (s' := (if a0 = 4 then 5 else 14, [some (.ref 83), some (.int a0), some (.int a1), some (.int a2)], [], _, _, _)) rfl ?_
    rw [if_pos q1]
    refine pe_blk mm_65 3 (s' := (8, [some (.ref 83), some (.int a0), some (.int a1), some (.int a2)], [.int a2, .int a1, .ref 83], _, _, _)) rfl ?_
    obtain ⟨e1, rfl⟩ : ∃ e1, e = e1 + 1 := ⟨e - 1, by omega⟩
    cases hc4 : F63 n a1 a2 M with
    | none => rw [hc4] at h; cases h
    | some w =>
      obtain ⟨v2, M3⟩ := w
      rw [hc4] at h
      dsimp only at h
      refine pe_virt (al := [.int a2, .int a1]) (a := 83) (L0 := [some (.ref 83), some (.int a1), some (.int a2), none, none, none]) (r1 := (some (.int v2), 129, 17845, hp M3)) mm_65 rfl rfl rfl mm_63 rfl (by decide) (by decide) rfl (Nat.le_of_ble_eq_true rfl) (Nat.le_of_ble_eq_true rfl) rfl rfl (F63_ev sc n a1 a2 _ e1 (by omega) _ _ hc4) ?_
      show pm_ev _ _ _ _ _ (11, [some (.ref 83), some (.int a0), some (.int a1), some (.int a2)], [.int v2], _, _, _) _
      refine pe_blk mm_65 1 (s' := (44, [some (.ref 83), some (.int a0), some (.int a1), some (.int a2)], [.int v2], _, _, _)) rfl ?_
      exact J65_44_ev sc n (e1 + 1) he v2 _ _ _ _ _ _ _ h
  · rw [if_neg q1] at h
    refine pe_blk mm_65 1 (s' := (if a0 = 4 then 5 else 14, [some (.ref 83), some (.int a0), some (.int a1), some (.int a2)], [], _, _, _)) rfl ?_
    rw [if_neg q1]
    refine pe_blk mm_65 2 (s' := (16, [some (.ref 83), some (.int a0), some (.int a1), some (.int a2)], [.int 3, .int a0], _, _, _)) rfl ?_
    by_cases q5 : a0 = 3
    · rw [if_pos q5] at h
      refine pe_blk mm_65 1 (s' := (if a0 = 3 then 19 else 41, [some (.ref 83), some (.int a0), some (.int a1), some (.int a2)], [], _, _, _)) rfl ?_
      rw [if_pos q5]
      refine pe_blk mm_65 1 (s' := (20, [some (.ref 83), some (.int a0), some (.int a1), some (.int a2)], [.ref 83], _, _, _)) rfl ?_
      refine pe_get mm_65 rfl rfl rfl (by decide) rfl ?_
      refine pe_blk mm_65 1 (s' := (24, [some (.ref 83), some (.int a0), some (.int a1), some (.int a2)], [.int a1, .ref 105], _, _, _)) rfl ?_
      by_cases q6 : a1 < 0 ∨ 320 ≤ (a1 : Int32).toNatClampNeg
      · rw [if_pos q6] at h
        cases h
      · rw [if_neg q6] at h
        refine pe_iald (f := M.1 105) mm_65 rfl rfl (by decide) q6 ?_
        obtain ⟨e1, rfl⟩ : ∃ e1, e = e1 + 1 := ⟨e - 1, by omega⟩
        cases hc9 : F21 n (M.1 105 (a1 : Int32).toNatClampNeg) M with
        | none => rw [hc9] at h; cases h
        | some w =>
          obtain ⟨v7, M8⟩ := w
          rw [hc9] at h
          dsimp only at h
          refine pe_stat (al := [.int (M.1 105 (a1 : Int32).toNatClampNeg)]) (L0 := [some (.int (M.1 105 (a1 : Int32).toNatClampNeg))]) (r1 := (some (.int v7), 129, 17845, hp M8)) mm_65 rfl rfl rfl mm_21 rfl (Nat.le_of_ble_eq_true rfl) (Nat.le_of_ble_eq_true rfl) rfl rfl (F21_ev sc n (M.1 105 (a1 : Int32).toNatClampNeg) _ e1 (by omega) _ _ hc9) ?_
          show pm_ev _ _ _ _ _ (28, [some (.ref 83), some (.int a0), some (.int a1), some (.int a2)], [.int v7], _, _, _) _
          by_cases q10 : v7 = 0
          · rw [if_pos q10] at h
            refine pe_blk mm_65 1 (s' := (if v7 = 0 then 41 else 31, [some (.ref 83), some (.int a0), some (.int a1), some (.int a2)], [], _, _, _)) rfl ?_
            rw [if_pos q10]
            exact J65_41_ev sc n (e1 + 1) he a1 _ _ _ _ _ _ h
          · rw [if_neg q10] at h
            refine pe_blk mm_65 1 (s' := (if v7 = 0 then 41 else 31, [some (.ref 83), some (.int a0), some (.int a1), some (.int a2)], [], _, _, _)) rfl ?_
            rw [if_neg q10]
            exact J65_31_ev sc n (e1 + 1) he a1 _ _ _ _ _ h
    · rw [if_neg q5] at h
      refine pe_blk mm_65 1 (s' := (if a0 = 3 then 19 else 41, [some (.ref 83), some (.int a0), some (.int a1), some (.int a2)], [], _, _, _)) rfl ?_
      rw [if_neg q5]
      exact J65_41_ev sc n e he a1 _ _ _ _ _ _ h
def J68_45 (n : Nat) (rec8 : Int32 → Int32 → Int32 → Int32 → Mem → Option (Int32 × Mem)) (x1 : Int32) (x2 : Int32) (x4 : Int32) (s0 : Int32) (M : Mem) : Option (Int32 × Mem) :=
  rec8 x1 x2 s0 (x4 + 1) M
set_option maxRecDepth 100000 in
set_option maxHeartbeats 4000000 in
theorem J68_45_ev (sc : Option (Nat × (Nat → Int32))) (n : Nat)  (e : Nat) (he : 1 ≤ e) (rec8 : Int32 → Int32 → Int32 → Int32 → Mem → Option (Int32 × Mem)) (hr8 : ∀ (x1 : Int32) (x2 : Int32) (x3 : Int32) (x4 : Int32) (M : Mem) (r : Int32) (M' : Mem), rec8 x1 x2 x3 x4 M = some (r, M') → pm_ev pmT sc e 68 false (8, [some (.ref 83), some (.int x1), some (.int x2), some (.int x3), some (.int x4)], [], 129, 17845, hp M) (some (.int r), 129, 17845, hp M')) : ∀ (x1 : Int32) (x2 : Int32) (x4 : Int32) (s0 : Int32) (u3 : Option Value) (M : Mem) (r : Int32) (M' : Mem), J68_45 n rec8 x1 x2 x4 s0 M = some (r, M') → pm_ev pmT sc e 68 false (45, [some (.ref 83), some (.int x1), some (.int x2), u3, some (.int x4)], [.int s0], 129, 17845, hp M) (some (.int r), 129, 17845, hp M') := by
  intro x1 x2 x4 s0 u3 M r M' h
  unfold J68_45 at h
  refine pe_blk mm_68 3 (s' := (8, [some (.ref 83), some (.int x1), some (.int x2), some (.int s0), some (.int (x4 + 1))], [], _, _, _)) rfl ?_
  exact hr8 x1 x2 s0 (x4 + 1) _ _ _ h
def J68_39 (n : Nat) (rec8 : Int32 → Int32 → Int32 → Int32 → Mem → Option (Int32 × Mem)) (x1 : Int32) (x2 : Int32) (x4 : Int32) (M : Mem) : Option (Int32 × Mem) :=
  J68_45 n rec8 x1 x2 x4 x4 M
set_option maxRecDepth 100000 in
set_option maxHeartbeats 4000000 in
theorem J68_39_ev (sc : Option (Nat × (Nat → Int32))) (n : Nat)  (e : Nat) (he : 1 ≤ e) (rec8 : Int32 → Int32 → Int32 → Int32 → Mem → Option (Int32 × Mem)) (hr8 : ∀ (x1 : Int32) (x2 : Int32) (x3 : Int32) (x4 : Int32) (M : Mem) (r : Int32) (M' : Mem), rec8 x1 x2 x3 x4 M = some (r, M') → pm_ev pmT sc e 68 false (8, [some (.ref 83), some (.int x1), some (.int x2), some (.int x3), some (.int x4)], [], 129, 17845, hp M) (some (.int r), 129, 17845, hp M')) : ∀ (x1 : Int32) (x2 : Int32) (x4 : Int32) (u3 : Option Value) (M : Mem) (r : Int32) (M' : Mem), J68_39 n rec8 x1 x2 x4 M = some (r, M') → pm_ev pmT sc e 68 false (39, [some (.ref 83), some (.int x1), some (.int x2), u3, some (.int x4)], [], 129, 17845, hp M) (some (.int r), 129, 17845, hp M') := by
  intro x1 x2 x4 u3 M r M' h
  unfold J68_39 at h
  refine pe_blk mm_68 2 (s' := (45, [some (.ref 83), some (.int x1), some (.int x2), u3, some (.int x4)], [.int x4], _, _, _)) rfl ?_
  exact J68_45_ev sc n e he rec8 hr8 x1 x2 x4 x4 _ _ _ _ h
def J68_44 (n : Nat) (rec8 : Int32 → Int32 → Int32 → Int32 → Mem → Option (Int32 × Mem)) (x1 : Int32) (x2 : Int32) (x3 : Int32) (x4 : Int32) (M : Mem) : Option (Int32 × Mem) :=
  J68_45 n rec8 x1 x2 x4 x3 M
set_option maxRecDepth 100000 in
set_option maxHeartbeats 4000000 in
theorem J68_44_ev (sc : Option (Nat × (Nat → Int32))) (n : Nat)  (e : Nat) (he : 1 ≤ e) (rec8 : Int32 → Int32 → Int32 → Int32 → Mem → Option (Int32 × Mem)) (hr8 : ∀ (x1 : Int32) (x2 : Int32) (x3 : Int32) (x4 : Int32) (M : Mem) (r : Int32) (M' : Mem), rec8 x1 x2 x3 x4 M = some (r, M') → pm_ev pmT sc e 68 false (8, [some (.ref 83), some (.int x1), some (.int x2), some (.int x3), some (.int x4)], [], 129, 17845, hp M) (some (.int r), 129, 17845, hp M')) : ∀ (x1 : Int32) (x2 : Int32) (x3 : Int32) (x4 : Int32) (M : Mem) (r : Int32) (M' : Mem), J68_44 n rec8 x1 x2 x3 x4 M = some (r, M') → pm_ev pmT sc e 68 false (44, [some (.ref 83), some (.int x1), some (.int x2), some (.int x3), some (.int x4)], [], 129, 17845, hp M) (some (.int r), 129, 17845, hp M') := by
  intro x1 x2 x3 x4  M r M' h
  unfold J68_44 at h
  refine pe_blk mm_68 1 (s' := (45, [some (.ref 83), some (.int x1), some (.int x2), some (.int x3), some (.int x4)], [.int x3], _, _, _)) rfl ?_
  exact J68_45_ev sc n e he rec8 hr8 x1 x2 x4 x3 _ _ _ _ h
def L68_8 (n : Nat) : Nat → Int32 → Int32 → Int32 → Int32 → Mem → Option (Int32 × Mem)
  | 0, _, _, _, _, _ => none
  | k + 1, x1, x2, x3, x4, M => if (M.1 83 52) ≤ x4 then (some (x3, M)) else (if x4 < 0 ∨ 512 ≤ (x4 : Int32).toNatClampNeg then none else (if (M.1 119 (x4 : Int32).toNatClampNeg) = x1 then (if x4 < 0 ∨ 512 ≤ (x4 : Int32).toNatClampNeg then none else (if (M.1 120 (x4 : Int32).toNatClampNeg) = x2 then (J68_39 n (L68_8 n k) x1 x2 x4 M) else (J68_44 n (L68_8 n k) x1 x2 x3 x4 M))) else (J68_44 n (L68_8 n k) x1 x2 x3 x4 M)))
set_option maxRecDepth 100000 in
set_option maxHeartbeats 4000000 in
theorem L68_8_ev (sc : Option (Nat × (Nat → Int32))) (n : Nat)  (e : Nat) (he : 1 ≤ e) : ∀ k : Nat, ∀ (x1 : Int32) (x2 : Int32) (x3 : Int32) (x4 : Int32) (M : Mem) (r : Int32) (M' : Mem), L68_8 n k x1 x2 x3 x4 M = some (r, M') → pm_ev pmT sc e 68 false (8, [some (.ref 83), some (.int x1), some (.int x2), some (.int x3), some (.int x4)], [], 129, 17845, hp M) (some (.int r), 129, 17845, hp M') := by
  intro k
  induction k with
  | zero => intro x1 x2 x3 x4  M r M' h; cases h
  | succ k hr8 =>
    intro x1 x2 x3 x4  M r M' h
    rw [L68_8] at h
    refine pe_blk mm_68 2 (s' := (11, [some (.ref 83), some (.int x1), some (.int x2), some (.int x3), some (.int x4)], [.ref 83, .int x4], _, _, _)) rfl ?_
    refine pe_get mm_68 rfl rfl rfl (by decide) rfl ?_
    by_cases q1 : (M.1 83 52) ≤ x4
    · rw [if_pos q1] at h
      refine pe_blk mm_68 1 (s' := (if (M.1 83 52) ≤ x4 then 52 else 17, [some (.ref 83), some (.int x1), some (.int x2), some (.int x3), some (.int x4)], [], _, _, _)) rfl ?_
      rw [if_pos q1]
      refine pe_blk mm_68 1 (s' := (53, [some (.ref 83), some (.int x1), some (.int x2), some (.int x3), some (.int x4)], [.int x3], _, _, _)) rfl ?_
      cases h
      exact pe_ret mm_68 rfl rfl
    · rw [if_neg q1] at h
      refine pe_blk mm_68 1 (s' := (if (M.1 83 52) ≤ x4 then 52 else 17, [some (.ref 83), some (.int x1), some (.int x2), some (.int x3), some (.int x4)], [], _, _, _)) rfl ?_
      rw [if_neg q1]
      refine pe_blk mm_68 1 (s' := (18, [some (.ref 83), some (.int x1), some (.int x2), some (.int x3), some (.int x4)], [.ref 83], _, _, _)) rfl ?_
      refine pe_get mm_68 rfl rfl rfl (by decide) rfl ?_
      refine pe_blk mm_68 1 (s' := (23, [some (.ref 83), some (.int x1), some (.int x2), some (.int x3), some (.int x4)], [.int x4, .ref 119], _, _, _)) rfl ?_
      by_cases q2 : x4 < 0 ∨ 512 ≤ (x4 : Int32).toNatClampNeg
      · rw [if_pos q2] at h
        cases h
      · rw [if_neg q2] at h
        refine pe_iald (f := M.1 119) mm_68 rfl rfl (by decide) q2 ?_
        refine pe_blk mm_68 1 (s' := (25, [some (.ref 83), some (.int x1), some (.int x2), some (.int x3), some (.int x4)], [.int x1, .int (M.1 119 (x4 : Int32).toNatClampNeg)], _, _, _)) rfl ?_
        by_cases q3 : (M.1 119 (x4 : Int32).toNatClampNeg) = x1
        · rw [if_pos q3] at h
          refine pe_blk mm_68 1 (s' := (if (M.1 119 (x4 : Int32).toNatClampNeg) = x1 then 28 else 44, [some (.ref 83), some (.int x1), some (.int x2), some (.int x3), some (.int x4)], [], _, _, _)) rfl ?_
          rw [if_pos q3]
          refine pe_blk mm_68 1 (s' := (29, [some (.ref 83), some (.int x1), some (.int x2), some (.int x3), some (.int x4)], [.ref 83], _, _, _)) rfl ?_
          refine pe_get mm_68 rfl rfl rfl (by decide) rfl ?_
          refine pe_blk mm_68 1 (s' := (34, [some (.ref 83), some (.int x1), some (.int x2), some (.int x3), some (.int x4)], [.int x4, .ref 120], _, _, _)) rfl ?_
          by_cases q4 : x4 < 0 ∨ 512 ≤ (x4 : Int32).toNatClampNeg
          · rw [if_pos q4] at h
            cases h
          · rw [if_neg q4] at h
            refine pe_iald (f := M.1 120) mm_68 rfl rfl (by decide) q4 ?_
            refine pe_blk mm_68 1 (s' := (36, [some (.ref 83), some (.int x1), some (.int x2), some (.int x3), some (.int x4)], [.int x2, .int (M.1 120 (x4 : Int32).toNatClampNeg)], _, _, _)) rfl ?_
            by_cases q5 : (M.1 120 (x4 : Int32).toNatClampNeg) = x2
            · rw [if_pos q5] at h
              refine pe_blk mm_68 1 (s' := (if (M.1 120 (x4 : Int32).toNatClampNeg) = x2 then 39 else 44, [some (.ref 83), some (.int x1), some (.int x2), some (.int x3), some (.int x4)], [], _, _, _)) rfl ?_
              rw [if_pos q5]
              exact J68_39_ev sc n e he (L68_8 n k) hr8 x1 x2 x4 _ _ _ _ h
            · rw [if_neg q5] at h
              refine pe_blk mm_68 1 (s' := (if (M.1 120 (x4 : Int32).toNatClampNeg) = x2 then 39 else 44, [some (.ref 83), some (.int x1), some (.int x2), some (.int x3), some (.int x4)], [], _, _, _)) rfl ?_
              rw [if_neg q5]
              exact J68_44_ev sc n e he (L68_8 n k) hr8 x1 x2 x3 x4 _ _ _ h
        · rw [if_neg q3] at h
          refine pe_blk mm_68 1 (s' := (if (M.1 119 (x4 : Int32).toNatClampNeg) = x1 then 28 else 44, [some (.ref 83), some (.int x1), some (.int x2), some (.int x3), some (.int x4)], [], _, _, _)) rfl ?_
          rw [if_neg q3]
          exact J68_44_ev sc n e he (L68_8 n k) hr8 x1 x2 x3 x4 _ _ _ h
/-- ArmExpanderModel.entry -/
def F68 (n : Nat) (a0 : Int32) (a1 : Int32) (M : Mem) : Option (Int32 × Mem) :=
  L68_8 n n a0 a1 (M.1 83 52) 0 M
set_option maxRecDepth 100000 in
set_option maxHeartbeats 4000000 in
theorem F68_ev (sc : Option (Nat × (Nat → Int32))) (n : Nat) (a0 : Int32) (a1 : Int32)  (M : Mem) (e : Nat) (he : 1 ≤ e) (r : Int32) (M' : Mem) (h : F68 n a0 a1 M = some (r, M')) : pm_ev pmT sc e 68 false (0, [some (.ref 83), some (.int a0), some (.int a1), none, none], [], 129, 17845, hp M) (some (.int r), 129, 17845, hp M') := by
  unfold F68 at h
  refine pe_blk mm_68 1 (s' := (1, [some (.ref 83), some (.int a0), some (.int a1), none, none], [.ref 83], _, _, _)) rfl ?_
  refine pe_get mm_68 rfl rfl rfl (by decide) rfl ?_
  refine pe_blk mm_68 3 (s' := (8, [some (.ref 83), some (.int a0), some (.int a1), some (.int (M.1 83 52)), some (.int 0)], [], _, _, _)) rfl ?_
  exact L68_8_ev sc n e he n a0 a1 (M.1 83 52) 0 _ _ _ h
def J69_25 (n : Nat) (s0 : Int32) (M : Mem) : Option (Int32 × Mem) :=
  some (s0, M)
set_option maxRecDepth 100000 in
set_option maxHeartbeats 4000000 in
theorem J69_25_ev (sc : Option (Nat × (Nat → Int32))) (n : Nat)  (e : Nat) (he : 2 ≤ e) : ∀ (s0 : Int32) (u0 : Option Value) (u1 : Option Value) (u2 : Option Value) (u3 : Option Value) (M : Mem) (r : Int32) (M' : Mem), J69_25 n s0 M = some (r, M') → pm_ev pmT sc e 69 false (25, [u0, u1, u2, u3], [.int s0], 129, 17845, hp M) (some (.int r), 129, 17845, hp M') := by
  intro s0 u0 u1 u2 u3 M r M' h
  unfold J69_25 at h
  cases h
  exact pe_ret mm_69 rfl rfl
/-- ArmExpanderModel.innerCount -/
def F69 (n : Nat) (a0 : Int32) (a1 : Int32) (M : Mem) : Option (Int32 × Mem) :=
  match F68 n a0 a1 M with | some (v1, M2) => (if (M2.1 83 52) ≤ v1 then (J69_25 n 0 M2) else (if v1 < 0 ∨ 512 ≤ (v1 : Int32).toNatClampNeg then none else (J69_25 n (M2.1 121 (v1 : Int32).toNatClampNeg) M2))) | none => none
set_option maxRecDepth 100000 in
set_option maxHeartbeats 4000000 in
theorem F69_ev (sc : Option (Nat × (Nat → Int32))) (n : Nat) (a0 : Int32) (a1 : Int32)  (M : Mem) (e : Nat) (he : 2 ≤ e) (r : Int32) (M' : Mem) (h : F69 n a0 a1 M = some (r, M')) : pm_ev pmT sc e 69 false (0, [some (.ref 83), some (.int a0), some (.int a1), none], [], 129, 17845, hp M) (some (.int r), 129, 17845, hp M') := by
  unfold F69 at h
  refine pe_blk mm_69 3 (s' := (3, [some (.ref 83), some (.int a0), some (.int a1), none], [.int a1, .int a0, .ref 83], _, _, _)) rfl ?_
  obtain ⟨e1, rfl⟩ : ∃ e1, e = e1 + 1 := ⟨e - 1, by omega⟩
  cases hc3 : F68 n a0 a1 M with
  | none => rw [hc3] at h; cases h
  | some w =>
    obtain ⟨v1, M2⟩ := w
    rw [hc3] at h
    dsimp only at h
    refine pe_virt (al := [.int a1, .int a0]) (a := 83) (L0 := [some (.ref 83), some (.int a0), some (.int a1), none, none]) (r1 := (some (.int v1), 129, 17845, hp M2)) mm_69 rfl rfl rfl mm_68 rfl (by decide) (by decide) rfl (Nat.le_of_ble_eq_true rfl) (Nat.le_of_ble_eq_true rfl) rfl rfl (F68_ev sc n a0 a1 _ e1 (by omega) _ _ hc3) ?_
    show pm_ev _ _ _ _ _ (6, [some (.ref 83), some (.int a0), some (.int a1), none], [.int v1], _, _, _) _
    refine pe_blk mm_69 3 (s' := (9, [some (.ref 83), some (.int a0), some (.int a1), some (.int v1)], [.ref 83, .int v1], _, _, _)) rfl ?_
    refine pe_get mm_69 rfl rfl rfl (by decide) rfl ?_
    by_cases q4 : (M2.1 83 52) ≤ v1
    · rw [if_pos q4] at h
      refine pe_blk mm_69 1 (s' := (if (M2.1 83 52) ≤ v1 then 24 else 15, [some (.ref 83), some (.int a0), some (.int a1), some (.int v1)], [], _, _, _)) rfl ?_
      rw [if_pos q4]
      refine pe_blk mm_69 1 (s' := (25, [some (.ref 83), some (.int a0), some (.int a1), some (.int v1)], [.int 0], _, _, _)) rfl ?_
      exact J69_25_ev sc n (e1 + 1) he 0 _ _ _ _ _ _ _ h
    · rw [if_neg q4] at h
      refine pe_blk mm_69 1 (s' := (if (M2.1 83 52) ≤ v1 then 24 else 15, [some (.ref 83), some (.int a0), some (.int a1), some (.int v1)], [], _, _, _)) rfl ?_
      rw [if_neg q4]
      refine pe_blk mm_69 1 (s' := (16, [some (.ref 83), some (.int a0), some (.int a1), some (.int v1)], [.ref 83], _, _, _)) rfl ?_
      refine pe_get mm_69 rfl rfl rfl (by decide) rfl ?_
      refine pe_blk mm_69 1 (s' := (20, [some (.ref 83), some (.int a0), some (.int a1), some (.int v1)], [.int v1, .ref 121], _, _, _)) rfl ?_
      by_cases q5 : v1 < 0 ∨ 512 ≤ (v1 : Int32).toNatClampNeg
      · rw [if_pos q5] at h
        cases h
      · rw [if_neg q5] at h
        refine pe_iald (f := M2.1 121) mm_69 rfl rfl (by decide) q5 ?_
        refine pe_blk mm_69 1 (s' := (25, [some (.ref 83), some (.int a0), some (.int a1), some (.int v1)], [.int (M2.1 121 (v1 : Int32).toNatClampNeg)], _, _, _)) rfl ?_
        exact J69_25_ev sc n (e1 + 1) he (M2.1 121 (v1 : Int32).toNatClampNeg) _ _ _ _ _ _ _ h
def J70_100 (n : Nat) (M : Mem) : Option (Unit × Mem) :=
  some ((), M)
set_option maxRecDepth 100000 in
set_option maxHeartbeats 4000000 in
theorem J70_100_ev (sc : Option (Nat × (Nat → Int32))) (n : Nat)  (e : Nat) (he : 2 ≤ e) : ∀ (u0 : Option Value) (u1 : Option Value) (u2 : Option Value) (u3 : Option Value) (M : Mem) (r : Unit) (M' : Mem), J70_100 n  M = some (r, M') → pm_ev pmT sc e 70 false (100, [u0, u1, u2, u3], [], 129, 17845, hp M) (none, 129, 17845, hp M') := by
  intro u0 u1 u2 u3 M r M' h
  unfold J70_100 at h
  cases h
  exact pe_ret mm_70 rfl rfl
def J70_86 (n : Nat) (x3 : Int32) (M : Mem) : Option (Unit × Mem) :=
  if x3 < 0 ∨ 512 ≤ (x3 : Int32).toNatClampNeg then none else (if x3 < 0 ∨ 512 ≤ (x3 : Int32).toNatClampNeg then none else (mlet (m_i M 121 (x3 : Int32).toNatClampNeg ((M.1 121 (x3 : Int32).toNatClampNeg) + 1)) (fun M18 => J70_100 n M18)))
set_option maxRecDepth 100000 in
set_option maxHeartbeats 4000000 in
theorem J70_86_ev (sc : Option (Nat × (Nat → Int32))) (n : Nat)  (e : Nat) (he : 2 ≤ e) : ∀ (x3 : Int32) (u1 : Option Value) (u2 : Option Value) (M : Mem) (r : Unit) (M' : Mem), J70_86 n x3 M = some (r, M') → pm_ev pmT sc e 70 false (86, [some (.ref 83), u1, u2, some (.int x3)], [], 129, 17845, hp M) (none, 129, 17845, hp M') := by
  intro x3 u1 u2 M r M' h
  unfold J70_86 at h
  refine pe_blk mm_70 1 (s' := (87, [some (.ref 83), u1, u2, some (.int x3)], [.ref 83], _, _, _)) rfl ?_
  refine pe_get mm_70 rfl rfl rfl (by decide) rfl ?_
  refine pe_blk mm_70 2 (s' := (92, [some (.ref 83), u1, u2, some (.int x3)], [.ref 83, .int x3, .ref 121], _, _, _)) rfl ?_
  refine pe_get mm_70 rfl rfl rfl (by decide) rfl ?_
  refine pe_blk mm_70 1 (s' := (96, [some (.ref 83), u1, u2, some (.int x3)], [.int x3, .ref 121, .int x3, .ref 121], _, _, _)) rfl ?_
  by_cases q16 : x3 < 0 ∨ 512 ≤ (x3 : Int32).toNatClampNeg
  · rw [if_pos q16] at h
    cases h
  · rw [if_neg q16] at h
    refine pe_iald (f := M.1 121) mm_70 rfl rfl (by decide) q16 ?_
    refine pe_blk mm_70 2 (s' := (99, [some (.ref 83), u1, u2, some (.int x3)], [.int ((M.1 121 (x3 : Int32).toNatClampNeg) + 1), .int x3, .ref 121], _, _, _)) rfl ?_
    by_cases q17 : x3 < 0 ∨ 512 ≤ (x3 : Int32).toNatClampNeg
    · rw [if_pos q17] at h
      cases h
    · rw [if_neg q17] at h
      refine pe_iasti mm_70 rfl rfl (by decide) q17 rfl ?_
      show pm_ev _ _ _ _ _ (100, [some (.ref 83), u1, u2, some (.int x3)], [], _, _, hp (m_i M 121 (x3 : Int32).toNatClampNeg ((M.1 121 (x3 : Int32).toNatClampNeg) + 1))) _
      generalize m_i M 121 (x3 : Int32).toNatClampNeg ((M.1 121 (x3 : Int32).toNatClampNeg) + 1) = M18 at h ⊢
      rw [mlet] at h
      exact J70_100_ev sc n e he _ _ _ _ _ _ _ h
def J70_76 (n : Nat) (x3 : Int32) (M : Mem) : Option (Unit × Mem) :=
  mlet (m_i M 83 52 ((M.1 83 52) + 1)) (fun M15 => J70_86 n x3 M15)
set_option maxRecDepth 100000 in
set_option maxHeartbeats 4000000 in
theorem J70_76_ev (sc : Option (Nat × (Nat → Int32))) (n : Nat)  (e : Nat) (he : 2 ≤ e) : ∀ (x3 : Int32) (u1 : Option Value) (u2 : Option Value) (M : Mem) (r : Unit) (M' : Mem), J70_76 n x3 M = some (r, M') → pm_ev pmT sc e 70 false (76, [some (.ref 83), u1, u2, some (.int x3)], [], 129, 17845, hp M) (none, 129, 17845, hp M') := by
  intro x3 u1 u2 M r M' h
  unfold J70_76 at h
  refine pe_blk mm_70 2 (s' := (78, [some (.ref 83), u1, u2, some (.int x3)], [.ref 83, .ref 83], _, _, _)) rfl ?_
  refine pe_get mm_70 rfl rfl rfl (by decide) rfl ?_
  refine pe_blk mm_70 2 (s' := (83, [some (.ref 83), u1, u2, some (.int x3)], [.int ((M.1 83 52) + 1), .ref 83], _, _, _)) rfl ?_
  refine pe_puti mm_70 rfl rfl rfl (by decide) (Nat.le_of_ble_eq_true rfl) rfl rfl ?_
  show pm_ev _ _ _ _ _ (86, [some (.ref 83), u1, u2, some (.int x3)], [], _, _, hp (m_i M 83 52 ((M.1 83 52) + 1))) _
  generalize m_i M 83 52 ((M.1 83 52) + 1) = M15 at h ⊢
  rw [mlet] at h
  exact J70_86_ev sc n e he x3 _ _ _ _ _ h
def J70_62 (n : Nat) (x2 : Int32) (x3 : Int32) (M : Mem) : Option (Unit × Mem) :=
  if x3 < 0 ∨ 512 ≤ (x3 : Int32).toNatClampNeg then none else (mlet (m_i M 120 (x3 : Int32).toNatClampNeg x2) (fun M12 => if x3 < 0 ∨ 512 ≤ (x3 : Int32).toNatClampNeg then none else (mlet (m_i M12 121 (x3 : Int32).toNatClampNeg 0) (fun M14 => J70_76 n x3 M14))))
set_option maxRecDepth 100000 in
set_option maxHeartbeats 4000000 in
theorem J70_62_ev (sc : Option (Nat × (Nat → Int32))) (n : Nat)  (e : Nat) (he : 2 ≤ e) : ∀ (x2 : Int32) (x3 : Int32) (u1 : Option Value) (M : Mem) (r : Unit) (M' : Mem), J70_62 n x2 x3 M = some (r, M') → pm_ev pmT sc e 70 false (62, [some (.ref 83), u1, some (.int x2), some (.int x3)], [], 129, 17845, hp M) (none, 129, 17845, hp M') := by
  intro x2 x3 u1 M r M' h
  unfold J70_62 at h
  refine pe_blk mm_70 1 (s' := (63, [some (.ref 83), u1, some (.int x2), some (.int x3)], [.ref 83], _, _, _)) rfl ?_
  refine pe_get mm_70 rfl rfl rfl (by decide) rfl ?_
  refine pe_blk mm_70 2 (s' := (68, [some (.ref 83), u1, some (.int x2), some (.int x3)], [.int x2, .int x3, .ref 120], _, _, _)) rfl ?_
  by_cases q11 : x3 < 0 ∨ 512 ≤ (x3 : Int32).toNatClampNeg
  · rw [if_pos q11] at h
    cases h
  · rw [if_neg q11] at h
    refine pe_iasti mm_70 rfl rfl (by decide) q11 rfl ?_
    show pm_ev _ _ _ _ _ (69, [some (.ref 83), u1, some (.int x2), some (.int x3)], [], _, _, hp (m_i M 120 (x3 : Int32).toNatClampNeg x2)) _
    generalize m_i M 120 (x3 : Int32).toNatClampNeg x2 = M12 at h ⊢
    rw [mlet] at h
    refine pe_blk mm_70 1 (s' := (70, [some (.ref 83), u1, some (.int x2), some (.int x3)], [.ref 83], _, _, _)) rfl ?_
    refine pe_get mm_70 rfl rfl rfl (by decide) rfl ?_
    refine pe_blk mm_70 2 (s' := (75, [some (.ref 83), u1, some (.int x2), some (.int x3)], [.int 0, .int x3, .ref 121], _, _, _)) rfl ?_
    by_cases q13 : x3 < 0 ∨ 512 ≤ (x3 : Int32).toNatClampNeg
    · rw [if_pos q13] at h
      cases h
    · rw [if_neg q13] at h
      refine pe_iasti mm_70 rfl rfl (by decide) q13 rfl ?_
      show pm_ev _ _ _ _ _ (76, [some (.ref 83), u1, some (.int x2), some (.int x3)], [], _, _, hp (m_i M12 121 (x3 : Int32).toNatClampNeg 0)) _
      generalize m_i M12 121 (x3 : Int32).toNatClampNeg 0 = M14 at h ⊢
      rw [mlet] at h
      exact J70_76_ev sc n e he x3 _ _ _ _ _ h
def J70_40 (n : Nat) (x1 : Int32) (x2 : Int32) (M : Mem) : Option (Unit × Mem) :=
  match F68 n x1 x2 M with | some (v5, M6) => (if v5 = (M6.1 83 52) then (if v5 < 0 ∨ 512 ≤ (v5 : Int32).toNatClampNeg then none else (mlet (m_i M6 119 (v5 : Int32).toNatClampNeg x1) (fun M10 => J70_62 n x2 v5 M10))) else (J70_86 n v5 M6)) | none => none
set_option maxRecDepth 100000 in
set_option maxHeartbeats 4000000 in
theorem J70_40_ev (sc : Option (Nat × (Nat → Int32))) (n : Nat)  (e : Nat) (he : 2 ≤ e) : ∀ (x1 : Int32) (x2 : Int32) (u3 : Option Value) (M : Mem) (r : Unit) (M' : Mem), J70_40 n x1 x2 M = some (r, M') → pm_ev pmT sc e 70 false (40, [some (.ref 83), some (.int x1), some (.int x2), u3], [], 129, 17845, hp M) (none, 129, 17845, hp M') := by
  intro x1 x2 u3 M r M' h
  unfold J70_40 at h
  refine pe_blk mm_70 3 (s' := (43, [some (.ref 83), some (.int x1), some (.int x2), u3], [.int x2, .int x1, .ref 83], _, _, _)) rfl ?_
  obtain ⟨e1, rfl⟩ : ∃ e1, e = e1 + 1 := ⟨e - 1, by omega⟩
  cases hc7 : F68 n x1 x2 M with
  | none => rw [hc7] at h; cases h
  | some w =>
    obtain ⟨v5, M6⟩ := w
    rw [hc7] at h
    dsimp only at h
    refine pe_virt (al := [.int x2, .int x1]) (a := 83) (L0 := [some (.ref 83), some (.int x1), some (.int x2), none, none]) (r1 := (some (.int v5), 129, 17845, hp M6)) mm_70 rfl rfl rfl mm_68 rfl (by decide) (by decide) rfl (Nat.le_of_ble_eq_true rfl) (Nat.le_of_ble_eq_true rfl) rfl rfl (F68_ev sc n x1 x2 _ e1 (by omega) _ _ hc7) ?_
    show pm_ev _ _ _ _ _ (46, [some (.ref 83), some (.int x1), some (.int x2), u3], [.int v5], _, _, _) _
    refine pe_blk mm_70 3 (s' := (49, [some (.ref 83), some (.int x1), some (.int x2), some (.int v5)], [.ref 83, .int v5], _, _, _)) rfl ?_
    refine pe_get mm_70 rfl rfl rfl (by decide) rfl ?_
    by_cases q8 : v5 = (M6.1 83 52)
    · rw [if_pos q8] at h
      refine pe_blk mm_70 1 (s' := (if v5 = (M6.1 83 52) then 55 else 86, [some (.ref 83), some (.int x1), some (.int x2), some (.int v5)], [], _, _, _)) rfl ?_
      rw [if_pos q8]
      refine pe_blk mm_70 1 (s' := (56, [some (.ref 83), some (.int x1), some (.int x2), some (.int v5)], [.ref 83], _, _, _)) rfl ?_
      refine pe_get mm_70 rfl rfl rfl (by decide) rfl ?_
      refine pe_blk mm_70 2 (s' := (61, [some (.ref 83), some (.int x1), some (.int x2), some (.int v5)], [.int x1, .int v5, .ref 119], _, _, _)) rfl ?_
      by_cases q9 : v5 < 0 ∨ 512 ≤ (v5 : Int32).toNatClampNeg
      · rw [if_pos q9] at h
        cases h
      · rw [if_neg q9] at h
        refine pe_iasti mm_70 rfl rfl (by decide) q9 rfl ?_
        show pm_ev _ _ _ _ _ (62, [some (.ref 83), some (.int x1), some (.int x2), some (.int v5)], [], _, _, hp (m_i M6 119 (v5 : Int32).toNatClampNeg x1)) _
        generalize m_i M6 119 (v5 : Int32).toNatClampNeg x1 = M10 at h ⊢
        rw [mlet] at h
        exact J70_62_ev sc n (e1 + 1) he x2 v5 _ _ _ _ h
    · rw [if_neg q8] at h
      refine pe_blk mm_70 1 (s' := (if v5 = (M6.1 83 52) then 55 else 86, [some (.ref 83), some (.int x1), some (.int x2), some (.int v5)], [], _, _, _)) rfl ?_
      rw [if_neg q8]
      exact J70_86_ev sc n (e1 + 1) he v5 _ _ _ _ _ h
/-- ArmExpanderModel.newRound -/
def F70 (n : Nat) (a0 : Int32) (M : Mem) : Option (Unit × Mem) :=
  if a0 < 0 ∨ 128 ≤ (a0 : Int32).toNatClampNeg then none else (if 0 ≤ (M.1 95 (a0 : Int32).toNatClampNeg) then (if a0 < 0 ∨ 128 ≤ (a0 : Int32).toNatClampNeg then none else (if (M.1 95 (a0 : Int32).toNatClampNeg) < 0 ∨ 128 ≤ (M.1 95 (a0 : Int32).toNatClampNeg : Int32).toNatClampNeg then none else (J70_40 n a0 ((M.1 118 (M.1 95 (a0 : Int32).toNatClampNeg : Int32).toNatClampNeg) - 1) M))) else (if a0 < 0 ∨ 128 ≤ (a0 : Int32).toNatClampNeg then none else (if a0 < 0 ∨ 128 ≤ (a0 : Int32).toNatClampNeg then none else (mlet (m_i M 118 (a0 : Int32).toNatClampNeg ((M.1 118 (a0 : Int32).toNatClampNeg) + 1)) (fun M21 => J70_100 n M21)))))
set_option maxRecDepth 100000 in
set_option maxHeartbeats 4000000 in
theorem F70_ev (sc : Option (Nat × (Nat → Int32))) (n : Nat) (a0 : Int32)  (M : Mem) (e : Nat) (he : 2 ≤ e) (r : Unit) (M' : Mem) (h : F70 n a0 M = some (r, M')) : pm_ev pmT sc e 70 false (0, [some (.ref 83), some (.int a0), none, none], [], 129, 17845, hp M) (none, 129, 17845, hp M') := by
  unfold F70 at h
  refine pe_blk mm_70 1 (s' := (1, [some (.ref 83), some (.int a0), none, none], [.ref 83], _, _, _)) rfl ?_
  refine pe_get mm_70 rfl rfl rfl (by decide) rfl ?_
  refine pe_blk mm_70 1 (s' := (5, [some (.ref 83), some (.int a0), none, none], [.int a0, .ref 95], _, _, _)) rfl ?_
  by_cases q1 : a0 < 0 ∨ 128 ≤ (a0 : Int32).toNatClampNeg
  · rw [if_pos q1] at h
    cases h
  · rw [if_neg q1] at h
    refine pe_iald (f := M.1 95) mm_70 rfl rfl (by decide) q1 ?_
    by_cases q2 : 0 ≤ (M.1 95 (a0 : Int32).toNatClampNeg)
    · rw [if_pos q2] at h
      refine pe_blk mm_70 1 (s' := (if 0 ≤ (M.1 95 (a0 : Int32).toNatClampNeg) then 26 else 9, [some (.ref 83), some (.int a0), none, none], [], _, _, _)) rfl ?_
      rw [if_pos q2]
      refine pe_blk mm_70 1 (s' := (27, [some (.ref 83), some (.int a0), none, none], [.ref 83], _, _, _)) rfl ?_
      refine pe_get mm_70 rfl rfl rfl (by decide) rfl ?_
      refine pe_blk mm_70 1 (s' := (31, [some (.ref 83), some (.int a0), none, none], [.ref 83, .ref 118], _, _, _)) rfl ?_
      refine pe_get mm_70 rfl rfl rfl (by decide) rfl ?_
      refine pe_blk mm_70 1 (s' := (35, [some (.ref 83), some (.int a0), none, none], [.int a0, .ref 95, .ref 118], _, _, _)) rfl ?_
      by_cases q3 : a0 < 0 ∨ 128 ≤ (a0 : Int32).toNatClampNeg
      · rw [if_pos q3] at h
        cases h
      · rw [if_neg q3] at h
        refine pe_iald (f := M.1 95) mm_70 rfl rfl (by decide) q3 ?_
        by_cases q4 : (M.1 95 (a0 : Int32).toNatClampNeg) < 0 ∨ 128 ≤ (M.1 95 (a0 : Int32).toNatClampNeg : Int32).toNatClampNeg
        · rw [if_pos q4] at h
          cases h
        · rw [if_neg q4] at h
          refine pe_iald (f := M.1 118) mm_70 rfl rfl (by decide) q4 ?_
          refine pe_blk mm_70 3 (s' := (40, [some (.ref 83), some (.int a0), some (.int ((M.1 118 (M.1 95 (a0 : Int32).toNatClampNeg : Int32).toNatClampNeg) - 1)), none], [], _, _, _)) rfl ?_
          exact J70_40_ev sc n e he a0 ((M.1 118 (M.1 95 (a0 : Int32).toNatClampNeg : Int32).toNatClampNeg) - 1) _ _ _ _ h
    · rw [if_neg q2] at h
      refine pe_blk mm_70 1 (s' := (if 0 ≤ (M.1 95 (a0 : Int32).toNatClampNeg) then 26 else 9, [some (.ref 83), some (.int a0), none, none], [], _, _, _)) rfl ?_
      rw [if_neg q2]
      refine pe_blk mm_70 1 (s' := (10, [some (.ref 83), some (.int a0), none, none], [.ref 83], _, _, _)) rfl ?_
      refine pe_get mm_70 rfl rfl rfl (by decide) rfl ?_
      refine pe_blk mm_70 2 (s' := (15, [some (.ref 83), some (.int a0), none, none], [.ref 83, .int a0, .ref 118], _, _, _)) rfl ?_
      refine pe_get mm_70 rfl rfl rfl (by decide) rfl ?_
      refine pe_blk mm_70 1 (s' := (19, [some (.ref 83), some (.int a0), none, none], [.int a0, .ref 118, .int a0, .ref 118], _, _, _)) rfl ?_
      by_cases q19 : a0 < 0 ∨ 128 ≤ (a0 : Int32).toNatClampNeg
      · rw [if_pos q19] at h
        cases h
      · rw [if_neg q19] at h
        refine pe_iald (f := M.1 118) mm_70 rfl rfl (by decide) q19 ?_
        refine pe_blk mm_70 2 (s' := (22, [some (.ref 83), some (.int a0), none, none], [.int ((M.1 118 (a0 : Int32).toNatClampNeg) + 1), .int a0, .ref 118], _, _, _)) rfl ?_
        by_cases q20 : a0 < 0 ∨ 128 ≤ (a0 : Int32).toNatClampNeg
        · rw [if_pos q20] at h
          cases h
        · rw [if_neg q20] at h
          refine pe_iasti mm_70 rfl rfl (by decide) q20 rfl ?_
          show pm_ev _ _ _ _ _ (23, [some (.ref 83), some (.int a0), none, none], [], _, _, hp (m_i M 118 (a0 : Int32).toNatClampNeg ((M.1 118 (a0 : Int32).toNatClampNeg) + 1))) _
          generalize m_i M 118 (a0 : Int32).toNatClampNeg ((M.1 118 (a0 : Int32).toNatClampNeg) + 1) = M21 at h ⊢
          rw [mlet] at h
          refine pe_blk mm_70 1 (s' := (100, [some (.ref 83), some (.int a0), none, none], [], _, _, _)) rfl ?_
          exact J70_100_ev sc n e he _ _ _ _ _ _ _ h
